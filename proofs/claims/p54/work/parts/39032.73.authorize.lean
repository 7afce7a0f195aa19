/-! ===== authorize ===== -/
/-- another list's elements lie where they lay, whichever list got a new one -/
theorem lel_othG {T : Nat → Nat} {S0 S' : AS} {d n q i q0 : Nat} (hT : TI T S0) (hq : q < 7) (hq0 : q0 < 7) (hne : q ≠ q0) (hd : ∀ k, T k ≠ 0 → kd (T k) ≠ 1 → T k ≠ 30 + q0 → k ≠ d) (hR : ∀ k j, k < sN S0 → ¬ (k = lp q0 ∧ j = 1) → ¬ (k = d ∧ j = n) → sR S' k j = sR S0 k j) (hi : (i : Int) < (sI S0 (lp q) 2).toInt) : lel S' (lp q) i = lel S0 (lp q) i := by
  obtain ⟨l1, e, l2, l3, l4, l5, l6⟩ := hT.t6 q hq
  have l0 := (hT.t6 q0 hq0).1
  have te : T e = 30 + q := by
    rcases l3 with l3 | l3
    · exact l3
    · rw [l3, hT.t8.2.2.2.2.2.1] at l4
      omega
  have hk := (lp_all q hq).2.2.1
  have nlp : lp q ≠ lp q0 := fun z => by
    rw [← z, l1] at l0
    omega
  have ne : e ≠ d := hd e (by rw [te]; omega) (by rw [te, hk]; decide) (by rw [te]; omega)
  have nl : lp q ≠ d := hd _ (by rw [l1]; omega) (by
    rw [l1]
    match q, hq with
    | 0, _ => decide
    | 1, _ => decide
    | 2, _ => decide
    | 3, _ => decide
    | 4, _ => decide
    | 5, _ => decide
    | 6, _ => decide) (by rw [l1]; omega)
  have n0 : e ≠ lp q0 := fun z => by
    rw [← z, te] at l0
    omega
  unfold lel
  rw [hR (lp q) 1 (hT.t1 _ (by rw [l1]; omega)).1 (by omega) (by omega), l2]
  show (sR S' e i).getD 0 = (sR S0 e i).getD 0
  rw [hR e i (hT.t1 _ (by rw [te]; omega)).1 (by omega) (by omega)]
theorem p_grI {S1 : AS} {z : Nat} {x : Option Nat} {c v s now : Int32} : Hp (f_Grant_init S1 (some z) x c v s now) (fun S' => S' = wI (wI (wI (wI (wR (wI (wI S1 z 5 (-1)) z 9 (-1)) z 0 x) z 1 c) z 2 v) z 3 s) z 4 now) := by
  unfold f_Grant_init
  exact p_of st_val (p_of st_pI (p_of st_pI (p_of st_pR (p_of st_pI (p_of st_pI (p_of st_pI (p_of st_pI (p_ret rfl))))))))
theorem ix24 : ∀ c, c < 4 → ((24 : Int32) + Int32.ofNat c).toNatClampNeg = 24 + c := by decide +kernel
section
variable {T Tm : Nat → Nat} {S m : AS}
def P_auth (S m : AS) : Prop := cUsd S m ∧ cCod S m ∧ cFre S m ∧ cFam S m
theorem FR_auth (h : FR S m) : P_auth S m := ⟨h.Usd, h.Cod, h.Fre, h.Fam⟩
/-- a session is used: nothing but that -/
theorem used_P (hT : TV T S) (hm : TI Tm m) (h : FR S m) {s : Nat} (s1 : s < nS m) : P_auth (wI S (lel S 19 s) 5 (sI m 57 0)) (wI (wI m 57 82 0) 87 s (sI m 57 0)) := by
  have b := FR_BB hT hm h
  have ts := tyS b s1
  have lv : ∀ {p j : Nat}, ¬ (p = 57 ∧ j = 82) → ¬ (p = 87 ∧ j = s) → sI (wI (wI m 57 82 0) 87 s (sI m 57 0)) p j = sI m p j := fun a1 a2 => (ti_sI_ne a2).trans (lv0 m a1 0)
  have oS : ∀ {k τ : Nat} (j : Nat), T k = τ → τ ≠ 43 → sI (wI S (lel S 19 s) 5 (sI m 57 0)) k j = sI S k j := fun j hk ht => ti_sI_ne (fun q => by
    rw [q.1, ts] at hk
    exact ht hk.symm)
  have e1 : nS (wI (wI m 57 82 0) 87 s (sI m 57 0)) = nS m := by
    unfold nS
    rw [lv (by omega) (by omega)]
  have e2 : nC (wI (wI m 57 82 0) 87 s (sI m 57 0)) = nC m := by
    unfold nC
    rw [lv (by omega) (by omega)]
  have e3 : nF (wI (wI m 57 82 0) 87 s (sI m 57 0)) = nF m := by
    unfold nF
    rw [lv (by omega) (by omega)]
  have t22 : T 22 = 23 := (hT.1.t6 3 (by decide)).1
  have t23 : T 23 = 24 := (hT.1.t6 4 (by decide)).1
  refine ⟨fun q hq => ?_, ⟨⟨?_, ?_, ?_⟩, fun c hc => ?_⟩, fun c hc h98 => ?_, ⟨⟨?_, ?_, ?_⟩, fun f hf => ?_⟩⟩
  · rw [e1] at hq
    show sI (wI S (lel S 19 s) 5 (sI m 57 0)) (lel S 19 q) 5 = _
    by_cases c : q = s
    · subst c
      exact (ti_sI_eq _ _ _ _).trans (ti_sI_eq _ _ _ _).symm
    · rw [ti_sI_ne (fun z => c (ses_inj h hq s1 z.1)), lv (by omega) (by omega)]
      exact h.Usd q hq
  · rw [lv (by omega) (by omega)]
    exact (zC b).1
  · rw [lv (by omega) (by omega)]
    exact (zC b).2.1
  · rw [lv (by omega) (by omega), oS 2 t22 (by decide)]
    exact (zC b).2.2
  · rw [e2] at hc
    have tc := tyC b hc
    have mC : ∀ q, (q = 93 ∨ q = 94 ∨ q = 95 ∨ q = 96 ∨ q = 97 ∨ q = 98) → sI (wI (wI m 57 82 0) 87 s (sI m 57 0)) q c = sI m q c := fun q hq => lv (by omega) (by omega)
    have := h.Cod.2 c hc
    rw [e2, e1, e3]
    show (∀ b, b < nC m → lel S 22 b = lel S 22 c → b = c) ∧ (∃ q, q < nS m ∧ sR S (lel S 22 c) 0 = some (lel S 19 q) ∧ sI (wI (wI m 57 82 0) 87 s (sI m 57 0)) 93 c = Int32.ofNat q) ∧ (∃ v, v < 4 ∧ sI (wI S (lel S 19 s) 5 (sI m 57 0)) (lel S 22 c) 1 = Int32.ofNat v ∧ sI (wI (wI m 57 82 0) 87 s (sI m 57 0)) 94 c = Int32.ofNat v) ∧ (∃ v, v < 4 ∧ sI (wI S (lel S 19 s) 5 (sI m 57 0)) (lel S 22 c) 2 = Int32.ofNat v ∧ sI (wI (wI m 57 82 0) 87 s (sI m 57 0)) 95 c = Int32.ofNat v) ∧ sI (wI S (lel S 19 s) 5 (sI m 57 0)) (lel S 22 c) 3 = sI (wI (wI m 57 82 0) 87 s (sI m 57 0)) 96 c ∧ sI (wI S (lel S 19 s) 5 (sI m 57 0)) (lel S 22 c) 4 = sI (wI (wI m 57 82 0) 87 s (sI m 57 0)) 97 c ∧ sI (wI S (lel S 19 s) 5 (sI m 57 0)) (lel S 22 c) 5 = sI (wI (wI m 57 82 0) 87 s (sI m 57 0)) 98 c ∧ (sI (wI (wI m 57 82 0) 87 s (sI m 57 0)) 98 c = -1 ∨ ∃ f, f < nF m ∧ sI (wI (wI m 57 82 0) 87 s (sI m 57 0)) 98 c = Int32.ofNat f)
    rw [mC 93 (by omega), mC 94 (by omega), mC 95 (by omega), mC 96 (by omega), mC 97 (by omega), mC 98 (by omega), oS 1 tc (by decide), oS 2 tc (by decide), oS 3 tc (by decide), oS 4 tc (by decide), oS 5 tc (by decide)]
    exact this
  · rw [e2] at hc
    rw [lv (by omega) (by omega)] at h98
    have tc := tyC b hc
    show sI (wI S (lel S 19 s) 5 (sI m 57 0)) (lel S 22 c) 6 = 0 ∧ sI (wI S (lel S 19 s) 5 (sI m 57 0)) (lel S 22 c) 7 = 0 ∧ sI (wI S (lel S 19 s) 5 (sI m 57 0)) (lel S 22 c) 10 = 0 ∧ sI (wI S (lel S 19 s) 5 (sI m 57 0)) (lel S 22 c) 11 = 0
    rw [oS 6 tc (by decide), oS 7 tc (by decide), oS 10 tc (by decide), oS 11 tc (by decide)]
    exact h.Fre c hc h98
  · rw [lv (by omega) (by omega)]
    exact (zF b).1
  · rw [lv (by omega) (by omega)]
    exact (zF b).2.1
  · rw [lv (by omega) (by omega), oS 2 t23 (by decide)]
    exact (zF b).2.2
  · rw [e3] at hf
    obtain ⟨c, c1, c2, c3, c4, c5⟩ := h.Fam.2 f hf
    exact ⟨c, by rw [e2]; exact c1, c2, (lv (by omega) (by omega)).trans c3, (lv (by omega) (by omega)).trans c4, fun x hx e => c5 x (by rw [← e2]; exact hx) ((lv (by omega) (by omega)).symm.trans e)⟩
theorem p_cons (b : BB T Tm S m) {S4 : AS} {p c : Nat} (p6 : p < 6) (c4 : c < 4) (rS : sR S4 = sR S) (lS : sL S4 = sL S) (e1 : sI S4 20 c = sI S 20 c) (e2 : sI S4 (32 + 4 * p) c = sI S (32 + 4 * p) c) : Hp (f_K_consentedTo S4 (some 4) (some (29 + 4 * p)) (Int32.ofNat c)) (fun q => q = (sI S 20 c ||| sI S (32 + 4 * p) c, S4)) := by
  have k4 := K4F_of b.1.1
  have t20 := (kt4 b.1.1).2.2.2.2.2.2.2.1
  obtain ⟨-, -, -, t16⟩ := kt_P b.1.1 b.2.1 p6
  have l20 : sL S 20 = 4 := (b.1.1.t1 20 (by rw [t20]; decide)).2.2.2 4 (by rw [t20]; rfl)
  have l16 : sL S (32 + 4 * p) = 4 := (b.1.1.t1 _ (by rw [t16]; decide)).2.2.2 4 (by rw [t16]; rfl)
  have r10 : sR S4 4 10 = some 20 := by rw [rS]; exact k4.1 10 20 rfl
  have r9 : sR S4 (29 + 4 * p) 9 = some (32 + 4 * p) := by rw [rS]; exact (b.2.1.1 p p6).2.2.2.1
  unfold f_K_consentedTo
  refine p_of (st_F (fun q => by have := lt0.mp q; rw [oi (by omega)] at this; omega)) (p_of (st_gRe r10) (p_of st_aN ?_))
  rw [lS, l20]
  refine p_of (st_F (fun q => by have := (ole (by omega) (by omega)).mp q; omega)) (p_of (st_gRe r9) (p_of st_aN ?_))
  rw [lS, l16]
  refine p_of (st_T (Int32.lt_iff_toInt_lt.mpr (by rw [oi (by omega), oi (by omega)]; omega))) ?_
  exact p_of (st_gRe r10) (p_of (st_aIe (oc (by omega)) e1) (p_of (st_gRe r9) (p_of (st_aIe (oc (by omega)) e2) (p_ret rfl))))
end
