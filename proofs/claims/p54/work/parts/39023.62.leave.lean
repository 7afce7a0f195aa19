/-! ===== the endings' bundle on other states ===== -/
theorem ST_cong {T : Nat → Nat} {S m S' m' : AS} {n nf nt : Nat} (h : ST T S m n nf nt) (r1 : sR S' = sR S) (r2 : sL S' = sL S) (r3 : ∀ k j, (T k = 22 ∨ T k = 24 ∨ T k = 43 ∨ T k = 44 ∨ T k = 17) → ¬ (T k = 43 ∧ 5 ≤ j) → ¬ (T k = 44 ∧ (j = 6 ∨ j = 11)) → sI S' k j = sI S k j)
    (q1 : sR m' = sR m) (q2 : sL m' = sL m) (q3 : ∀ p j, (p = 85 ∨ p = 88 ∨ p = 99 ∨ p = 93 ∨ p = 108 ∨ p = 105 ∨ p = 113 ∨ (p = 57 ∧ (j = 30 ∨ j = 46 ∨ j = 52))) → sI m' p j = sI m p j) : ST T S' m' n nf nt := by
  obtain ⟨⟨a1, a2, a3, a4, a5, a6⟩, b, c, ⟨d1, d2, d3, d4, d5, d6, d7, d8, d9⟩, e, f, g⟩ := h
  have el : ∀ l i, lel S' l i = lel S l i := fun l i => by
    unfold lel
    rw [r1]
  refine ⟨⟨a1, ?_, ?_, a4, fun s hs => ?_, fun s hs => ?_⟩, fun i hi => ?_, ?_, ⟨d1, d2, d3, ?_, ?_, ?_, ?_, ?_, ?_⟩, fun s hs => ?_, fun s hs => ?_, fun v hv => ?_⟩
  · unfold K4F
    rw [r1]
    exact a2
  · rw [r2]
    exact a3
  · rw [el, r1]
    exact a5 s hs
  · rw [el, r1]
    exact a6 s hs
  · rw [r1]
    exact b i hi
  · exact MF_e c q1
  · rw [r3 19 2 (by omega) (by omega) (by omega)]
    exact d4
  · rw [q3 57 30 (by omega)]
    exact d5
  · rw [r3 23 2 (by omega) (by omega) (by omega)]
    exact d6
  · rw [q3 57 46 (by omega)]
    exact d7
  · rw [q3 57 52 (by omega)]
    exact d8
  · rw [q2]
    exact d9
  · obtain ⟨h1, ⟨p, p1, p2, p3⟩, h3⟩ := e s hs
    have t := (a5 s hs).1
    rw [el, r3 _ 0 (by omega) (by omega) (by omega)]
    refine ⟨h1, ⟨p, p1, by rw [r1]; exact p2, by rw [q3 85 s (by omega)]; exact p3⟩, fun o ho => ?_⟩
    rw [el, r1, q3 88 s (by omega)]
    exact h3 o ho
  · obtain ⟨h1, ⟨c, s', p1, p2, p3, p4, p5⟩, h3⟩ := f s hs
    have t := (a6 s hs).1
    rw [el, r3 _ 5 (by omega) (by omega) (by omega), r3 _ 10 (by omega) (by omega) (by omega)]
    refine ⟨h1, ⟨c, s', p1, p2, by rw [q3 99 s (by omega)]; exact p3, by rw [q3 93 c (by omega)]; exact p4, by rw [r1, el]; exact p5⟩, fun v hv => ?_⟩
    rw [h3 v hv]
    constructor
    · rintro ⟨t, t1, t2, t3⟩
      exact ⟨t, t1, (q3 108 t (by omega)).trans t2, (q3 105 t (by omega)).trans t3⟩
    · rintro ⟨t, t1, t2, t3⟩
      exact ⟨t, t1, (q3 108 t (by omega)).symm.trans t2, (q3 105 t (by omega)).symm.trans t3⟩
  · rw [r3 (53 + v) 1 (by have := a4 v hv; omega) (by have := a4 v hv; omega) (by have := a4 v hv; omega), q3 113 v (by omega)]
    exact g v hv
/-- the bundle's own start at such states -/
theorem EE_mk {T : Nat → Nat} {S m S' m' : AS} {d : Nat} (h : FR S m) (r1 : sR S' = sR S) (r2 : ∀ s, s < nS m → sI S' (lel S 19 s) 6 = sI S (lel S 19 s) 6) (r3 : sI S' 4 9 = sI S 4 9) (r4 : ∀ f, f < nF m → sI S' (lel S 23 f) 6 = sI S (lel S 23 f) 6 ∧ sI S' (lel S 23 f) 11 = sI S (lel S 23 f) 11)
    (q : ∀ p j, (p = 89 ∨ p = 103 ∨ p = 116) → sI m' p j = sI m p j) (ha : AU d (sI m 89) (nS m) S' m') : EE d T S' m' (nS m) (nF m) S' m' := by
  have el : ∀ l i, lel S' l i = lel S l i := fun l i => by
    unfold lel
    rw [r1]
  have e89 : sI m' 89 = sI m 89 := funext fun j => q 89 j (by omega)
  refine ⟨KE_rf T S', ME_rf m', fun s hs => ?_, ?_, fun f hf => ?_, ?_, fun x x1 x2 v hv => ?_⟩
  · rw [el, r2 s hs, e89]
    exact h.Liv.1 s hs
  · rw [r3, e89]
    exact h.Liv.2
  · obtain ⟨a1, a2⟩ := r4 f hf
    obtain ⟨b1, b2, b3⟩ := h.God.2 f hf
    rw [el, a1, a2, q 103 f (by omega)]
    exact ⟨b1, fun v hv => by rw [q 116 _ (by omega)]; exact b2 v hv, fun z v hv => by rw [q 116 _ (by omega)]; exact b3 z v hv⟩
  · rw [e89]
    exact ha
  · rw [q 116 _ (by omega)]
    exact h.God.1 x x1 x2 v hv
/-! ===== leave ===== -/
section
variable {T Tm : Nat → Nat} {S m : AS}
/-- attempts of a person are denied -/
theorem p_deny_L (b : BB T Tm S m) (h : cAtt S m) {i : Nat} (i6 : i < 6) {B : AS} (eB : sI B 18 2 = sI S 18 2) : ∀ (k j fu : Nat) (S1 : AS), j + k = uA m → sR S1 = sR S → sL S1 = sL S → (∀ p c, ¬ (c = 5 ∧ T p = 42) → sI S1 p c = sI B p c) → (∀ a, a < uA m → sI S1 (lel S 18 a) 5 = if a < j ∧ sI m 75 a = Int32.ofNat i ∧ sI B (lel S 18 a) 5 = 0 then 2 else sI B (lel S 18 a) 5) →
    Hp (f_K_denyAttemptsOf_L2 fu S1 (some 4) (some (29 + 4 * i)) (Int32.ofNat j)) (fun S2 => sR S2 = sR S ∧ sL S2 = sL S ∧ (∀ p c, ¬ (c = 5 ∧ T p = 42) → sI S2 p c = sI B p c) ∧ (∀ a, a < uA m → sI S2 (lel S 18 a) 5 = if sI m 75 a = Int32.ofNat i ∧ sI B (lel S 18 a) 5 = 0 then 2 else sI B (lel S 18 a) 5))
  | _, _, 0, _, _, _, _, _, _ => p_0
  | 0, j, fu + 1, S1, hk, r1, r2, r3, r4 => by
    unfold f_K_denyAttemptsOf_L2 f_K_denyAttemptsOf_C2
    have r : sR S1 4 7 = some 18 := by rw [r1]; exact (K4F_of b.1.1).1 7 18 rfl
    have z := zA b
    have n60 : uA m ≤ 60 := z.1
    have t18 := (b.1.1.t6 1 (by decide)).1
    have e : sI S1 18 2 = Int32.ofNat (uA m) := (r3 18 2 (by omega)).trans (eB.trans (z.2.2.trans z.2.1))
    refine p_of (st_gRe r) (p_of st_rv (p_of st_size ?_))
    rw [e]
    refine p_of (st_T ((ole (by omega) (by omega)).mpr (by omega))) (p_ret ⟨r1, r2, r3, fun a ha => ?_⟩)
    rw [r4 a ha]
    by_cases c : sI m 75 a = Int32.ofNat i ∧ sI B (lel S 18 a) 5 = 0
    · rw [if_pos ⟨by omega, c⟩, if_pos c]
    · rw [if_neg (fun q => c q.2), if_neg c]
  | k + 1, j, fu + 1, S1, hk, r1, r2, r3, r4 => by
    unfold f_K_denyAttemptsOf_L2 f_K_denyAttemptsOf_C2 f_K_denyAttemptsOf_B45
    have r : sR S1 4 7 = some 18 := by rw [r1]; exact (K4F_of b.1.1).1 7 18 rfl
    have z := zA b
    have n60 : uA m ≤ 60 := z.1
    have t18 := (b.1.1.t6 1 (by decide)).1
    have e : sI S1 18 2 = Int32.ofNat (uA m) := (r3 18 2 (by omega)).trans (eB.trans (z.2.2.trans z.2.1))
    have ja : j < uA m := by omega
    obtain ⟨inj, ⟨x, x6, g1, g2⟩, -⟩ := h.2 j ja
    refine p_of (st_gRe r) (p_of st_rv (p_of st_size ?_))
    rw [e]
    refine p_of (st_F (fun q => by have := (ole (by omega) (by omega)).mp q; omega)) (p_of (st_gRe r) (p_of st_rv (p_of (st_get (oc (by omega)) (by rw [r1]; exact atA b ja)) (p_of st_cc (p_of (st_gRe (v := some (29 + 4 * x)) (by rw [r1]; exact g1)) (p_of st_ac (p_of st_ac ?_)))))))
    have e5 : sI S1 (lel S 18 j) 5 = sI B (lel S 18 j) 5 := by
      rw [r4 j ja, if_neg (fun q => absurd q.1 (by omega))]
    have same : ¬ (sI m 75 j = Int32.ofNat i ∧ sI B (lel S 18 j) 5 = 0) → Hp ((some (Int32.ofNat j + (1 : Int32))).bind fun i1 => f_K_denyAttemptsOf_L2 fu S1 (some 4) (some (29 + 4 * i)) i1) (fun S2 => sR S2 = sR S ∧ sL S2 = sL S ∧ (∀ p c, ¬ (c = 5 ∧ T p = 42) → sI S2 p c = sI B p c) ∧ (∀ a, a < uA m → sI S2 (lel S 18 a) 5 = if sI m 75 a = Int32.ofNat i ∧ sI B (lel S 18 a) 5 = 0 then 2 else sI B (lel S 18 a) 5)) := fun no => by
      refine p_of st_val ?_
      rw [o1]
      refine p_deny_L b h i6 eB k (j + 1) fu S1 (by omega) r1 r2 r3 (fun a ha => ?_)
      rw [r4 a ha]
      by_cases c : a = j
      · subst c
        rw [if_neg (fun q => absurd q.1 (by omega)), if_neg (fun q => no q.2)]
      · by_cases c2 : a < j ∧ sI m 75 a = Int32.ofNat i ∧ sI B (lel S 18 a) 5 = 0
        · rw [if_pos c2, if_pos ⟨by omega, c2.2⟩]
        · rw [if_neg c2, if_neg (fun q => c2 ⟨by omega, q.2⟩)]
    refine p_if (fun c => ?_) (fun c => same (fun q => c ?_))
    · have ex := per_eq.mp c
      subst ex
      refine p_of (st_gIe e5) (p_if (fun c2 => ?_) (fun c2 => same (fun q => c2 q.2)))
      refine p_of st_pI (p_of st_val ?_)
      rw [o1]
      refine p_deny_L b h i6 eB k (j + 1) fu _ (by omega) r1 r2 (fun p q z => ?_) (fun a ha => ?_)
      · rw [ti_sI_ne (fun w => z ⟨w.2, by rw [w.1]; exact tyA b ja⟩)]
        exact r3 p q z
      · by_cases d : a = j
        · subst d
          rw [ti_sI_eq, if_pos ⟨by omega, g2, c2⟩]
        · rw [ti_sI_ne (fun w => d ((h.2 j ja).1 a ha w.1)), r4 a ha]
          by_cases c3 : a < j ∧ sI m 75 a = Int32.ofNat x ∧ sI B (lel S 18 a) 5 = 0
          · rw [if_pos c3, if_pos ⟨by omega, c3.2⟩]
          · rw [if_neg c3, if_neg (fun q => c3 ⟨by omega, q.2⟩)]
    · rw [oinj (by omega) (by omega) (g2.symm.trans q.1)]
/-- recoveries of a person are stopped -/
theorem p_stopR_L (b : BB T Tm S m) (h : cRec S m) {i : Nat} (i6 : i < 6) {B : AS} (eB : sI B 27 2 = sI S 27 2) : ∀ (k j fu : Nat) (S1 : AS), j + k = nR m → sR S1 = sR S → sL S1 = sL S → (∀ p c, ¬ (c = 2 ∧ T p = 46) → sI S1 p c = sI B p c) → (∀ a, a < nR m → sI S1 (lel S 27 a) 2 = if a < j ∧ sI m 117 a = Int32.ofNat i then 0 else sI B (lel S 27 a) 2) →
    Hp (f_K_stopRecoveriesOf_L2 fu S1 (some 4) (some (29 + 4 * i)) (Int32.ofNat j)) (fun S2 => sR S2 = sR S ∧ sL S2 = sL S ∧ (∀ p c, ¬ (c = 2 ∧ T p = 46) → sI S2 p c = sI B p c) ∧ (∀ a, a < nR m → sI S2 (lel S 27 a) 2 = if sI m 117 a = Int32.ofNat i then 0 else sI B (lel S 27 a) 2))
  | _, _, 0, _, _, _, _, _, _ => p_0
  | 0, j, fu + 1, S1, hk, r1, r2, r3, r4 => by
    unfold f_K_stopRecoveriesOf_L2 f_K_stopRecoveriesOf_C2
    have r : sR S1 4 16 = some 27 := by rw [r1]; exact (K4F_of b.1.1).1 16 27 rfl
    have z := zR b
    have n60 : nR m ≤ 20 := z.1
    have t18 := (b.1.1.t6 6 (by decide)).1
    have e : sI S1 27 2 = Int32.ofNat (nR m) := (r3 27 2 (by rw [show T 27 = 26 from t18]; omega)).trans (eB.trans (z.2.2.trans z.2.1))
    refine p_of (st_gRe r) (p_of st_rv (p_of st_size ?_))
    rw [e]
    refine p_of (st_T ((ole (by omega) (by omega)).mpr (by omega))) (p_ret ⟨r1, r2, r3, fun a ha => ?_⟩)
    rw [r4 a ha]
    by_cases c : sI m 117 a = Int32.ofNat i
    · rw [if_pos ⟨by omega, c⟩, if_pos c]
    · rw [if_neg (fun q => c q.2), if_neg c]
  | k + 1, j, fu + 1, S1, hk, r1, r2, r3, r4 => by
    unfold f_K_stopRecoveriesOf_L2 f_K_stopRecoveriesOf_C2 f_K_stopRecoveriesOf_B38
    have r : sR S1 4 16 = some 27 := by rw [r1]; exact (K4F_of b.1.1).1 16 27 rfl
    have z := zR b
    have n60 : nR m ≤ 20 := z.1
    have t18 := (b.1.1.t6 6 (by decide)).1
    have e : sI S1 27 2 = Int32.ofNat (nR m) := (r3 27 2 (by rw [show T 27 = 26 from t18]; omega)).trans (eB.trans (z.2.2.trans z.2.1))
    have ja : j < nR m := by omega
    obtain ⟨inj, ⟨x, x6, g1, g2⟩, -⟩ := h.2.2 j ja
    refine p_of (st_gRe r) (p_of st_rv (p_of st_size ?_))
    rw [e]
    refine p_of (st_F (fun q => by have := (ole (by omega) (by omega)).mp q; omega)) (p_of (st_gRe r) (p_of st_rv (p_of (st_get (oc (by omega)) (by rw [r1]; exact atR b ja)) (p_of st_cc (p_of (st_gRe (v := some (29 + 4 * x)) (by rw [r1]; exact g1)) (p_of st_ac (p_of st_ac ?_)))))))
    refine p_if (fun c => ?_) (fun c => ?_)
    · have ex := per_eq.mp c
      subst ex
      refine p_of st_pZ (p_of st_val ?_)
      rw [o1]
      refine p_stopR_L b h i6 eB k (j + 1) fu _ (by omega) r1 r2 (fun p q z => ?_) (fun a ha => ?_)
      · rw [ti_sI_ne (fun w => z ⟨w.2, by rw [w.1]; exact tyR b ja⟩)]
        exact r3 p q z
      · by_cases d : a = j
        · subst d
          rw [ti_sI_eq, if_pos ⟨by omega, g2⟩]
        · rw [ti_sI_ne (fun w => d ((h.2.2 j ja).1 a ha w.1)), r4 a ha]
          by_cases c3 : a < j ∧ sI m 117 a = Int32.ofNat x
          · rw [if_pos c3, if_pos ⟨by omega, c3.2⟩]
          · rw [if_neg c3, if_neg (fun q => c3 ⟨by omega, q.2⟩)]
    · refine p_of st_val ?_
      rw [o1]
      refine p_stopR_L b h i6 eB k (j + 1) fu S1 (by omega) r1 r2 r3 (fun a ha => ?_)
      rw [r4 a ha]
      by_cases d : a = j
      · subst d
        rw [if_neg (fun q => absurd q.1 (by omega)), if_neg (fun q => c (by rw [oinj (by omega) (by omega) (g2.symm.trans q.2)]))]
      · by_cases c2 : a < j ∧ sI m 117 a = Int32.ofNat i
        · rw [if_pos c2, if_pos ⟨by omega, c2.2⟩]
        · rw [if_neg c2, if_neg (fun q => c2 ⟨by omega, q.2⟩)]
end
/-- the reference's two loops -/
theorem p_lvR_L {m : AS} {i : Int32} {x : Int32} {n : Nat} (hmf : MF m) (hn : sI m 57 70 = Int32.ofNat n) (n20 : n ≤ 20) : ∀ (k j fu : Nat) (M : AS), j + k = n → sR M = sR m → sL M = sL m → (∀ p c, p ≠ 119 → sI M p c = sI m p c) → (∀ r, sI M 119 r = if r < j then (if sI m 119 r = 0 ∨ sI m 117 r = i then 0 else 1) else sI m 119 r) →
    Hp (f_M_leave_L103 fu M (some 57) i x (Int32.ofNat j)) (fun q => q.1 = x ∧ sR q.2 = sR m ∧ sL q.2 = sL m ∧ (∀ p c, p ≠ 119 → sI q.2 p c = sI m p c) ∧ (∀ r, sI q.2 119 r = if r < n then (if sI m 119 r = 0 ∨ sI m 117 r = i then 0 else 1) else sI m 119 r))
  | _, _, 0, _, _, _, _, _, _ => p_0
  | 0, j, fu + 1, M, hk, r1, r2, r3, r4 => by
    unfold f_M_leave_L103 f_M_leave_C103
    have e : j = n := by omega
    subst e
    exact p_of (st_gIe ((r3 57 70 (by omega)).trans hn)) (p_of (st_T ((ole (by omega) (by omega)).mpr (Nat.le_refl _))) (p_ret ⟨rfl, r1, r2, r3, r4⟩))
  | k + 1, j, fu + 1, M, hk, r1, r2, r3, r4 => by
    unfold f_M_leave_L103 f_M_leave_C103
    have hm := MF_e hmf r1
    have old : sI M 119 j = sI m 119 j := by rw [r4 j, if_neg (by omega)]
    have go : ∀ w : Int32, (w = if sI m 119 j = 0 ∨ sI m 117 j = i then 0 else 1) → Hp (f_M_leave_B140 (f_M_leave_L103 fu) M (some 57) i x (Int32.ofNat j) (some 119) (Int32.ofNat j) w) (fun q => q.1 = x ∧ sR q.2 = sR m ∧ sL q.2 = sL m ∧ (∀ p c, p ≠ 119 → sI q.2 p c = sI m p c) ∧ (∀ r, sI q.2 119 r = if r < n then (if sI m 119 r = 0 ∨ sI m 117 r = i then 0 else 1) else sI m 119 r)) := fun w hw => by
      unfold f_M_leave_B140
      refine p_of (st_bZe (oc (by omega))) (p_of st_val ?_)
      rw [o1]
      refine p_lvR_L hmf hn n20 k (j + 1) fu _ (by omega) r1 r2 (fun p c q => ?_) (fun r => ?_)
      · rw [ti_sI_ne (fun z => q z.1)]
        exact r3 p c q
      · by_cases c : r = j
        · subst c
          rw [ti_sI_eq, if_pos (by omega)]
          exact hw
        · rw [ti_sI_ne (fun z => c z.2), r4 r]
          by_cases c2 : r < j
          · rw [if_pos c2, if_pos (show r < j + 1 by omega)]
          · rw [if_neg c2, if_neg (show ¬ r < j + 1 by omega)]
    refine p_of (st_gIe ((r3 57 70 (by omega)).trans hn)) (p_of (st_F (fun q => by have := (ole (by omega) (by omega)).mp q; omega)) (p_of (st_gRe (hm 73 119 rfl)) (p_of (st_gRe (hm 73 119 rfl)) (p_of (st_aIe (v := sI m 119 j) (oc (by omega)) old) (p_if (fun c => ?_) (fun c => ?_))))))
    · unfold f_M_leave_B139
      exact go 0 (if_pos (Or.inl c)).symm
    · refine p_of (st_gRe (hm 71 117 rfl)) (p_of (st_aIe (v := sI m 117 j) (oc (by omega)) (r3 117 j (by omega))) (p_if (fun c2 => ?_) (fun c2 => ?_)))
      · unfold f_M_leave_B139
        exact go 0 (if_pos (Or.inr c2)).symm
      · exact go 1 (if_neg (fun q => q.elim c c2)).symm
theorem p_lvA_L {m : AS} {i : Int32} {x : Int32} {n nr : Nat} (hmf : MF m) (hn : sI m 57 19 = Int32.ofNat n) (n60 : n ≤ 60) (hr : sI m 57 70 = Int32.ofNat nr) (n20 : nr ≤ 20) : ∀ (k j fu : Nat) (M : AS), j + k = n → sR M = sR m → sL M = sL m → (∀ p c, p ≠ 80 → sI M p c = sI m p c) → (∀ a, sI M 80 a = if a < j ∧ sI m 75 a = i ∧ sI m 80 a = 0 then 2 else sI m 80 a) →
    Hp (f_M_leave_L52 fu M (some 57) i x (Int32.ofNat j)) (fun q => q.1 = x ∧ sR q.2 = sR m ∧ sL q.2 = sL m ∧ (∀ p c, p ≠ 80 → p ≠ 119 → sI q.2 p c = sI m p c) ∧ (∀ a, sI q.2 80 a = if a < n ∧ sI m 75 a = i ∧ sI m 80 a = 0 then 2 else sI m 80 a) ∧ (∀ r, sI q.2 119 r = if r < nr then (if sI m 119 r = 0 ∨ sI m 117 r = i then 0 else 1) else sI m 119 r))
  | _, _, 0, _, _, _, _, _, _ => p_0
  | 0, j, fu + 1, M, hk, r1, r2, r3, r4 => by
    unfold f_M_leave_L52 f_M_leave_C52
    have e : j = n := by omega
    subst e
    refine p_of (st_gIe ((r3 57 19 (by omega)).trans hn)) (p_of (st_T ((ole (by omega) (by omega)).mpr (Nat.le_refl _))) ?_)
    refine p_mono (p_lvR_L (m := M) (n := nr) (MF_e hmf r1) ((r3 57 70 (by omega)).trans hr) n20 nr 0 kr_FU M (Nat.zero_add _) rfl rfl (fun _ _ _ => rfl) (fun r => by rw [if_neg (Nat.not_lt_zero _)])) (fun q p => ?_)
    obtain ⟨p1, p2, p3, p4, p5⟩ := p
    refine ⟨p1, p2.trans r1, p3.trans r2, fun p c z1 z2 => (p4 p c z2).trans (r3 p c z1), fun a => (p4 80 a (by omega)).trans (r4 a), fun r => ?_⟩
    rw [p5 r, r3 119 r (by omega), r3 117 r (by omega)]
  | k + 1, j, fu + 1, M, hk, r1, r2, r3, r4 => by
    unfold f_M_leave_L52 f_M_leave_C52
    have hm := MF_e hmf r1
    have old : sI M 80 j = sI m 80 j := by rw [r4 j, if_neg (fun q => absurd q.1 (by omega))]
    have go : ∀ w : Int32, (w = if sI m 75 j = i ∧ sI m 80 j = 0 then 2 else sI m 80 j) → Hp (f_M_leave_B94 (f_M_leave_L52 fu) M (some 57) i x (Int32.ofNat j) (some 80) (Int32.ofNat j) w) (fun q => q.1 = x ∧ sR q.2 = sR m ∧ sL q.2 = sL m ∧ (∀ p c, p ≠ 80 → p ≠ 119 → sI q.2 p c = sI m p c) ∧ (∀ a, sI q.2 80 a = if a < n ∧ sI m 75 a = i ∧ sI m 80 a = 0 then 2 else sI m 80 a) ∧ (∀ r, sI q.2 119 r = if r < nr then (if sI m 119 r = 0 ∨ sI m 117 r = i then 0 else 1) else sI m 119 r)) := fun w hw => by
      unfold f_M_leave_B94
      refine p_of (st_bIe (oc (by omega))) (p_of st_val ?_)
      rw [o1]
      refine p_lvA_L hmf hn n60 hr n20 k (j + 1) fu _ (by omega) r1 r2 (fun p c q => ?_) (fun a => ?_)
      · rw [ti_sI_ne (fun z => q z.1)]
        exact r3 p c q
      · by_cases c : a = j
        · subst c
          rw [ti_sI_eq, hw]
          by_cases c2 : sI m 75 a = i ∧ sI m 80 a = 0
          · rw [if_pos c2, if_pos ⟨by omega, c2⟩]
          · rw [if_neg c2, if_neg (fun q => c2 q.2)]
        · rw [ti_sI_ne (fun z => c z.2), r4 a]
          by_cases c2 : a < j ∧ sI m 75 a = i ∧ sI m 80 a = 0
          · rw [if_pos c2, if_pos ⟨by omega, c2.2⟩]
          · rw [if_neg c2, if_neg (fun q => c2 ⟨by omega, q.2⟩)]
    have stay : ¬ (sI m 75 j = i ∧ sI m 80 j = 0) → Hp (f_M_leave_B88 (f_M_leave_L52 fu) M (some 57) i x (Int32.ofNat j) (some 80) (Int32.ofNat j)) (fun q => q.1 = x ∧ sR q.2 = sR m ∧ sL q.2 = sL m ∧ (∀ p c, p ≠ 80 → p ≠ 119 → sI q.2 p c = sI m p c) ∧ (∀ a, sI q.2 80 a = if a < n ∧ sI m 75 a = i ∧ sI m 80 a = 0 then 2 else sI m 80 a) ∧ (∀ r, sI q.2 119 r = if r < nr then (if sI m 119 r = 0 ∨ sI m 117 r = i then 0 else 1) else sI m 119 r)) := fun no => by
      unfold f_M_leave_B88
      exact p_of (st_gRe (hm 25 80 rfl)) (p_of (st_aIe (v := sI m 80 j) (oc (by omega)) old) (go _ (if_neg no).symm))
    refine p_of (st_gIe ((r3 57 19 (by omega)).trans hn)) (p_of (st_F (fun q => by have := (ole (by omega) (by omega)).mp q; omega)) (p_of (st_gRe (hm 25 80 rfl)) (p_of (st_gRe (hm 20 75 rfl)) (p_of (st_aIe (v := sI m 75 j) (oc (by omega)) (r3 75 j (by omega))) (p_if (fun c => ?_) (fun c => stay (fun q => c q.1)))))))
    exact p_of (st_gRe (hm 25 80 rfl)) (p_of (st_aIe (v := sI m 80 j) (oc (by omega)) old) (p_if (fun c2 => go 2 (if_pos ⟨c, c2⟩).symm) (fun c2 => stay (fun q => c2 q.2))))
