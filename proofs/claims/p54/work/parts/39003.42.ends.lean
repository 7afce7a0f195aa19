/-! ===== the audit: one entry on either side ===== -/
/-- a sum goes on by one entry -/
def ams (t k n mi : Int32) : Int32 := (31 : Int32) * t + (100 : Int32) * k + n + mi - ((31 : Int32) * t + (100 : Int32) * k + n + mi) / (65521 : Int32) * (65521 : Int32)
def AWK (S S' : AS) (k nu : Int32) : Prop := (sR S' = sR S ∧ sL S' = sL S ∧ ∀ p j, p ≠ 5 → p ≠ 6 → p ≠ 7 → sI S' p j = sI S p j) ∧ ((0 ≤ (sI S 5 2).toInt ∧ (sI S 5 2).toInt < 1024 ∧ sI S' 5 2 = sI S 5 2 + 1 ∧ sI S' 6 (sI S 5 2).toNatClampNeg = (1000 : Int32) * k + nu ∧ ∀ i, i ≠ (sI S 5 2).toNatClampNeg → sI S' 6 i = sI S 6 i) ∨ (¬ (0 ≤ (sI S 5 2).toInt ∧ (sI S 5 2).toInt < 1024) ∧ sI S' 5 2 = sI S 5 2 ∧ ∀ i, sI S' 6 i = sI S 6 i)) ∧
  (0 ≤ (sI S 5 2).toInt → (sI S 5 2).toInt < 1024 → sI S' 7 (sI S 5 2).toNatClampNeg = sI S 4 0 ∧ (∀ i, i ≠ (sI S 5 2).toNatClampNeg → sI S' 7 i = sI S 7 i) ∧ sI S' 5 3 = ams (sI S 5 3) (((1000 : Int32) * k + nu) / (1000 : Int32)) ((1000 : Int32) * k + nu - ((1000 : Int32) * k + nu) / (1000 : Int32) * (1000 : Int32)) (sI S 4 0))
theorem p_tw {S : AS} {a1 a2 : Int32} : Hp (f_Audit_totalWith S (some 5) a1 a2) (fun q => q.2 = S ∧ (sR S 5 0 = some 6 → sR S 5 1 = some 7 → 0 ≤ a2.toInt → a2.toInt < 1024 → q.1 = ams a1 (sI S 6 a2.toNatClampNeg / (1000 : Int32)) (sI S 6 a2.toNatClampNeg - sI S 6 a2.toNatClampNeg / (1000 : Int32) * (1000 : Int32)) (sI S 7 a2.toNatClampNeg))) := by
  unfold f_Audit_totalWith
  refine p_if (fun c => p_ret ⟨rfl, fun _ _ q _ => absurd (lt0.mp c) (by omega)⟩) (fun _ => p_if (fun _ => ?_) (fun c => p_ret ⟨rfl, fun _ _ _ q => absurd (Int32.lt_iff_toInt_lt.mpr q) c⟩))
  refine p_of st_gR ?_
  cases e0 : sR S 5 0 with
  | none => exact fun a ha => nomatch ha
  | some d =>
    refine p_of st_aI (p_of st_val ?_)
    refine p_of st_gR ?_
    rw [e0]
    refine p_of st_aI (p_of st_val ?_)
    refine p_of st_gR ?_
    cases e1 : sR S 5 1 with
    | none => exact fun a ha => nomatch ha
    | some e =>
      refine p_of st_aI (p_of st_val (p_ret ⟨rfl, fun z0 z1 _ _ => ?_⟩))
      cases z0
      cases z1
      rfl
theorem p_awf {S : AS} {k nu mi : Int32} (h0 : sR S 5 0 = some 6) (h1 : sR S 5 1 = some 7) : Hp (f_Audit_write S (some 5) k nu mi) (fun S' => (sR S' = sR S ∧ sL S' = sL S ∧ ∀ p j, p ≠ 5 → p ≠ 6 → p ≠ 7 → sI S' p j = sI S p j)) := by
  unfold f_Audit_write
  refine p_of st_gI (p_if (fun c => p_ret ⟨rfl, rfl, fun _ _ _ _ _ => rfl⟩) (fun c => ?_))
  refine p_of st_gI (p_if (fun c2 => ?_) (fun c2 => p_ret ⟨rfl, rfl, fun _ _ _ _ _ => rfl⟩))
  refine p_of (st_gRe h0) (p_of st_gI (p_of st_bI ?_))
  refine p_of (st_gRe h1) (p_of st_gI (p_of st_bI ?_))
  refine p_of st_gI (p_of st_gI (p_of st_rv ?_))
  refine p_b2 p_tw (fun v S' e => ?_)
  obtain ⟨e, -⟩ := e
  have e : S' = _ := e
  rw [e]
  refine p_of st_pI (p_of st_gI (p_of st_pI (p_ret ⟨rfl, rfl, fun p j n5 n6 n7 => ?_⟩)))
  rw [ti_sI_ne (fun q => n5 q.1), ti_sI_ne (fun q => n5 q.1), ti_sI_ne (fun q => n7 q.1), ti_sI_ne (fun q => n6 q.1)]
theorem p_aw {S : AS} {k nu mi : Int32} (h0 : sR S 5 0 = some 6) (h1 : sR S 5 1 = some 7) (hmi : mi = sI S 4 0) : Hp (f_Audit_write S (some 5) k nu mi) (fun S' => AWK S S' k nu) := by
  unfold f_Audit_write
  refine p_of st_gI (p_if (fun c => p_ret ⟨⟨rfl, rfl, fun _ _ _ _ _ => rfl⟩, Or.inr ⟨fun q => absurd (lt0.mp c) (by omega), rfl, fun _ => rfl⟩, fun q => absurd (lt0.mp c) (by omega)⟩) (fun c => ?_))
  refine p_of st_gI (p_if (fun c2 => ?_) (fun c2 => p_ret ⟨⟨rfl, rfl, fun _ _ _ _ _ => rfl⟩, Or.inr ⟨fun q => c2 (Int32.lt_iff_toInt_lt.mpr q.2), rfl, fun _ => rfl⟩, fun _ q => absurd (Int32.lt_iff_toInt_lt.mpr q) c2⟩))
  have b0 : 0 ≤ (sI S 5 2).toInt := Int.not_lt.mp (fun q => c (lt0.mpr q))
  have b1 : (sI S 5 2).toInt < 1024 := Int32.lt_iff_toInt_lt.mp c2
  refine p_of (st_gRe h0) (p_of st_gI (p_of st_bI ?_))
  refine p_of (st_gRe h1) (p_of (st_gIe (v := sI S 5 2) (ti_sI_ne (by omega))) (p_of st_bI ?_))
  refine p_of (st_gIe (v := sI S 5 3) ((ti_sI_ne (by omega)).trans (ti_sI_ne (by omega)))) (p_of (st_gIe (v := sI S 5 2) ((ti_sI_ne (by omega)).trans (ti_sI_ne (by omega)))) (p_of st_rv ?_))
  refine p_b2 p_tw (fun v S' e => ?_)
  obtain ⟨e, ev⟩ := e
  have e : S' = _ := e
  have ev := ev h0 h1 b0 b1
  rw [e]
  refine p_of st_pI (p_of (st_gIe (v := sI S 5 2) ((ti_sI_ne (by omega)).trans ((ti_sI_ne (by omega)).trans (ti_sI_ne (by omega))))) (p_of st_pI (p_ret ?_)))
  refine ⟨⟨rfl, rfl, fun p j n5 n6 n7 => ?_⟩, Or.inl ⟨b0, b1, ?_, ?_, fun i hi => ?_⟩, fun _ _ => ⟨?_, fun i hi => ?_, ?_⟩⟩
  · rw [ti_sI_ne (fun q => n5 q.1), ti_sI_ne (fun q => n5 q.1), ti_sI_ne (fun q => n7 q.1), ti_sI_ne (fun q => n6 q.1)]
  · rw [ti_sI_eq]
  · rw [ti_sI_ne (by omega), ti_sI_ne (by omega), ti_sI_ne (by omega), ti_sI_eq]
  · rw [ti_sI_ne (by omega), ti_sI_ne (by omega), ti_sI_ne (by omega), ti_sI_ne (fun q => hi q.2)]
  · rw [ti_sI_ne (by omega), ti_sI_ne (by omega), ti_sI_eq]
    exact hmi
  · rw [ti_sI_ne (by omega), ti_sI_ne (by omega), ti_sI_ne (fun q => hi q.2), ti_sI_ne (by omega)]
  · rw [ti_sI_ne (by omega), ti_sI_eq]
    refine ev.trans ?_
    rw [ti_sI_ne (by omega), ti_sI_eq, ti_sI_eq, hmi]
def AWM (m m' : AS) (k nu : Int32) : Prop := (sR m' = sR m ∧ sL m' = sL m ∧ ∀ p j, p ≠ 123 → p ≠ 124 → p ≠ 125 → ¬ (p = 57 ∧ (j = 77 ∨ j = 81)) → sI m' p j = sI m p j) ∧ 0 ≤ (sI m 57 77).toInt ∧ (sI m 57 77).toInt < (sL m 123 : Int) ∧ sI m' 57 77 = sI m 57 77 + 1 ∧ sI m' 123 (sI m 57 77).toNatClampNeg = k ∧ sI m' 124 (sI m 57 77).toNatClampNeg = nu ∧ (∀ i, i ≠ (sI m 57 77).toNatClampNeg → sI m' 123 i = sI m 123 i ∧ sI m' 124 i = sI m 124 i) ∧
  sI m' 125 (sI m 57 77).toNatClampNeg = sI m 57 0 ∧ (∀ i, i ≠ (sI m 57 77).toNatClampNeg → sI m' 125 i = sI m 125 i) ∧ sI m' 57 81 = ams (sI m 57 81) k nu (sI m 57 0)
theorem p_mw {m : AS} {k nu : Int32} (h : MF m) : Hp (f_M_write m (some 57) k nu) (fun m' => AWM m m' k nu) := by
  unfold f_M_write
  refine p_of (st_gRe (h 78 123 rfl)) (p_of st_gI (p_bI (fun b0 b1 => ?_)))
  refine p_of (st_gRe (h 79 124 rfl)) (p_of (st_gIe (v := sI m 57 77) (ti_sI_ne (by omega))) (p_of st_bI ?_))
  refine p_of (st_gRe (h 80 125 rfl)) (p_of (st_gIe (v := sI m 57 77) ((ti_sI_ne (by omega)).trans (ti_sI_ne (by omega)))) (p_of (st_gIe (v := sI m 57 0) ((ti_sI_ne (by omega)).trans (ti_sI_ne (by omega)))) (p_of st_bI ?_)))
  refine p_of (st_gIe (v := sI m 57 77) ((ti_sI_ne (by omega)).trans ((ti_sI_ne (by omega)).trans (ti_sI_ne (by omega))))) (p_of st_pI (p_of (st_gIe (v := sI m 57 81) ((ti_sI_ne (by omega)).trans ((ti_sI_ne (by omega)).trans ((ti_sI_ne (by omega)).trans (ti_sI_ne (by omega)))))) (p_of (st_gIe (v := sI m 57 0) ((ti_sI_ne (by omega)).trans ((ti_sI_ne (by omega)).trans ((ti_sI_ne (by omega)).trans (ti_sI_ne (by omega)))))) (p_of st_val (p_of st_pI (p_ret ?_))))))
  refine ⟨⟨rfl, rfl, fun p j n3 n4 n5 n => ?_⟩, b0, b1, ?_, ?_, ?_, fun i hi => ⟨?_, ?_⟩, ?_, fun i hi => ?_, ?_⟩
  · rw [ti_sI_ne (fun q => n ⟨q.1, Or.inr q.2⟩), ti_sI_ne (fun q => n ⟨q.1, Or.inl q.2⟩), ti_sI_ne (fun q => n5 q.1), ti_sI_ne (fun q => n4 q.1), ti_sI_ne (fun q => n3 q.1)]
  · rw [ti_sI_ne (by omega), ti_sI_eq]
  · rw [ti_sI_ne (by omega), ti_sI_ne (by omega), ti_sI_ne (by omega), ti_sI_ne (by omega), ti_sI_eq]
  · rw [ti_sI_ne (by omega), ti_sI_ne (by omega), ti_sI_ne (by omega), ti_sI_eq]
  · rw [ti_sI_ne (by omega), ti_sI_ne (by omega), ti_sI_ne (by omega), ti_sI_ne (by omega), ti_sI_ne (fun q => hi q.2)]
  · rw [ti_sI_ne (by omega), ti_sI_ne (by omega), ti_sI_ne (by omega), ti_sI_ne (fun q => hi q.2), ti_sI_ne (by omega)]
  · rw [ti_sI_ne (by omega), ti_sI_ne (by omega), ti_sI_eq]
  · rw [ti_sI_ne (by omega), ti_sI_ne (by omega), ti_sI_ne (fun q => hi q.2), ti_sI_ne (by omega), ti_sI_ne (by omega)]
  · rw [ti_sI_eq]
    rfl
/-- the two audits: as many entries (the class keeps 1024), and what each says of sessions -/
def AUo (d : Nat) (lv : Nat → Int32) (n : Nat) (S m : AS) : Prop :=
  0 ≤ (sI m 57 77).toInt ∧ (sI m 57 77).toInt ≤ 1200 ∧ (sI S 5 2).toInt = min 1024 ((sI m 57 77).toInt + (d : Int)) ∧
  ((sI m 57 77).toInt + (d : Int) ≤ 1024 →
    (∀ s, s < 60 → ((∃ i : Nat, (i : Int) < (sI S 5 2).toInt ∧ sI S 6 i = Int32.ofNat s) ↔ s < n)) ∧
    (∀ s, s < 60 → ((∃ i : Nat, (i : Int) < (sI S 5 2).toInt ∧ sI S 6 i = Int32.ofNat (1000 + s)) ↔ s < n ∧ lv s ≠ 1)) ∧
    (∀ s, s < n → ∃ i : Nat, (i : Int) < (sI m 57 77).toInt ∧ sI m 124 i = Int32.ofNat s ∧ sI m 123 i = (if lv s = 1 then 0 else 1) ∧ ∀ j : Nat, i < j → (j : Int) < (sI m 57 77).toInt → sI m 124 j = Int32.ofNat s → ¬ sI m 123 j < 2))
theorem k1000 : ∀ k, k < 7 → ∀ nu, nu < 61 → ∀ s, s < 60 → ((1000 : Int32) * Int32.ofNat k + Int32.ofNat nu = Int32.ofNat s ↔ k = 0 ∧ nu = s) ∧ ((1000 : Int32) * Int32.ofNat k + Int32.ofNat nu = Int32.ofNat (1000 + s) ↔ k = 1 ∧ nu = s) := by decide +kernel
theorem AUo_w {lv lv' : Nat → Int32} {d n n' k nu : Nat} {S S' m m' : AS} (h : AUo d lv n S m) (hL : sL m 123 = 1200) (hn : n ≤ 60) (hn' : n' ≤ 60) (hk : k < 7) (hnu : nu < 61) (a : AWK S S' (Int32.ofNat k) (Int32.ofNat nu)) (b : AWM m m' (Int32.ofNat k) (Int32.ofNat nu))
    (c1 : ∀ s, s < 60 → (s < n' ↔ s < n ∨ (k = 0 ∧ nu = s))) (c2 : ∀ s, s < 60 → (s < n' ∧ lv' s ≠ 1 ↔ (s < n ∧ lv s ≠ 1) ∨ (k = 1 ∧ nu = s)))
    (c3 : ∀ s, s < n' → (lv' s = lv s ∧ s < n ∧ (2 ≤ k ∨ nu ≠ s)) ∨ (nu = s ∧ (k = 0 ∧ lv' s = 1 ∨ k = 1 ∧ lv' s ≠ 1))) : AUo d lv' n' S' m' := by
  obtain ⟨h1, h2, h3, h4⟩ := h
  obtain ⟨-, a, -⟩ := a
  obtain ⟨-, b0, b1, b2, b3, b4, b5, -, -, -⟩ := b
  rw [hL] at b1
  have b1 : (sI m 57 77).toInt < 1200 := b1
  have e2 : (sI m' 57 77).toInt = (sI m 57 77).toInt + 1 := by
    rw [b2, Int32.toInt_add, show (1 : Int32).toInt = 1 from by decide]
    exact bm (by omega) (by omega)
  have eN : ((sI m 57 77).toNatClampNeg : Int) = (sI m 57 77).toInt := natI b0
  rcases a with ⟨a0, a1, a2, a3, a4⟩ | ⟨a0, a2, a3⟩
  · have f2 : (sI S' 5 2).toInt = (sI S 5 2).toInt + 1 := by
      rw [a2, Int32.toInt_add, show (1 : Int32).toInt = 1 from by decide]
      exact bm (by omega) (by omega)
    have fN : ((sI S 5 2).toNatClampNeg : Int) = (sI S 5 2).toInt := natI a0
    have hc : (sI m 57 77).toInt + (d : Int) ≤ 1024 := by omega
    obtain ⟨g1, g2, g3⟩ := h4 hc
    have ex : ∀ v : Int32, (∃ i : Nat, (i : Int) < (sI S' 5 2).toInt ∧ sI S' 6 i = v) ↔ (∃ i : Nat, (i : Int) < (sI S 5 2).toInt ∧ sI S 6 i = v) ∨ (1000 : Int32) * Int32.ofNat k + Int32.ofNat nu = v := fun v => by
      constructor
      · rintro ⟨i, p1, p2⟩
        by_cases c : i = (sI S 5 2).toNatClampNeg
        · rw [c, a3] at p2
          exact Or.inr p2
        · rw [a4 i c] at p2
          exact Or.inl ⟨i, by omega, p2⟩
      · rintro (⟨i, p1, p2⟩ | p2)
        · exact ⟨i, by omega, by rw [a4 i (by omega)]; exact p2⟩
        · exact ⟨(sI S 5 2).toNatClampNeg, by omega, by rw [a3]; exact p2⟩
    refine ⟨by omega, by omega, by omega, fun _ => ⟨fun s hs => ?_, fun s hs => ?_, fun s hs => ?_⟩⟩
    · rw [ex, g1 s hs, (k1000 k hk nu hnu s hs).1, c1 s hs]
    · rw [ex, g2 s hs, (k1000 k hk nu hnu s hs).2, c2 s hs]
    · rcases c3 s hs with ⟨q1, q2, q3⟩ | ⟨q1, q2⟩
      · obtain ⟨i, p1, p2, p3, p4⟩ := g3 s q2
        refine ⟨i, by omega, ?_, ?_, fun j hj hj2 hj3 => ?_⟩
        · rw [(b5 i (by omega)).2]; exact p2
        · rw [(b5 i (by omega)).1, q1]; exact p3
        · by_cases c : j = (sI m 57 77).toNatClampNeg
          · rw [c, b4] at hj3
            have z := oinj (by omega) (by omega) hj3
            rw [c, b3]
            intro q
            have := Int32.lt_iff_toInt_lt.mp q
            rw [oi (by omega), show (2 : Int32).toInt = 2 from by decide] at this
            omega
          · rw [(b5 j c).2] at hj3
            rw [(b5 j c).1]
            exact p4 j hj (by omega) hj3
      · refine ⟨(sI m 57 77).toNatClampNeg, by omega, by rw [b4, q1], ?_, fun j hj hj2 => ?_⟩
        · rw [b3]
          rcases q2 with ⟨rfl, q2⟩ | ⟨rfl, q2⟩
          · rw [if_pos q2]; rfl
          · rw [if_neg q2]; rfl
        · omega
  · exact ⟨by omega, by omega, by rw [a2]; omega, fun q => by omega⟩
/-- the sum of the first entries -/
def fS (m : AS) : Nat → Int32
  | 0 => 7
  | i + 1 => ams (fS m i) (sI m 123 i) (sI m 124 i) (sI m 125 i)
/-- entry for entry, with the minutes and the sum -/
def AX (S m : AS) : Prop := sI S 4 0 = sI m 57 0 ∧ ((sI m 57 77).toInt ≤ 1024 → sI S 5 3 = sI m 57 81 ∧ sI m 57 81 = fS m (sI m 57 77).toInt.toNat ∧ ∀ i : Nat, (i : Int) < (sI m 57 77).toInt → (∃ k nu, k < 7 ∧ nu < 61 ∧ sI S 6 i = (1000 : Int32) * Int32.ofNat k + Int32.ofNat nu ∧ sI m 123 i = Int32.ofNat k ∧ sI m 124 i = Int32.ofNat nu) ∧ sI S 7 i = sI m 125 i)
theorem fS_eq {m m' : AS} : ∀ {n : Nat}, (∀ i, i < n → sI m' 123 i = sI m 123 i ∧ sI m' 124 i = sI m 124 i ∧ sI m' 125 i = sI m 125 i) → fS m' n = fS m n
  | 0, _ => rfl
  | n + 1, h => by
    unfold fS
    obtain ⟨h1, h2, h3⟩ := h n (by omega)
    rw [fS_eq (fun i hi => h i (by omega)), h1, h2, h3]
theorem k1000d : ∀ k, k < 7 → ∀ nu, nu < 61 → ((1000 : Int32) * Int32.ofNat k + Int32.ofNat nu) / (1000 : Int32) = Int32.ofNat k ∧ (1000 : Int32) * Int32.ofNat k + Int32.ofNat nu - ((1000 : Int32) * Int32.ofNat k + Int32.ofNat nu) / (1000 : Int32) * (1000 : Int32) = Int32.ofNat nu := by decide +kernel
def AU (d : Nat) (lv : Nat → Int32) (n : Nat) (S m : AS) : Prop := AUo d lv n S m ∧ (d = 0 → AX S m)
theorem AU_w {lv lv' : Nat → Int32} {d n n' k nu : Nat} {S S' m m' : AS} (h : AU d lv n S m) (hL : sL m 123 = 1200) (hn : n ≤ 60) (hn' : n' ≤ 60) (hk : k < 7) (hnu : nu < 61) (a : AWK S S' (Int32.ofNat k) (Int32.ofNat nu)) (b : AWM m m' (Int32.ofNat k) (Int32.ofNat nu))
    (c1 : ∀ s, s < 60 → (s < n' ↔ s < n ∨ (k = 0 ∧ nu = s))) (c2 : ∀ s, s < 60 → (s < n' ∧ lv' s ≠ 1 ↔ (s < n ∧ lv s ≠ 1) ∨ (k = 1 ∧ nu = s)))
    (c3 : ∀ s, s < n' → (lv' s = lv s ∧ s < n ∧ (2 ≤ k ∨ nu ≠ s)) ∨ (nu = s ∧ (k = 0 ∧ lv' s = 1 ∨ k = 1 ∧ lv' s ≠ 1))) : AU d lv' n' S' m' := by
  refine ⟨AUo_w h.1 hL hn hn' hk hnu a b c1 c2 c3, fun hd => ?_⟩
  obtain ⟨⟨g1, g2, g3, -⟩, h⟩ := h
  subst hd
  obtain ⟨h1, h2⟩ := h rfl
  obtain ⟨af, aO, aX⟩ := a
  obtain ⟨bf, b0, b1, b2, b3, b4, b5, b6, b7, b8⟩ := b
  rw [hL] at b1
  have b1 : (sI m 57 77).toInt < 1200 := b1
  have e2 : (sI m' 57 77).toInt = (sI m 57 77).toInt + 1 := by
    rw [b2, Int32.toInt_add, show (1 : Int32).toInt = 1 from by decide]
    exact bm (by omega) (by omega)
  have eN : ((sI m 57 77).toNatClampNeg : Int) = (sI m 57 77).toInt := natI b0
  refine ⟨by rw [af.2.2 4 0 (by omega) (by omega) (by omega), bf.2.2 57 0 (by omega) (by omega) (by omega) (by omega)]; exact h1, fun q => ?_⟩
  rw [e2] at q
  obtain ⟨i1, i2, i3⟩ := h2 (by omega)
  have g3 : (sI S 5 2).toInt = (sI m 57 77).toInt := by
    rw [g3]
    omega
  have c0 : (sI S 5 2).toNatClampNeg = (sI m 57 77).toNatClampNeg := by
    show (sI S 5 2).toInt.toNat = (sI m 57 77).toInt.toNat
    rw [g3]
  obtain ⟨a1, a2, a3⟩ := aX (by omega) (by omega)
  obtain ⟨-, -, -, o4, o5⟩ := aO.resolve_right (fun z => z.1 ⟨by omega, by omega⟩)
  obtain ⟨d1, d2⟩ := k1000d k hk nu hnu
  rw [d2, d1, i1, h1] at a3
  refine ⟨a3.trans b8.symm, ?_, fun i hi => ?_⟩
  · rw [e2, show ((sI m 57 77).toInt + 1).toNat = (sI m 57 77).toInt.toNat + 1 by omega]
    unfold fS
    rw [fS_eq (m := m) (m' := m') (n := (sI m 57 77).toInt.toNat) (fun i hi => ⟨(b5 i (by omega)).1, (b5 i (by omega)).2, b7 i (by omega)⟩), ← i2]
    have t : (sI m 57 77).toInt.toNat = (sI m 57 77).toNatClampNeg := rfl
    rw [t, b3, b4, b6]
    exact b8
  · rw [e2] at hi
    by_cases c : i = (sI m 57 77).toNatClampNeg
    · subst c
      rw [b3, b4, b6]
      exact ⟨⟨k, nu, hk, hnu, by rw [← c0]; exact o4, rfl, rfl⟩, by rw [← c0, a1]; exact h1⟩
    · have c' : i ≠ (sI S 5 2).toNatClampNeg := by rw [c0]; exact c
      rw [(b5 i c).1, (b5 i c).2, b7 i c, a2 i c', o5 i c']
      exact i3 i (by omega)
def KW (τ j : Nat) : Bool := (τ == 43 && j == 6) || (τ == 1 && j == 9) || (τ == 44 && (j == 6 || j == 11)) || (τ == 2) || (τ == 3) || (τ == 4)
def MW (p j : Nat) : Bool := p == 89 || p == 103 || p == 116 || p == 123 || p == 124 || p == 125 || (p == 57 && (j == 77 || j == 81))
def KE (T : Nat → Nat) (S0 S : AS) : Prop := sR S = sR S0 ∧ sL S = sL S0 ∧ ∀ k j, T k ≠ 0 → KW (T k) j = false → sI S k j = sI S0 k j
def ME (m0 m : AS) : Prop := sR m = sR m0 ∧ sL m = sL m0 ∧ ∀ p j, MW p j = false → sI m p j = sI m0 p j
theorem KE_rf (T : Nat → Nat) (S : AS) : KE T S S := ⟨rfl, rfl, fun _ _ _ _ => rfl⟩
theorem ME_rf (m : AS) : ME m m := ⟨rfl, rfl, fun _ _ _ => rfl⟩
theorem KE_w {T : Nat → Nat} {S0 S : AS} {k j τ : Nat} {v : Int32} (h : KE T S0 S) (hk : T k = τ) (hw : KW τ j = true) : KE T S0 (wI S k j v) :=
  ⟨h.1, h.2.1, fun a b ha hb => by
    rw [ti_sI_ne (fun q => by
      obtain ⟨rfl, rfl⟩ := q
      rw [hk, hw] at hb
      cases hb)]
    exact h.2.2 a b ha hb⟩
theorem ME_w {m0 m : AS} {p j : Nat} {v : Int32} (h : ME m0 m) (hw : MW p j = true) : ME m0 (wI m p j v) :=
  ⟨h.1, h.2.1, fun a b hb => by
    rw [ti_sI_ne (fun q => by
      obtain ⟨rfl, rfl⟩ := q
      rw [hw] at hb
      cases hb)]
    exact h.2.2 a b hb⟩
theorem KE_a {T : Nat → Nat} {S0 S S' : AS} {k nu : Int32} (h : KE T S0 S) (t5 : T 5 = 2) (t6 : T 6 = 3) (t7 : T 7 = 4) (a : AWK S S' k nu) : KE T S0 S' :=
  ⟨a.1.1.trans h.1, a.1.2.1.trans h.2.1, fun p j hp hw => by
    rw [a.1.2.2 p j (fun q => by rw [q, t5] at hw; cases hw) (fun q => by rw [q, t6] at hw; cases hw) (fun q => by rw [q, t7] at hw; cases hw)]
    exact h.2.2 p j hp hw⟩
theorem ME_a {m0 m m' : AS} {k nu : Int32} (h : ME m0 m) (a : AWM m m' k nu) : ME m0 m' :=
  ⟨a.1.1.trans h.1, a.1.2.1.trans h.2.1, fun p j hw => by
    rw [a.1.2.2 p j (fun q => by rw [q] at hw; cases hw) (fun q => by rw [q] at hw; cases hw) (fun q => by rw [q] at hw; cases hw) (fun q => by
      obtain ⟨rfl, q⟩ := q
      rcases q with rfl | rfl <;> cases hw)]
    exact h.2.2 p j hw⟩
/-! ===== what is fixed while sessions and families end ===== -/
def SJ (T : Nat → Nat) (S : AS) (n nf : Nat) : Prop :=
  (T 4 = 1 ∧ T 5 = 2 ∧ T 6 = 3 ∧ T 7 = 4 ∧ T 19 = 22 ∧ T 23 = 24) ∧ K4F S ∧ sL S 21 = 4 ∧ (∀ i, i < 4 → T (53 + i) = 17) ∧
  (∀ s, s < n → T (lel S 19 s) = 43 ∧ sR S ((sR S 19 1).getD 0) s = some (lel S 19 s)) ∧ (∀ f, f < nf → T (lel S 23 f) = 44 ∧ sR S ((sR S 23 1).getD 0) f = some (lel S 23 f))
def ST (T : Nat → Nat) (S m : AS) (n nf nt : Nat) : Prop :=
  SJ T S n nf ∧ (∀ i, i < 4 → sR S 21 i = some (53 + i)) ∧ MF m ∧ (n ≤ 60 ∧ nf ≤ 60 ∧ nt ≤ 200 ∧ sI S 19 2 = Int32.ofNat n ∧ sI m 57 30 = Int32.ofNat n ∧ sI S 23 2 = Int32.ofNat nf ∧ sI m 57 46 = Int32.ofNat nf ∧ sI m 57 52 = Int32.ofNat nt ∧ sL m 123 = 1200) ∧
  (∀ s, s < n → sI S (lel S 19 s) 0 = Int32.ofNat s ∧ (∃ p, p < 6 ∧ sR S (lel S 19 s) 1 = some (29 + 4 * p) ∧ sI m 85 s = Int32.ofNat p) ∧ ∀ o, o < n → (sR S (lel S 19 s) 2 = some (lel S 19 o) ↔ sI m 88 s = Int32.ofNat o)) ∧
  (∀ f, f < nf → sI S (lel S 23 f) 5 = Int32.ofNat f ∧ (∃ c s, c < 60 ∧ s < n ∧ sI m 99 f = Int32.ofNat c ∧ sI m 93 c = Int32.ofNat s ∧ sR S (lel S 23 f) 0 = some (lel S 19 s)) ∧
    ∀ v, v < 4 → (bt (sI S (lel S 23 f) 10) v = true ↔ ∃ t, t < nt ∧ sI m 108 t = Int32.ofNat f ∧ sI m 105 t = Int32.ofNat v)) ∧
  (∀ v, v < 4 → (sI S (53 + v) 1 = 0 ↔ sI m 113 v ≠ 0))
theorem SJ_of {T : Nat → Nat} {S : AS} {n nf : Nat} (hT : TI T S) (hp : PF S) (h60 : n ≤ 60) (hf60 : nf ≤ 60) (h1 : sI S 19 2 = Int32.ofNat n) (h2 : sI S 23 2 = Int32.ofNat nf) : SJ T S n nf := by
  obtain ⟨t4, t5, t6, t7, -, -, -, -, t21, -⟩ := kt4 hT
  exact ⟨⟨t4, t5, t6, t7, (hT.t6 2 (by decide)).1, (hT.t6 4 (by decide)).1⟩, K4F_of hT, (hT.t1 21 (by rw [t21]; decide)).2.2.2 4 (by rw [t21]; rfl), fun i hi => kt_S hT hp hi,
    fun s hs => lel_at hT (q := 2) (by decide) (by rw [show lp 2 = 19 from rfl, h1, oi (by omega)]; omega), fun f hf => lel_at hT (q := 4) (by decide) (by rw [show lp 4 = 23 from rfl, h2, oi (by omega)]; omega)⟩
/-- what they change, alike on both sides -/
def EE (d : Nat) (T : Nat → Nat) (S0 m0 : AS) (n nf : Nat) (S m : AS) : Prop :=
  KE T S0 S ∧ ME m0 m ∧ (∀ s, s < n → sI S (lel S0 19 s) 6 = sI m 89 s ∧ (sI m 89 s = 0 ∨ sI m 89 s = 1)) ∧ sI S 4 9 = Int32.ofNat (cnt (sI m 89) n) ∧
  (∀ f, f < nf → sI S (lel S0 23 f) 6 = sI m 103 f ∧ (∀ v, v < 4 → (bt (sI S (lel S0 23 f) 11) v = true ↔ sI m 116 (60 * v + f) = 1)) ∧ (sI m 103 f ≠ 0 → ∀ v, v < 4 → sI m 116 (60 * v + f) = 0)) ∧
  AU d (sI m 89) n S m ∧ (∀ x, nf ≤ x → x < 60 → ∀ v, v < 4 → sI m 116 (60 * v + x) = 0)
section
variable {T : Nat → Nat} {S0 m0 S m : AS} {d n nf nt : Nat}
theorem ST_s (h : ST T S0 m0 n nf nt) {s : Nat} (hs : s < n) : T (lel S0 19 s) = 43 ∧ sR S0 ((sR S0 19 1).getD 0) s = some (lel S0 19 s) := h.1.2.2.2.2.1 s hs
theorem ST_f (h : ST T S0 m0 n nf nt) {f : Nat} (hf : f < nf) : T (lel S0 23 f) = 44 ∧ sR S0 ((sR S0 23 1).getD 0) f = some (lel S0 23 f) := h.1.2.2.2.2.2 f hf
theorem ST_si (h : ST T S0 m0 n nf nt) {a b : Nat} (ha : a < n) (hb : b < n) (e : lel S0 19 a = lel S0 19 b) : a = b := by
  have h1 := (h.2.2.2.2.1 a ha).1
  have := h.2.2.2.1.1
  rw [e, (h.2.2.2.2.1 b hb).1] at h1
  exact (oinj (by omega) (by omega) h1).symm
theorem ST_fi (h : ST T S0 m0 n nf nt) {a b : Nat} (ha : a < nf) (hb : b < nf) (e : lel S0 23 a = lel S0 23 b) : a = b := by
  have h1 := (h.2.2.2.2.2.1 a ha).1
  have := h.2.2.2.1.2.1
  rw [e, (h.2.2.2.2.2.1 b hb).1] at h1
  exact (oinj (by omega) (by omega) h1).symm
theorem ix60 : ∀ v, v < 4 → ∀ f, f < 60 → (((60 : Int32) * Int32.ofNat v) + Int32.ofNat f).toNatClampNeg = 60 * v + f := by decide +kernel
/-- which services hear of a family -/
theorem p_hears_L (hm : MF m) (hR : sI m 57 52 = Int32.ofNat nt) (hn : nt ≤ 200) {v f : Nat} : ∀ (k i fu : Nat) (b : Int32), i + k = nt → (b = 0 ∨ b = 1) → (b = 1 ↔ ∃ t, t < i ∧ sI m 108 t = Int32.ofNat f ∧ sI m 105 t = Int32.ofNat v) →
    Hp (f_M_hears_L5 fu m (some 57) (Int32.ofNat v) (Int32.ofNat f) b (Int32.ofNat i)) (fun q => q.2 = m ∧ (q.1 = 0 ∨ q.1 = 1) ∧ (q.1 = 1 ↔ ∃ t, t < nt ∧ sI m 108 t = Int32.ofNat f ∧ sI m 105 t = Int32.ofNat v))
  | _, _, 0, _, _, _, _ => p_0
  | 0, i, fu + 1, b, hk, hb, he => by
    unfold f_M_hears_L5 f_M_hears_C5
    refine p_of (st_gIe hR) (p_of (st_T ((ole (by omega) (by omega)).mpr (by omega))) (p_of st_z (p_ret ⟨rfl, hb, ?_⟩)))
    rw [show nt = i by omega]
    exact he
  | k + 1, i, fu + 1, b, hk, hb, he => by
    unfold f_M_hears_L5 f_M_hears_C5
    refine p_of (st_gIe hR) (p_of (st_F (fun q => by have := (ole (by omega) (by omega)).mp q; omega)) ?_)
    have go : ∀ b' : Int32, (b' = 0 ∨ b' = 1) → (b' = 1 ↔ b = 1 ∨ (sI m 108 i = Int32.ofNat f ∧ sI m 105 i = Int32.ofNat v)) → Hp (f_M_hears_B45 (f_M_hears_L5 fu) m (some 57) (Int32.ofNat v) (Int32.ofNat f) (Int32.ofNat i) b') (fun q => q.2 = m ∧ (q.1 = 0 ∨ q.1 = 1) ∧ (q.1 = 1 ↔ ∃ t, t < nt ∧ sI m 108 t = Int32.ofNat f ∧ sI m 105 t = Int32.ofNat v)) := fun b' h0 h1 => by
      unfold f_M_hears_B45
      refine p_of st_val ?_
      rw [o1]
      refine p_hears_L hm hR hn k (i + 1) fu b' (by omega) h0 ?_
      rw [h1, he]
      constructor
      · rintro (⟨t, ht, p⟩ | p)
        · exact ⟨t, by omega, p⟩
        · exact ⟨i, by omega, p⟩
      · rintro ⟨t, ht, p⟩
        by_cases c : t = i
        · rw [c] at p; exact Or.inr p
        · exact Or.inl ⟨t, by omega, p⟩
    refine p_if (fun c => ?_) (fun c => ?_)
    · refine p_of (st_gRe (hm 57 108 rfl)) (p_of (st_aIe (oc (by omega)) rfl) (p_if (fun c1 => ?_) (fun c1 => ?_)))
      · refine p_of (st_gRe (hm 54 105 rfl)) (p_of (st_aIe (oc (by omega)) rfl) (p_if (fun c2 => ?_) (fun c2 => ?_)))
        · unfold f_M_hears_B40
          exact go 1 (Or.inr rfl) ⟨fun _ => Or.inr ⟨c1, c2⟩, fun _ => rfl⟩
        · unfold f_M_hears_B44
          exact go 0 (Or.inl rfl) ⟨fun q => absurd q (by decide), fun q => by
            rcases q with q | q
            · rw [c] at q; cases q
            · exact absurd q.2 c2⟩
      · unfold f_M_hears_B44
        exact go 0 (Or.inl rfl) ⟨fun q => absurd q (by decide), fun q => by
          rcases q with q | q
          · rw [c] at q; cases q
          · exact absurd q.1 c1⟩
    · unfold f_M_hears_B40
      exact go 1 (Or.inr rfl) ⟨fun _ => Or.inl (by rcases hb with q | q; exact absurd q c; exact q), fun _ => rfl⟩
theorem p_hears (hm : MF m) (hR : sI m 57 52 = Int32.ofNat nt) (hn : nt ≤ 200) {v f : Nat} : Hp (f_M_hears m (some 57) (Int32.ofNat v) (Int32.ofNat f)) (fun q => q.2 = m ∧ (q.1 = 0 ∨ q.1 = 1) ∧ (q.1 = 1 ↔ ∃ t, t < nt ∧ sI m 108 t = Int32.ofNat f ∧ sI m 105 t = Int32.ofNat v)) := by
  unfold f_M_hears
  exact p_hears_L hm hR hn nt 0 kr_FU 0 (by omega) (Or.inl rfl) ⟨fun q => absurd q (by decide), fun ⟨t, ht, _⟩ => absurd ht (Nat.not_lt_zero _)⟩
/-- a service is found -/
theorem x_fs {S : AS} {v : Nat} (h4 : sR S 4 11 = some 21) (hp : sR S 21 v = some (53 + v)) (hl : sL S 21 = 4) (hv : v < 4) : Hp (f_K_findService S (some 4) (Int32.ofNat v)) (fun q => q = (.inl (some (53 + v)), S)) := by
  unfold f_K_findService
  refine p_of (st_F (fun q => by have := lt0.mp q; rw [oi (by omega)] at this; omega)) (p_of (st_gRe h4) (p_of st_aN ?_))
  rw [hl]
  refine p_of (st_F (fun q => by have := (ole (by omega) (by omega)).mp q; omega)) (p_of (st_gRe h4) (p_of (st_aRe (oc (by omega)) hp) ?_))
  unfold f_K_findService_B23
  exact p_of (st_F (fun q => nomatch q)) (p_ret rfl)
theorem bt_is {x : Int32} {v : Nat} (hv : v < 12) (S : AS) : f_K_isIn S (Int32.ofNat v) x = some (if bt x v = true then 1 else 0, S) := by
  unfold f_K_isIn
  by_cases c : bt x v = true
  · rw [if_pos ((bt_test x hv).mpr c), if_pos c]
  · rw [if_neg (fun q => c ((bt_test x hv).mp q)), if_neg c]
/-- a family is told by a service -/
theorem p_tell {S : AS} {g v : Nat} (hv : v < 12) : Hp (f_Grant_tell S (some g) (Int32.ofNat v)) (fun q => (q.1 = 1 ∧ bt (sI S g 10) v = true ∧ ¬ bt (sI S g 11) v = true ∧ q.2 = wI S g 11 (sI S g 11 ||| ((1 : Int32) <<< (Int32.ofNat v &&& 31)))) ∨ (q.1 = 0 ∧ ¬ (bt (sI S g 10) v = true ∧ ¬ bt (sI S g 11) v = true) ∧ q.2 = S)) := by
  unfold f_Grant_tell
  refine p_of st_gI (p_of (st_b2 (bt_is hv S)) ?_)
  by_cases c : bt (sI S g 10) v = true
  · rw [if_pos c]
    refine p_of (st_F one0) (p_of st_gI (p_of (st_b2 (bt_is hv S)) ?_))
    by_cases c2 : bt (sI S g 11) v = true
    · rw [if_pos c2]
      exact p_of (st_F one0) (p_ret (Or.inr ⟨rfl, fun q => q.2 c2, rfl⟩))
    · rw [if_neg c2]
      exact p_of (st_T rfl) (p_of st_gI (p_of st_pI (p_ret (Or.inl ⟨rfl, c, c2, rfl⟩))))
  · rw [if_neg c]
    exact p_of (st_T rfl) (p_ret (Or.inr ⟨rfl, fun q => c q.1, rfl⟩))
theorem bt_sh (x : Int32) {v : Nat} (hv : v < 12) (j : Nat) : bt (x ||| ((1 : Int32) <<< (Int32.ofNat v &&& 31))) j = true ↔ bt x j = true ∨ j = v := by
  rw [bt_or, bt_shl hv, Bool.or_eq_true, decide_eq_true_iff]
theorem AU_cong {lv lv' : Nat → Int32} {S' m' : AS} (h : AU d lv n S m) (e1 : sI S' 5 2 = sI S 5 2) (e2 : sI S' 6 = sI S 6) (e3 : sI m' 57 77 = sI m 57 77) (e4 : sI m' 123 = sI m 123) (e5 : sI m' 124 = sI m 124) (e6 : lv' = lv) (x1 : sI S' 5 3 = sI S 5 3) (x2 : sI S' 7 = sI S 7) (x3 : sI S 4 0 = sI m 57 0 → sI S' 4 0 = sI m' 57 0) (x4 : sI m' 57 81 = sI m 57 81) (x5 : sI m' 125 = sI m 125) : AU d lv' n S' m' := by
  refine ⟨?_, fun hd => ?_⟩
  · unfold AUo
    rw [e1, e2, e3, e4, e5, e6]
    exact h.1
  · obtain ⟨h1, h2⟩ := h.2 hd
    refine ⟨x3 h1, ?_⟩
    rw [x1, x2, x4, x5, e2, e3, e4, e5, show fS m' = fS m from funext fun n => fS_eq (fun i _ => ⟨congrFun e4 i, congrFun e5 i, congrFun x5 i⟩)]
    exact h2
theorem KE_ty (h : KE T S0 S) {k j τ : Nat} (hk : T k = τ) (h0 : τ ≠ 0) (hw : KW τ j = false) : sI S k j = sI S0 k j := h.2.2 k j (by rw [hk]; exact h0) (by rw [hk]; exact hw)
theorem MF_e (h : MF m0) (e : sR m = sR m0) : MF m := fun j p q => by rw [e]; exact h j p q
theorem hears_e (st : ST T S0 m0 n nf nt) (hK : KE T S0 S) (hM : ME m0 m) {f v : Nat} (hf : f < nf) (hv : v < 4) : bt (sI S (lel S0 23 f) 10) v = true ↔ ∃ t, t < nt ∧ sI m 108 t = Int32.ofNat f ∧ sI m 105 t = Int32.ofNat v := by
  rw [KE_ty hK (ST_f st hf).1 (by decide) (by decide), (st.2.2.2.2.2.1 f hf).2.2 v hv]
  constructor
  · rintro ⟨t, h1, h2, h3⟩
    exact ⟨t, h1, (hM.2.2 _ _ (by rfl)).trans h2, (hM.2.2 _ _ (by rfl)).trans h3⟩
  · rintro ⟨t, h1, h2, h3⟩
    exact ⟨t, h1, (hM.2.2 108 t (by rfl)).symm.trans h2, (hM.2.2 105 t (by rfl)).symm.trans h3⟩
/-- the services are told -/
theorem h_eF_L (st : ST T S0 m0 n nf nt) {f : Nat} (hf : f < nf) (S1 m1 : AS) : ∀ (k i fu fu' : Nat) (S m : AS), i + k = 4 → KE T S0 S → ME m0 m →
    (∀ v, v < 4 → (bt (sI S (lel S0 23 f) 11) v = true ↔ v < i ∧ sI m 116 (60 * v + f) = 1)) →
    (∀ p j, ¬ (p = lel S0 23 f ∧ j = 11) → sI S p j = sI S1 p j) → (∀ p j, ¬ (p = 116 ∧ ∃ v, v < 4 ∧ j = 60 * v + f) → sI m p j = sI m1 p j) →
    H2 (f_K_endFamily_L31 fu S (some 4) (some (lel S0 23 f)) (Int32.ofNat i)) (f_M_endFamily_L25 fu' m (some 57) (Int32.ofNat f) (Int32.ofNat i)) (fun a m' => ∃ S', a = (.inl (), S') ∧ KE T S0 S' ∧ ME m0 m' ∧
      (∀ v, v < 4 → (bt (sI S' (lel S0 23 f) 11) v = true ↔ sI m' 116 (60 * v + f) = 1)) ∧
      (∀ p j, ¬ (p = lel S0 23 f ∧ j = 11) → sI S' p j = sI S1 p j) ∧ (∀ p j, ¬ (p = 116 ∧ ∃ v, v < 4 ∧ j = 60 * v + f) → sI m' p j = sI m1 p j))
  | _, _, 0, _, _, _, _, _, _, _, _, _ => h2_l0
  | _, _, _ + 1, 0, _, _, _, _, _, _, _, _ => h2_m0
  | 0, i, fu + 1, fu' + 1, S, m, hk, hK, hM, hb, hoS, hoM => by
    unfold f_K_endFamily_L31 f_K_endFamily_C31 f_M_endFamily_L25 f_M_endFamily_C25
    have hi : i = 4 := by omega
    subst hi
    refine l_of (st_T (by decide)) (m_of (st_T (by decide)) (h2_ret ⟨S, rfl, hK, hM, fun v hv => ?_, hoS, hoM⟩))
    rw [hb v hv]
    exact ⟨fun q => q.2, fun q => ⟨hv, q⟩⟩
  | k + 1, i, fu + 1, fu' + 1, S, m, hk, hK, hM, hb, hoS, hoM => by
    unfold f_K_endFamily_L31 f_K_endFamily_C31 f_M_endFamily_L25 f_M_endFamily_C25
    have hm := MF_e st.2.2.1 hM.1
    have nf60 := st.2.2.2.1.2.1
    have tg := (ST_f st hf).1
    have i4 : ¬ (4 : Int32) ≤ Int32.ofNat i := fun q => by
      have := (ole (a := 4) (b := i) (by decide) (by omega)).mp q
      omega
    refine l_of (st_F i4) (m_of (st_F i4) (l_of st_rv ?_))
    refine l_b2x (x_fs (by rw [hK.1]; exact st.1.2.1.1 11 21 rfl) (by rw [hK.1]; exact st.2.1 i (by omega)) (by rw [hK.2.1]; exact st.1.2.2.1) (by omega)) ?_
    refine l_of st_gI ?_
    refine m_of (st_gRe (hm 69 116 rfl)) (m_of (st_gRe (hm 66 113 rfl)) (m_of (st_aIe (oc (by omega)) rfl) ?_))
    have up : sI S (53 + i) 1 = 0 ↔ sI m 113 i ≠ 0 := by
      rw [KE_ty hK (st.1.2.2.2.1 i (show i < 4 by omega)) (by decide) (by decide), hM.2.2 113 i (by rfl)]
      exact st.2.2.2.2.2.2 i (by omega)
    -- both write or leave, then go on
    have go : ∀ (S' : AS) (b : Int32), KE T S0 S' → (∀ p j, ¬ (p = lel S0 23 f ∧ j = 11) → sI S' p j = sI S p j) → (∀ v, v < 4 → (bt (sI S' (lel S0 23 f) 11) v = true ↔ (bt (sI S (lel S0 23 f) 11) v = true ∨ v = i ∧ b = 1))) →
        H2 (f_K_endFamily_B53 (f_K_endFamily_L31 fu) S' (some 4) (some (lel S0 23 f)) (Int32.ofNat i)) (f_M_endFamily_B63 (f_M_endFamily_L25 fu') m (some 57) (Int32.ofNat f) (Int32.ofNat i) (some 116) ((60 : Int32) * Int32.ofNat i + Int32.ofNat f) b) (fun a m' => ∃ S', a = (.inl (), S') ∧ KE T S0 S' ∧ ME m0 m' ∧
      (∀ v, v < 4 → (bt (sI S' (lel S0 23 f) 11) v = true ↔ sI m' 116 (60 * v + f) = 1)) ∧
      (∀ p j, ¬ (p = lel S0 23 f ∧ j = 11) → sI S' p j = sI S1 p j) ∧ (∀ p j, ¬ (p = 116 ∧ ∃ v, v < 4 ∧ j = 60 * v + f) → sI m' p j = sI m1 p j)) := fun S' b hK' ho' hb' => by
      unfold f_K_endFamily_B53 f_M_endFamily_B63
      refine l_of st_val (m_of (st_bZe (ix60 i (by omega) f (by omega))) (m_of st_val ?_))
      rw [o1]
      refine h_eF_L st hf S1 m1 k (i + 1) fu fu' S' _ (by omega) hK' (ME_w hM (by rfl)) (fun v hv => ?_) (fun p j q => (ho' p j q).trans (hoS p j q)) (fun p j q => ?_)
      · rw [hb' v hv, hb v hv]
        by_cases c : v = i
        · subst c
          rw [ti_sI_eq]
          constructor
          · rintro (q | q)
            · omega
            · exact ⟨by omega, q.2⟩
          · exact fun q => Or.inr ⟨rfl, q.2⟩
        · rw [ti_sI_ne (fun q => c (by omega))]
          constructor
          · rintro (q | q)
            · exact ⟨by omega, q.2⟩
            · exact absurd q.1 c
          · exact fun q => Or.inl ⟨by omega, q.2⟩
      · rw [ti_sI_ne (fun z => q ⟨z.1, i, by omega, z.2⟩)]
        exact hoM p j q
    have nt200 := st.2.2.2.1.2.2.1
    have e52 : sI m 57 52 = Int32.ofNat nt := (hM.2.2 57 52 (by rfl)).trans st.2.2.2.1.2.2.2.2.2.2.2.1
    refine l_if (fun c => ?_) (fun c => ?_)
    · refine m_of (st_F (up.mp c)) ?_
      unfold f_M_endFamily_B62
      exact go S 0 hK (fun _ _ _ => rfl) (fun v hv => ⟨Or.inl, fun q => q.elim id (fun z => absurd z.2 (by decide))⟩)
    · have dn : sI m 113 i = 0 := Decidable.not_not.mp (fun q => c (up.mpr q))
      refine m_of (st_T dn) (m_of st_rv (m_p2 (p_hears hm e52 nt200) (fun b m' p => ?_)))
      obtain ⟨e, p01, pb⟩ := p
      have e : m' = m := e
      rw [e]
      have pb : b = 1 ↔ _ := pb
      rw [← hears_e st hK hM hf (show i < 4 by omega)] at pb
      have nti : ¬ bt (sI S (lel S0 23 f) 11) i = true := fun q => by
        have := ((hb i (by omega)).mp q).1
        omega
      refine l_of st_rv (l_p2 (p_tell (by omega)) (fun w S' p => ?_))
      rcases p with ⟨p1, p2, p3, p4⟩ | ⟨p1, p2, p3⟩
      · have b1 := pb.mpr p2
        refine m_of (st_F (by rw [b1]; decide)) ?_
        have p4 : S' = _ := p4
        rw [p4]
        refine go _ 1 (KE_w hK tg (by decide)) (fun p j q => ti_sI_ne q) (fun v hv => ?_)
        rw [ti_sI_eq, bt_sh _ (by omega)]
        exact ⟨fun q => q.elim Or.inl (fun z => Or.inr ⟨z, rfl⟩), fun q => q.elim Or.inl (fun z => Or.inr z.1)⟩
      · have b0 : b = 0 := p01.elim id (fun q => absurd ⟨pb.mp q, nti⟩ p2)
        refine m_of (st_T b0) ?_
        have p3 : S' = S := p3
        rw [p3]
        unfold f_M_endFamily_B62
        exact go S 0 hK (fun _ _ _ => rfl) (fun v hv => ⟨Or.inl, fun q => q.elim id (fun z => absurd z.2 (by decide))⟩)
/-- a family ends -/
theorem h_eF (st : ST T S0 m0 n nf nt) (he : EE d T S0 m0 n nf S m) {f : Nat} (hf : f < nf) : H2 (f_K_endFamily S (some 4) (some (lel S0 23 f))) (f_M_endFamily m (some 57) (Int32.ofNat f)) (fun a m' => ∃ S', a = (.inl (), S') ∧ EE d T S0 m0 n nf S' m' ∧ sI m' 103 f = 0 ∧ (∀ x, x ≠ f → sI m' 103 x = sI m 103 x) ∧ sI m' 89 = sI m 89 ∧ sI S' 4 9 = sI S 4 9) := by
  obtain ⟨hK, hM, hs, hl, hg, ha, hz⟩ := he
  have hm := MF_e st.2.2.1 hM.1
  obtain ⟨n60, nf60, -⟩ := st.2.2.2.1
  have tg := (ST_f st hf).1
  obtain ⟨t4, t5, t6, t7, -⟩ := st.1.1
  obtain ⟨g1, g2, g3⟩ := hg f hf
  have hkf := st.1.2.1
  unfold f_K_endFamily f_M_endFamily
  refine l_of st_gI (m_of (st_gRe (hm 51 103 rfl)) (m_of (st_aIe (oc (by omega)) rfl) ?_))
  refine l_if (fun c => ?_) (fun c => ?_)
  · rw [g1] at c
    exact m_of (st_T c) (h2_ret ⟨S, rfl, ⟨hK, hM, hs, hl, hg, ha, hz⟩, c, fun _ _ => rfl, rfl, rfl⟩)
  · rw [g1] at c
    refine m_of (st_F c) (m_of (st_gRe (hm 51 103 rfl)) (m_of (st_bZe (oc (by omega))) (m_of st_rv ?_)))
    have e5 : sI (wI S (lel S0 23 f) 6 0) (lel S0 23 f) 5 = Int32.ofNat f := by
      rw [ti_sI_ne (by omega), KE_ty hK tg (by decide) (by decide)]
      exact (st.2.2.2.2.2.1 f hf).1
    refine l_of st_pZ (l_of (st_gRe (show sR (wI S (lel S0 23 f) 6 0) 4 1 = some 5 by rw [sR_wI, hK.1]; exact hkf.1 1 5 rfl)) (l_of (st_gIe e5) (l_of st_gI (l_of st_rv ?_))))
    refine l_pd (p_aw (by rw [sR_wI, hK.1]; exact hkf.2.1) (by rw [sR_wI, hK.1]; exact hkf.2.2.1) rfl) (fun S15 a => ?_)
    refine m_pd (p_mw (MF_e hm rfl)) (fun m14 b => ?_)
    have a : AWK (wI S (lel S0 23 f) 6 0) S15 (Int32.ofNat 3) (Int32.ofNat f) := a
    have b : AWM (wI m 103 f 0) m14 (Int32.ofNat 3) (Int32.ofNat f) := b
    have ng : ∀ x, x = 5 ∨ x = 6 ∨ x = 7 ∨ x = 4 → lel S0 23 f ≠ x := fun x hx q => by
      rw [q] at tg
      rcases hx with rfl | rfl | rfl | rfl
      · rw [t5] at tg; cases tg
      · rw [t6] at tg; cases tg
      · rw [t7] at tg; cases tg
      · rw [t4] at tg; cases tg
    have oS : ∀ p j, p ≠ 5 → p ≠ 6 → p ≠ 7 → ¬ (p = lel S0 23 f ∧ j = 6) → sI S15 p j = sI S p j := fun p j h5 h6 h7 h => by
      rw [a.1.2.2 p j h5 h6 h7, ti_sI_ne h]
    have oM : ∀ p j, p ≠ 123 → p ≠ 124 → p ≠ 125 → ¬ (p = 57 ∧ (j = 77 ∨ j = 81)) → ¬ (p = 103 ∧ j = f) → sI m14 p j = sI m p j := fun p j h5 h6 h7 h8 h => by
      rw [b.1.2.2 p j h5 h6 h7 h8, ti_sI_ne h]
    refine h2_mono (h_eF_L st hf S15 m14 4 0 kr_FU kr_FU S15 m14 (by omega) (KE_a (KE_w hK tg (by decide)) t5 t6 t7 a) (ME_a (ME_w hM (by rfl)) b) (fun v hv => ?_) (fun _ _ _ => rfl) (fun _ _ _ => rfl)) ?_
    · rw [oS _ _ (ng 5 (by omega)) (ng 6 (by omega)) (ng 7 (by omega)) (by omega), g2 v hv, g3 c v hv]
      exact ⟨fun q => absurd q (by decide), fun q => absurd q.1 (by omega)⟩
    · rintro a' m' ⟨S', rfl, hK', hM', ht, oS', oM'⟩
      have es : ∀ s, sI m' 89 s = sI m 89 s := fun s => by
        rw [oM' 89 s (by omega), oM 89 s (by omega) (by omega) (by omega) (by omega) (by omega)]
      have es' : sI m' 89 = sI m 89 := funext es
      have e4 : sI S' 4 9 = sI S 4 9 := by
        rw [oS' 4 9 (by omega), oS 4 9 (by omega) (by omega) (by omega) (by omega)]
      refine ⟨S', rfl, ⟨hK', hM', fun s h => ?_, ?_, fun x hx => ?_, ?_, fun x hx hx2 v hv => ?_⟩, ?_, fun x hx => ?_, es', e4⟩
      · have tp := (ST_s st h).1
        have ne : ∀ y τ, T y = τ → τ ≠ 43 → lel S0 19 s ≠ y := fun y τ hy ht q => by
          rw [q, hy] at tp
          exact ht tp
        rw [es s, oS' _ _ (fun q => ne _ _ tg (by decide) q.1), oS _ _ (ne _ _ t5 (by decide)) (ne _ _ t6 (by decide)) (ne _ _ t7 (by decide)) (fun q => ne _ _ tg (by decide) q.1)]
        exact hs s h
      · rw [e4, es']
        exact hl
      · have tp := (ST_f st hx).1
        have ne : ∀ y τ, T y = τ → τ ≠ 44 → lel S0 23 x ≠ y := fun y τ hy ht q => by
          rw [q, hy] at tp
          exact ht tp
        by_cases cx : x = f
        · subst cx
          have z : sI m' 103 x = 0 := by
            rw [oM' 103 x (by omega), b.1.2.2 103 x (by omega) (by omega) (by omega) (by omega), ti_sI_eq]
          refine ⟨?_, ht, fun q => absurd z q⟩
          rw [z, oS' _ _ (by omega), a.1.2.2 _ _ (ne _ _ t5 (by decide)) (ne _ _ t6 (by decide)) (ne _ _ t7 (by decide)), ti_sI_eq]
        · have nx : lel S0 23 x ≠ lel S0 23 f := fun q => cx (ST_fi st hx hf q)
          obtain ⟨h1, h2, h3⟩ := hg x hx
          have r : ∀ j, sI S' (lel S0 23 x) j = sI S (lel S0 23 x) j := fun j => by
            rw [oS' _ _ (fun q => nx q.1), oS _ _ (ne _ _ t5 (by decide)) (ne _ _ t6 (by decide)) (ne _ _ t7 (by decide)) (fun q => nx q.1)]
          have w3 : sI m' 103 x = sI m 103 x := by
            rw [oM' 103 x (by omega), oM 103 x (by omega) (by omega) (by omega) (by omega) (by omega)]
          have w6 : ∀ v, v < 4 → sI m' 116 (60 * v + x) = sI m 116 (60 * v + x) := fun v hv => by
            rw [oM' 116 _ (by rintro ⟨-, v', hv', q⟩; omega), oM 116 _ (by omega) (by omega) (by omega) (by omega) (by omega)]
          refine ⟨by rw [r, w3]; exact h1, fun v hv => by rw [r, w6 v hv]; exact h2 v hv, fun q v hv => by rw [w6 v hv]; exact h3 (by rw [← w3]; exact q) v hv⟩
      · have aa : AU d (sI m 89) n S15 m14 := by
          refine AU_w (k := 3) (nu := f) (lv := sI m 89) (n := n) (S := wI S (lel S0 23 f) 6 0) (m := wI m 103 f 0) (AU_cong ha ?_ ?_ ?_ ?_ ?_ rfl (ti_sI_ne (fun q => ng 5 (by omega) q.1.symm)) (funext fun j => ti_sI_ne (fun q => ng 7 (by omega) q.1.symm)) (fun z => (ti_sI_ne (fun q => ng 4 (by omega) q.1.symm)).trans (z.trans (ti_sI_ne (by omega)).symm)) (ti_sI_ne (by omega)) (funext fun j => ti_sI_ne (by omega))) ?_ n60 n60 (by omega) (by omega) a b (fun s _ => by omega) (fun s _ => ⟨Or.inl, fun q => q.elim id (fun z => absurd z.1 (by decide))⟩) (fun s h => Or.inl ⟨rfl, h, Or.inl (by omega)⟩)
          · exact ti_sI_ne (fun q => ng 5 (by omega) q.1.symm)
          · exact funext fun j => ti_sI_ne (fun q => ng 6 (by omega) q.1.symm)
          · exact ti_sI_ne (by omega)
          · exact funext fun j => ti_sI_ne (by omega)
          · exact funext fun j => ti_sI_ne (by omega)
          · show sL m 123 = 1200
            rw [hM.2.1]
            exact st.2.2.2.1.2.2.2.2.2.2.2.2
        exact AU_cong aa (oS' 5 2 (fun q => ng 5 (by omega) q.1.symm)) (funext fun j => oS' 6 j (fun q => ng 6 (by omega) q.1.symm)) (oM' 57 77 (by omega)) (funext fun j => oM' 123 j (by omega)) (funext fun j => oM' 124 j (by omega)) es' (oS' 5 3 (fun q => ng 5 (by omega) q.1.symm)) (funext fun j => oS' 7 j (fun q => ng 7 (by omega) q.1.symm)) (fun z => (oS' 4 0 (fun q => ng 4 (by omega) q.1.symm)).trans (z.trans (oM' 57 0 (by omega)).symm)) (oM' 57 81 (by omega)) (funext fun j => oM' 125 j (by omega))
      · rw [oM' 116 _ (by rintro ⟨-, v', hv', q⟩; omega), oM 116 _ (by omega) (by omega) (by omega) (by omega) (by omega)]
        exact hz x hx hx2 v hv
      · rw [oM' 103 f (by omega), b.1.2.2 103 f (by omega) (by omega) (by omega) (by omega), ti_sI_eq]
      · rw [oM' 103 x (by omega), oM 103 x (by omega) (by omega) (by omega) (by omega) (by omega)]
end
