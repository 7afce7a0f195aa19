/-! ===== is it answered right ===== -/
theorem ix3' : ∀ i, i < 6 → ((3 : Int32) * Int32.ofNat i).toNatClampNeg = 3 * i := by decide +kernel
theorem ix3'' : ∀ i, i < 6 → ∀ f, f < 3 → (3 : Int32) * Int32.ofNat i + Int32.ofNat f = Int32.ofNat (3 * i + f) := by decide +kernel
def NK (S1 S2 : AS) (p : Nat) (now : Int32) : Prop := (sR S2 = sR S1 ∧ sL S2 = sL S1) ∧ sI S2 p 4 = now ∧ sI S2 p 5 = sI S1 p 4 ∧ sI S2 p 6 = sI S1 p 5 ∧ ∀ q j, ¬ (q = p ∧ 4 ≤ j ∧ j ≤ 6) → sI S2 q j = sI S1 q j
theorem p_noteK {S1 : AS} {p : Nat} {now : Int32} : Hp (f_Person_noteWrong S1 (some p) now) (fun S2 => NK S1 S2 p now) := by
  unfold f_Person_noteWrong
  refine p_of st_gI (p_of st_pI (p_of (st_gIe (v := sI S1 p 4) (ti_sI_ne (by omega))) (p_of st_pI (p_of st_pI (p_ret ⟨⟨rfl, rfl⟩, ti_sI_eq _ _ _ _, ?_, ?_, fun q j z => ?_⟩)))))
  · rw [ti_sI_ne (by omega), ti_sI_eq]
  · rw [ti_sI_ne (by omega), ti_sI_ne (by omega), ti_sI_eq]
  · rw [ti_sI_ne (by omega), ti_sI_ne (by omega), ti_sI_ne (by omega)]
def NM (m1 m2 : AS) (i : Nat) : Prop := (sR m2 = sR m1 ∧ sL m2 = sL m1) ∧ sI m2 61 (3 * i + 2) = sI m1 57 0 ∧ sI m2 61 (3 * i + 1) = sI m1 61 (3 * i + 2) ∧ sI m2 61 (3 * i) = sI m1 61 (3 * i + 1) ∧ ∀ q j, ¬ (q = 61 ∧ 3 * i ≤ j ∧ j ≤ 3 * i + 2) → sI m2 q j = sI m1 q j
theorem p_noteM {m1 : AS} (hmf : MF m1) {i : Nat} (hi : i < 6) : Hp (f_M_answers_B118 m1 (some 57) (Int32.ofNat i)) (fun q => q.1 = 0 ∧ NM m1 q.2 i) := by
  unfold f_M_answers_B118
  refine p_of (st_gRe (hmf 4 61 rfl)) (p_of (st_gRe (hmf 4 61 rfl)) (p_of (st_aIe (v := sI m1 61 (3 * i + 1)) (ix3 i (by omega) 1 (by decide)) rfl) (p_of (st_bIe (ix3' i hi)) ?_)))
  refine p_of (st_gRe (hmf 4 61 rfl)) (p_of (st_gRe (hmf 4 61 rfl)) (p_of (st_aIe (v := sI m1 61 (3 * i + 2)) (ix3 i (by omega) 2 (by decide)) (ti_sI_ne (by omega))) (p_of (st_bIe (ix3 i (by omega) 1 (by decide))) ?_)))
  refine p_of (st_gRe (hmf 4 61 rfl)) (p_of (st_gIe (v := sI m1 57 0) ((ti_sI_ne (by omega)).trans (ti_sI_ne (by omega)))) (p_of (st_bIe (ix3 i (by omega) 2 (by decide))) (p_ret ⟨rfl, ⟨rfl, rfl⟩, ti_sI_eq _ _ _ _, ?_, ?_, fun q j z => ?_⟩)))
  · exact (ti_sI_ne (by omega)).trans (ti_sI_eq _ _ _ _)
  · exact (ti_sI_ne (by omega)).trans ((ti_sI_ne (by omega)).trans (ti_sI_eq _ _ _ _))
  · exact (ti_sI_ne (by omega)).trans ((ti_sI_ne (by omega)).trans (ti_sI_ne (by omega)))
theorem fac_upd {S m S' m' : AS} (h : cFac S m) {i f : Nat} (a1 : sI S' (30 + 4 * i) f = sI m' 58 (3 * i + f)) (a2 : sI S' (31 + 4 * i) f = sI m' 59 (3 * i + f)) (a3 : sI S' (29 + 4 * i) 3 = sI m' 60 i) (hb : sI m' 58 (3 * i + f) = 1 → 0 ≤ (sI m' 59 (3 * i + f)).toInt ∧ (sI m' 59 (3 * i + f)).toInt ≤ 4) (f3 : f < 3)
    (oS : ∀ j c, ¬ (j = i ∧ c = f) → sI S' (30 + 4 * j) c = sI S (30 + 4 * j) c ∧ sI S' (31 + 4 * j) c = sI S (31 + 4 * j) c) (o3 : ∀ j, j ≠ i → sI S' (29 + 4 * j) 3 = sI S (29 + 4 * j) 3) (oM : ∀ q, q ≠ 3 * i + f → sI m' 58 q = sI m 58 q ∧ sI m' 59 q = sI m 59 q) (om3 : ∀ j, j ≠ i → sI m' 60 j = sI m 60 j) : cFac S' m' := by
  intro j hj
  refine ⟨fun c hc => ?_, ?_⟩
  · by_cases q : j = i ∧ c = f
    · obtain ⟨rfl, rfl⟩ := q
      exact ⟨a1, a2, hb⟩
    · obtain ⟨e1, e2⟩ := oS j c q
      obtain ⟨e3, e4⟩ := oM (3 * j + c) (by omega)
      rw [e1, e2, e3, e4]
      exact (h j hj).1 c hc
  · by_cases q : j = i
    · subst q
      exact a3
    · rw [o3 j q, om3 j q]
      exact (h j hj).2
theorem fac_cong {S m S' m' : AS} (h : cFac S m) (eS : ∀ j c, j < 6 → sI S' (30 + 4 * j) c = sI S (30 + 4 * j) c ∧ sI S' (31 + 4 * j) c = sI S (31 + 4 * j) c ∧ sI S' (29 + 4 * j) 3 = sI S (29 + 4 * j) 3) (eM : ∀ q, sI m' 58 q = sI m 58 q ∧ sI m' 59 q = sI m 59 q ∧ sI m' 60 q = sI m 60 q) : cFac S' m' := by
  intro j hj
  refine ⟨fun c hc => ?_, ?_⟩
  · rw [(eS j c hj).1, (eS j c hj).2.1, (eM _).1, (eM _).2.1]
    exact (h j hj).1 c hc
  · rw [(eS j 0 hj).2.2, (eM _).2.2]
    exact (h j hj).2
theorem wrg_note {S m S' m' : AS} (h : cWrg S m) {i : Nat} {now : Int32} (n0 : 0 ≤ now.toInt) (n1 : now.toInt ≤ 30000) (i6 : i < 6) (a4 : sI S' (29 + 4 * i) 4 = now) (a5 : sI S' (29 + 4 * i) 5 = sI S (29 + 4 * i) 4) (a6 : sI S' (29 + 4 * i) 6 = sI S (29 + 4 * i) 5)
    (b2 : sI m' 61 (3 * i + 2) = now) (b1 : sI m' 61 (3 * i + 1) = sI m 61 (3 * i + 2)) (b0 : sI m' 61 (3 * i) = sI m 61 (3 * i + 1)) (oS : ∀ j c, j ≠ i → j < 6 → 4 ≤ c → c ≤ 6 → sI S' (29 + 4 * j) c = sI S (29 + 4 * j) c) (oM : ∀ q, ¬ (3 * i ≤ q ∧ q ≤ 3 * i + 2) → sI m' 61 q = sI m 61 q) : cWrg S' m' := by
  intro j hj
  by_cases q : j = i
  · subst q
    rw [a4, a5, a6, b2, b1, b0]
    exact ⟨Or.inr ⟨rfl, n0, n1⟩, (h j hj).1, (h j hj).2.1⟩
  · rw [oS j 4 q hj (by omega) (by omega), oS j 5 q hj (by omega) (by omega), oS j 6 q hj (by omega) (by omega), oM _ (by omega), oM _ (by omega), oM _ (by omega)]
    exact h j hj
theorem wrg_cong {S m S' m' : AS} (h : cWrg S m) (eS : ∀ j c, j < 6 → 4 ≤ c → c ≤ 6 → sI S' (29 + 4 * j) c = sI S (29 + 4 * j) c) (eM : ∀ q, sI m' 61 q = sI m 61 q) : cWrg S' m' := by
  intro j hj
  rw [eS j 4 hj (by omega) (by omega), eS j 5 hj (by omega) (by omega), eS j 6 hj (by omega) (by omega), eM, eM, eM]
  exact h j hj
/-- which cells an answer writes -/
def RW (τ j : Nat) : Prop := τ = 2 ∨ τ = 3 ∨ τ = 4 ∨ τ = 14 ∨ τ = 15 ∨ (τ = 13 ∧ 3 ≤ j ∧ j ≤ 6)
def RWm (p j : Nat) : Prop := p = 58 ∨ p = 59 ∨ p = 60 ∨ p = 61 ∨ p = 123 ∨ p = 124 ∨ p = 125 ∨ (p = 57 ∧ (j = 77 ∨ j = 81))
def RT (T : Nat → Nat) (lv : Nat → Int32) (n : Nat) (S m S' m' : AS) : Prop :=
  (sR S' = sR S ∧ sL S' = sL S ∧ ∀ k j, T k ≠ 0 → ¬ RW (T k) j → sI S' k j = sI S k j) ∧ (sR m' = sR m ∧ sL m' = sL m ∧ ∀ p j, ¬ RWm p j → sI m' p j = sI m p j) ∧ cFac S' m' ∧ cWrg S' m' ∧ AU 0 lv n S' m'
section
variable {T : Nat → Nat} {S m : AS}
theorem h_right (hT : TI T S) (hp : PF S) (hmf : MF m) (fac : cFac S m) (wrg : cWrg S m) (nw : cNW S m) {lv : Nat → Int32} {n : Nat} (au : AU 0 lv n S m) (hn : n ≤ 60) (hL : sL m 123 = 1200) {i f : Nat} (i6 : i < 6) (f3 : f < 3) (r v : Int32) :
    H2 (f_K_isAnsweredRight S (some 4) (some (29 + 4 * i)) (Int32.ofNat f) r v) (f_M_answers m (some 57) (Int32.ofNat i) (Int32.ofNat f) r v) (fun x y => ∃ w, (w = 0 ∨ w = 1) ∧ x.1 = w ∧ y.1 = w ∧ RT T lv n S m x.2 y.2) := by
  have k4 := K4F_of hT
  obtain ⟨n0, n1, n2⟩ := nw
  obtain ⟨t29, t30, t31, -⟩ := kt_P hT hp i6
  obtain ⟨t4, t5, t6, t7, -⟩ := kt4 hT
  obtain ⟨q1, q2, q3, -, q5⟩ := hp.1 i i6
  obtain ⟨f1, f2, fb⟩ := (fac i i6).1 f f3
  have fl := (fac i i6).2
  have jx := ix3 i (by omega) f f3
  have tP : ∀ j, j < 6 → T (29 + 4 * j) = 13 ∧ T (30 + 4 * j) = 14 ∧ T (31 + 4 * j) = 15 := fun j hj => by
    obtain ⟨a, b, c, -⟩ := kt_P hT hp hj
    exact ⟨a, b, c⟩
  have nA : ∀ k τ, T k = τ → τ ≠ 2 → τ ≠ 3 → τ ≠ 4 → k ≠ 5 ∧ k ≠ 6 ∧ k ≠ 7 := fun k τ hk h2 h3 h4 => by
    refine ⟨fun z => ?_, fun z => ?_, fun z => ?_⟩ <;> rw [z] at hk
    · rw [t5] at hk
      exact h2 hk.symm
    · rw [t6] at hk
      exact h3 hk.symm
    · rw [t7] at hk
      exact h4 hk.symm
  -- what holds of the states behind the taking: no audit yet
  have noted : ∀ S1 m1, (sR S1 = sR S ∧ sL S1 = sL S ∧ ∀ p j, ¬ (p = 30 + 4 * i ∧ j = f) → ¬ (p = 31 + 4 * i ∧ j = f) → ¬ (p = 29 + 4 * i ∧ j = 3) → sI S1 p j = sI S p j) → (sR m1 = sR m ∧ sL m1 = sL m ∧ ∀ p j, ¬ (p = 58 ∨ p = 59 ∨ p = 60) → sI m1 p j = sI m p j) → cFac S1 m1 →
      ∀ S2 m2, NK S1 S2 (29 + 4 * i) (sI m 57 0) → NM m1 m2 i → RT T lv n S m S2 m2 := fun S1 m1 hS hM hf S2 m2 hk hm => by
    obtain ⟨e1, e2, e3⟩ := hS
    obtain ⟨g1, g2, g3⟩ := hM
    obtain ⟨⟨k1, k2⟩, k3, k5, k6, k7⟩ := hk
    obtain ⟨⟨l1, l2⟩, l3, l5, l6, l7⟩ := hm
    refine ⟨⟨k1.trans e1, k2.trans e2, fun k j h0 q => ?_⟩, ⟨l1.trans g1, l2.trans g2, fun p j q => ?_⟩, ?_, ?_, ?_⟩
    · unfold RW at q
      rw [k7 k j (fun z => q (by rw [z.1, t29]; omega)), e3 k j (fun z => q (by rw [z.1, t30]; omega)) (fun z => q (by rw [z.1, t31]; omega)) (fun z => q (by rw [z.1, t29]; omega))]
    · unfold RWm at q
      rw [l7 p j (by omega), g3 p j (by omega)]
    · exact fac_cong hf (fun j c hj => ⟨k7 _ _ (by omega), k7 _ _ (by omega), k7 _ _ (by omega)⟩) (fun q => ⟨l7 _ _ (by omega), l7 _ _ (by omega), l7 _ _ (by omega)⟩)
    · refine wrg_note wrg n1 n2 i6 k3 (k5.trans (e3 _ _ (by omega) (by omega) (by omega))) (k6.trans (e3 _ _ (by omega) (by omega) (by omega))) (l3.trans (g3 57 0 (by omega))) (l5.trans (g3 _ _ (by omega))) (l6.trans (g3 _ _ (by omega))) (fun j c hj hj6 hc hc2 => ?_) (fun q hq => ?_)
      · rw [k7 _ _ (by omega), e3 _ _ (by omega) (by omega) (by omega)]
      · rw [l7 _ _ (by omega), g3 _ _ (by omega)]
    · refine AU_cong au ?_ (funext fun j => ?_) ?_ (funext fun j => ?_) (funext fun j => ?_) rfl ((k7 _ _ (by omega)).trans (e3 _ _ (by omega) (by omega) (by omega))) (funext fun j => ((k7 _ _ (by omega)).trans (e3 _ _ (by omega) (by omega) (by omega)))) (fun z => ((k7 _ _ (by omega)).trans (e3 _ _ (by omega) (by omega) (by omega))).trans (z.trans ((l7 _ _ (by omega)).trans (g3 _ _ (by omega))).symm)) ((l7 _ _ (by omega)).trans (g3 _ _ (by omega))) (funext fun j => ((l7 _ _ (by omega)).trans (g3 _ _ (by omega))))
      · rw [k7 _ _ (by omega), e3 _ _ (by omega) (by omega) (by omega)]
      · have n6 : 29 + 4 * i ≠ 6 := by omega
        rw [k7 _ _ (by omega), e3 _ _ (by omega) (by omega) (by omega)]
      · rw [l7 _ _ (by omega), g3 _ _ (by omega)]
      · rw [l7 _ _ (by omega), g3 _ _ (by omega)]
      · rw [l7 _ _ (by omega), g3 _ _ (by omega)]
  -- the same with the audit's entry: class behind the noting, reference before it
  have audited : ∀ S1 m1, (sR S1 = sR S ∧ sL S1 = sL S ∧ ∀ p j, ¬ (p = 30 + 4 * i ∧ j = f) → ¬ (p = 31 + 4 * i ∧ j = f) → ¬ (p = 29 + 4 * i ∧ j = 3) → sI S1 p j = sI S p j) → (sR m1 = sR m ∧ sL m1 = sL m ∧ ∀ p j, ¬ (p = 58 ∨ p = 59 ∨ p = 60) → sI m1 p j = sI m p j) → cFac S1 m1 →
      ∀ S2 S3 m3 m4, NK S1 S2 (29 + 4 * i) (sI m 57 0) → AWK S2 S3 (Int32.ofNat 4) (Int32.ofNat (3 * i + f)) → AWM m1 m3 (Int32.ofNat 4) (Int32.ofNat (3 * i + f)) → NM m3 m4 i → RT T lv n S m S3 m4 := fun S1 m1 hS hM hf S2 S3 m3 m4 hk a b hm => by
    obtain ⟨e1, e2, e3⟩ := hS
    obtain ⟨g1, g2, g3⟩ := hM
    obtain ⟨⟨k1, k2⟩, k3, k5, k6, k7⟩ := hk
    obtain ⟨⟨l1, l2⟩, l3, l5, l6, l7⟩ := hm
    have a' := a.1.2.2
    have b' := b.1.2.2
    refine ⟨⟨a.1.1.trans (k1.trans e1), a.1.2.1.trans (k2.trans e2), fun k j h0 q => ?_⟩, ⟨l1.trans (b.1.1.trans g1), l2.trans (b.1.2.1.trans g2), fun p j q => ?_⟩, ?_, ?_, ?_⟩
    · unfold RW at q
      rw [a' k j (fun z => q (by rw [z, t5]; omega)) (fun z => q (by rw [z, t6]; omega)) (fun z => q (by rw [z, t7]; omega)), k7 k j (fun z => q (by rw [z.1, t29]; omega)), e3 k j (fun z => q (by rw [z.1, t30]; omega)) (fun z => q (by rw [z.1, t31]; omega)) (fun z => q (by rw [z.1, t29]; omega))]
    · unfold RWm at q
      rw [l7 p j (by omega), b' p j (by omega) (by omega) (by omega) (by omega), g3 p j (by omega)]
    · refine fac_cong hf (fun j c hj => ⟨?_, ?_, ?_⟩) (fun q => ⟨?_, ?_, ?_⟩)
      · rw [a' _ _ (by omega) (by omega) (by omega), k7 _ _ (by omega)]
      · rw [a' _ _ (by omega) (by omega) (by omega), k7 _ _ (by omega)]
      · rw [a' _ _ (by omega) (by omega) (by omega), k7 _ _ (by omega)]
      · rw [l7 _ _ (by omega), b' _ _ (by omega) (by omega) (by omega) (by omega)]
      · rw [l7 _ _ (by omega), b' _ _ (by omega) (by omega) (by omega) (by omega)]
      · rw [l7 _ _ (by omega), b' _ _ (by omega) (by omega) (by omega) (by omega)]
    · refine wrg_note wrg n1 n2 i6 ?_ ?_ ?_ ?_ ?_ ?_ (fun j c hj hj6 hc hc2 => ?_) (fun q hq => ?_)
      · rw [a' _ _ (by omega) (by omega) (by omega), k3]
      · rw [a' _ _ (by omega) (by omega) (by omega), k5, e3 _ _ (by omega) (by omega) (by omega)]
      · rw [a' _ _ (by omega) (by omega) (by omega), k6, e3 _ _ (by omega) (by omega) (by omega)]
      · rw [l3, b' _ _ (by omega) (by omega) (by omega) (by omega), g3 _ _ (by omega)]
      · rw [l5, b' _ _ (by omega) (by omega) (by omega) (by omega), g3 _ _ (by omega)]
      · rw [l6, b' _ _ (by omega) (by omega) (by omega) (by omega), g3 _ _ (by omega)]
      · rw [a' _ _ (by omega) (by omega) (by omega), k7 _ _ (by omega), e3 _ _ (by omega) (by omega) (by omega)]
      · rw [l7 _ _ (by omega), b' _ _ (by omega) (by omega) (by omega) (by omega), g3 _ _ (by omega)]
    · have s2 : AU 0 lv n S2 m1 := by
        refine AU_cong au ?_ (funext fun j => ?_) (g3 _ _ (by omega)) (funext fun j => g3 _ _ (by omega)) (funext fun j => g3 _ _ (by omega)) rfl ((k7 _ _ (by omega)).trans (e3 _ _ (by omega) (by omega) (by omega))) (funext fun j => ((k7 _ _ (by omega)).trans (e3 _ _ (by omega) (by omega) (by omega)))) (fun z => ((k7 _ _ (by omega)).trans (e3 _ _ (by omega) (by omega) (by omega))).trans (z.trans (g3 _ _ (by omega)).symm)) (g3 _ _ (by omega)) (funext fun j => g3 _ _ (by omega))
        · rw [k7 _ _ (by omega), e3 _ _ (by omega) (by omega) (by omega)]
        · have n6 : 29 + 4 * i ≠ 6 := by omega
          rw [k7 _ _ (by omega), e3 _ _ (by omega) (by omega) (by omega)]
      have s3 := AU_w (lv' := lv) (n' := n) s2 (by rw [g2]; exact hL) hn hn (by decide) (by omega) a b (fun s _ => by omega) (fun s _ => ⟨Or.inl, fun q => q.elim id (fun z => absurd z.1 (by decide))⟩) (fun s h => Or.inl ⟨rfl, h, Or.inl (by omega)⟩)
      exact AU_cong s3 rfl rfl (l7 _ _ (by omega)) (funext fun j => l7 _ _ (by omega)) (funext fun j => l7 _ _ (by omega)) rfl rfl rfl (fun z => z.trans (l7 _ _ (by omega)).symm) (l7 _ _ (by omega)) (funext fun j => l7 _ _ (by omega))
  have rf0 : RT T lv n S m S m := ⟨⟨rfl, rfl, fun _ _ _ _ => rfl⟩, ⟨rfl, rfl, fun _ _ _ => rfl⟩, fac, wrg, au⟩
  have idS : (sR S = sR S ∧ sL S = sL S ∧ ∀ p j, ¬ (p = 30 + 4 * i ∧ j = f) → ¬ (p = 31 + 4 * i ∧ j = f) → ¬ (p = 29 + 4 * i ∧ j = 3) → sI S p j = sI S p j) := ⟨rfl, rfl, fun _ _ _ _ _ => rfl⟩
  have idM : (sR m = sR m ∧ sL m = sL m ∧ ∀ p j, ¬ (p = 58 ∨ p = 59 ∨ p = 60) → sI m p j = sI m p j) := ⟨rfl, rfl, fun _ _ _ => rfl⟩
  have nowS : ∀ S1, (sR S1 = sR S ∧ sL S1 = sL S ∧ ∀ p j, ¬ (p = 30 + 4 * i ∧ j = f) → ¬ (p = 31 + 4 * i ∧ j = f) → ¬ (p = 29 + 4 * i ∧ j = 3) → sI S1 p j = sI S p j) → sI S1 4 0 = sI m 57 0 := fun S1 h => by rw [h.2.2 _ _ (by omega) (by omega) (by omega)]; exact n0
  -- the class behind a wrong answer, no state lost
  have kC : ∀ S1 σ, (sR S1 = sR S ∧ sL S1 = sL S ∧ ∀ p j, ¬ (p = 30 + 4 * i ∧ j = f) → ¬ (p = 31 + 4 * i ∧ j = f) → ¬ (p = 29 + 4 * i ∧ j = 3) → sI S1 p j = sI S p j) → (σ = 0 ∨ sI S1 (30 + 4 * i) f ≠ 2) → Hp ((gI S1 22 0 (some 4)).bind fun v15 => (kr_rv S1 16 (some (29 + 4 * i))).bind fun u16 => (f_Person_noteWrong S1 (some (29 + 4 * i)) v15).bind fun S17 => f_K_isAnsweredRight_B39 S17 (some 4) (some (29 + 4 * i)) (Int32.ofNat f) σ 0) (fun q => q.1 = 0 ∧ NK S1 q.2 (29 + 4 * i) (sI m 57 0)) := fun S1 σ hS h2 => by
    refine p_of (st_gIe (nowS S1 hS)) (p_of st_rv (p_bd p_noteK (fun S2 nk => ?_)))
    unfold f_K_isAnsweredRight_B39
    refine p_if (fun _ => p_of st_z (p_ret ⟨rfl, nk⟩)) (fun c => p_of st_rv ?_)
    have pf2 : PF S2 := by
      unfold PF
      rw [nk.1.1, hS.1]
      refine ⟨fun j hj => ⟨(hp.1 j hj).1, (hp.1 j hj).2.1, (hp.1 j hj).2.2.1, (hp.1 j hj).2.2.2.1, ?_⟩, hp.2⟩
      rw [nk.2.2.2.2 _ _ (by omega), hS.2.2 _ _ (by omega) (by omega) (by omega)]
      exact (hp.1 j hj).2.2.2.2
    refine p_b2 (p_stateOf pf2 i6 f3) (fun w S3 e => ?_)
    cases e
    refine p_of (st_F (fun q => ?_)) (p_of st_z (p_ret ⟨rfl, nk⟩))
    rw [nk.2.2.2.2 _ _ (by omega)] at q
    exact h2.elim c (fun z => z q)
  -- the class behind a wrong answer, the factor lost
  have kD : ∀ S1, (sR S1 = sR S ∧ sL S1 = sL S ∧ ∀ p j, ¬ (p = 30 + 4 * i ∧ j = f) → ¬ (p = 31 + 4 * i ∧ j = f) → ¬ (p = 29 + 4 * i ∧ j = 3) → sI S1 p j = sI S p j) → sI S1 (30 + 4 * i) f = 2 → Hp ((gI S1 22 0 (some 4)).bind fun v15 => (kr_rv S1 16 (some (29 + 4 * i))).bind fun u16 => (f_Person_noteWrong S1 (some (29 + 4 * i)) v15).bind fun S17 => f_K_isAnsweredRight_B39 S17 (some 4) (some (29 + 4 * i)) (Int32.ofNat f) 1 0) (fun q => q.1 = 0 ∧ ∃ S2, NK S1 S2 (29 + 4 * i) (sI m 57 0) ∧ AWK S2 q.2 (Int32.ofNat 4) (Int32.ofNat (3 * i + f))) := fun S1 hS h2 => by
    refine p_of (st_gIe (nowS S1 hS)) (p_of st_rv (p_bd p_noteK (fun S2 nk => ?_)))
    unfold f_K_isAnsweredRight_B39
    refine p_of (st_F one0) (p_of st_rv ?_)
    have pf2 : PF S2 := by
      unfold PF
      rw [nk.1.1, hS.1]
      refine ⟨fun j hj => ⟨(hp.1 j hj).1, (hp.1 j hj).2.1, (hp.1 j hj).2.2.1, (hp.1 j hj).2.2.2.1, ?_⟩, hp.2⟩
      rw [nk.2.2.2.2 _ _ (by omega), hS.2.2 _ _ (by omega) (by omega) (by omega)]
      exact (hp.1 j hj).2.2.2.2
    refine p_b2 (p_stateOf pf2 i6 f3) (fun w S3 e => ?_)
    cases e
    refine p_of (st_T ?_) ?_
    · rw [nk.2.2.2.2 _ _ (by omega)]
      exact h2
    · have r2 : sR S2 = sR S := nk.1.1.trans hS.1
      refine p_of (st_gRe (v := some 5) (by rw [r2]; exact k4.1 1 5 rfl)) (p_of (st_gIe (pf2.1 i i6).2.2.2.2) (p_of st_gI (p_of st_rv ?_)))
      rw [ix3'' i i6 f f3]
      exact p_bd (p_aw (S := S2) (k := Int32.ofNat 4) (by rw [r2]; exact k4.2.1) (by rw [r2]; exact k4.2.2.1) rfl) (fun S9 a => p_of st_z (p_ret ⟨rfl, S2, nk, a⟩))
  have mS : ∀ m1, (sR m1 = sR m ∧ sL m1 = sL m ∧ ∀ p j, ¬ (p = 58 ∨ p = 59 ∨ p = 60) → sI m1 p j = sI m p j) → Hp (f_M_answers_B112 m1 (some 57) (Int32.ofNat i) (Int32.ofNat f)) (fun q => q.1 = 0 ∧ ∃ m3, AWM (wI m1 58 (3 * i + f) 2) m3 (Int32.ofNat 4) (Int32.ofNat (3 * i + f)) ∧ NM m3 q.2 i) := fun m1 hM => by
    have hm1 := MF_e hmf hM.1
    unfold f_M_answers_B112 f_M_suspend
    refine p_of st_rv (p_bd (P := fun m3 => AWM (wI m1 58 (3 * i + f) 2) m3 (Int32.ofNat 4) (Int32.ofNat (3 * i + f))) ?_ (fun m3 b => ?_))
    · refine p_of (st_gRe (hm1 1 58 rfl)) (p_of (st_bIe jx) (p_of st_rv ?_))
      rw [ix3'' i i6 f f3]
      exact p_bd (p_mw (m := wI m1 58 (3 * i + f) 2) (k := Int32.ofNat 4) (MF_e hm1 rfl)) (fun m4 b => p_ret b)
    · exact p_mono (p_noteM (MF_e hm1 b.1.1) i6) (fun q p => ⟨p.1, m3, b, p.2⟩)
  unfold f_K_isAnsweredRight f_M_answers
  refine l_of st_rv (l_p2 (p_stateOf hp i6 f3) (fun w S2 e => ?_))
  cases e
  refine m_of st_val (m_of (st_gRe (hmf 1 58 rfl)) (m_of (st_aIe (v := sI m 58 (3 * i + f)) jx rfl) ?_))
  by_cases s1 : sI m 58 (3 * i + f) = 1
  · have sS1 : sI S (30 + 4 * i) f = 1 := f1.trans s1
    refine l_of (st_T sS1) (m_of (st_T s1) ?_)
    unfold f_K_isAnsweredRight_B14 f_Person_takes
    obtain ⟨b0, b4⟩ := fb s1
    have e1 : (sI m 59 (3 * i + f) + 1).toInt = (sI m 59 (3 * i + f)).toInt + 1 := by
      rw [Int32.toInt_add, show (1 : Int32).toInt = 1 from by decide]
      exact bm (by omega) (by omega)
    refine l_of st_rv ?_
    -- the factor is lost
    have lost : ∀ S1 m1, (sR S1 = sR S ∧ sL S1 = sL S ∧ ∀ p j, ¬ (p = 30 + 4 * i ∧ j = f) → ¬ (p = 31 + 4 * i ∧ j = f) → ¬ (p = 29 + 4 * i ∧ j = 3) → sI S1 p j = sI S p j) → (sR m1 = sR m ∧ sL m1 = sL m ∧ ∀ p j, ¬ (p = 58 ∨ p = 59 ∨ p = 60) → sI m1 p j = sI m p j) → sI S1 (30 + 4 * i) f = 2 → cFac S1 (wI m1 58 (3 * i + f) 2) →
        H2 ((gI S1 22 0 (some 4)).bind fun v15 => (kr_rv S1 16 (some (29 + 4 * i))).bind fun u16 => (f_Person_noteWrong S1 (some (29 + 4 * i)) v15).bind fun S17 => f_K_isAnsweredRight_B39 S17 (some 4) (some (29 + 4 * i)) (Int32.ofNat f) 1 0) (f_M_answers_B112 m1 (some 57) (Int32.ofNat i) (Int32.ofNat f)) (fun x y => ∃ w, (w = 0 ∨ w = 1) ∧ x.1 = w ∧ y.1 = w ∧ RT T lv n S m x.2 y.2) := fun S1 m1 hS hM h2 hf => fun x y hx hy => by
      obtain ⟨x1, S2, nk, a⟩ := kD S1 hS h2 x hx
      obtain ⟨y1, m3, b, nm⟩ := mS m1 hM y hy
      exact ⟨0, Or.inl rfl, x1, y1, audited S1 (wI m1 58 (3 * i + f) 2) hS ⟨hM.1, hM.2.1, fun p j q => (ti_sI_ne (by omega)).trans (hM.2.2 p j q)⟩ hf S2 _ m3 _ nk a b nm⟩
    by_cases r0 : r = 0
    · -- wrong
      have mB : ∀ y0 : Int32, Le (f_M_answers_B43 m (some 57) (Int32.ofNat i) (Int32.ofNat f) r v ((3 : Int32) * Int32.ofNat i + Int32.ofNat f) y0) (f_M_answers_B77 m (some 57) (Int32.ofNat i) (Int32.ofNat f) r ((3 : Int32) * Int32.ofNat i + Int32.ofNat f) y0) := fun y0 a ha => by
        unfold f_M_answers_B43 at ha
        rw [if_pos r0] at ha
        exact ha
      have body : H2 (kr_b2 (kr_b2 (f_K_isFactor S (Int32.ofNat f)) fun v5 S4 => if v5 = 0 then some ((0 : Int32), S4) else (gR S4 16 1 (some (29 + 4 * i))).bind fun v6 => (aI S4 40 v6 (Int32.ofNat f)).bind fun v7 => if v7 = (1 : Int32) then if r = 0 then (gR S4 16 2 (some (29 + 4 * i))).bind fun v8 => (aI S4 40 v8 (Int32.ofNat f)).bind fun v9 => (bI S4 v8 (Int32.ofNat f) (v9 + (1 : Int32))).bind fun S10 => (gR S10 16 2 (some (29 + 4 * i))).bind fun v11 => (aI S10 40 v11 (Int32.ofNat f)).bind fun v12 => if v12 < (5 : Int32) then some ((0 : Int32), S10) else (gR S10 16 1 (some (29 + 4 * i))).bind fun v13 => (bI S10 v13 (Int32.ofNat f) (2 : Int32)).bind fun S14 => some ((0 : Int32), S14) else if Int32.ofNat f = (2 : Int32) then (gI S4 16 3 (some (29 + 4 * i))).bind fun v15 => if v15 < v then f_Person_takes_B74 S4 (some (29 + 4 * i)) (Int32.ofNat f) v else (gR S4 16 1 (some (29 + 4 * i))).bind fun v16 => (bI S4 v16 (Int32.ofNat f) (2 : Int32)).bind fun S17 => some ((0 : Int32), S17) else f_Person_takes_B74 S4 (some (29 + 4 * i)) (Int32.ofNat f) v else some ((0 : Int32), S4)) fun v14 S13 => if v14 = 0 then (gI S13 22 0 (some 4)).bind fun v15 => (kr_rv S13 16 (some (29 + 4 * i))).bind fun u16 => (f_Person_noteWrong S13 (some (29 + 4 * i)) v15).bind fun S17 => f_K_isAnsweredRight_B39 S17 (some 4) (some (29 + 4 * i)) (Int32.ofNat f) 1 v14 else f_K_isAnsweredRight_B39 S13 (some 4) (some (29 + 4 * i)) (Int32.ofNat f) 1 v14)
          (f_M_answers_B77 m (some 57) (Int32.ofNat i) (Int32.ofNat f) r ((3 : Int32) * Int32.ofNat i + Int32.ofNat f) 0) (fun x y => ∃ w, (w = 0 ∨ w = 1) ∧ x.1 = w ∧ y.1 = w ∧ RT T lv n S m x.2 y.2) := by
        unfold f_M_answers_B77 f_M_answers_B94
        refine m_of (st_gRe (hmf 2 59 rfl)) (m_of (st_aIe (v := sI m 59 (3 * i + f)) jx rfl) (m_of (st_T r0) (m_of (st_bIe jx) (m_of (st_T rfl) ?_))))
        refine m_of (st_gRe (v := some 59) (hmf 2 59 rfl)) (m_of (st_aIe jx (ti_sI_eq _ _ _ _)) ?_)
        have hM : (sR (wI m 59 (3 * i + f) (sI m 59 (3 * i + f) + 1)) = sR m ∧ sL (wI m 59 (3 * i + f) (sI m 59 (3 * i + f) + 1)) = sL m ∧ ∀ p j, ¬ (p = 58 ∨ p = 59 ∨ p = 60) → sI (wI m 59 (3 * i + f) (sI m 59 (3 * i + f) + 1)) p j = sI m p j) := ⟨rfl, rfl, fun p j q => ti_sI_ne (by omega)⟩
        refine l_p2 (P := fun q => q.1 = 0 ∧ ((sI m 59 (3 * i + f) + 1 < 5 ∧ q.2 = wI S (31 + 4 * i) f (sI m 59 (3 * i + f) + 1)) ∨ (¬ sI m 59 (3 * i + f) + 1 < 5 ∧ q.2 = wI (wI S (31 + 4 * i) f (sI m 59 (3 * i + f) + 1)) (30 + 4 * i) f 2))) ?_ (fun w S1 p => ?_)
        · refine p_of (st_b2 (q_Kfac S _)) ?_
          rw [if_pos ((thr_iff _).mpr ⟨f, f3, rfl⟩)]
          refine p_of (st_F one0) (p_of (st_gRe q2) (p_of (st_aIe (oc (by omega)) sS1) (p_of (st_T rfl) (p_of (st_T r0) (p_of (st_gRe q3) (p_of (st_aIe (oc (by omega)) f2) (p_of (st_bIe (oc (by omega))) ?_)))))))
          refine p_of (st_gRe (v := some (31 + 4 * i)) q3) (p_of (st_aIe (oc (by omega)) (ti_sI_eq _ _ _ _)) (p_if (fun c => p_ret ⟨rfl, Or.inl ⟨c, rfl⟩⟩) (fun c => ?_)))
          exact p_of (st_gRe (v := some (30 + 4 * i)) q2) (p_of (st_bIe (oc (by omega))) (p_ret ⟨rfl, Or.inr ⟨c, rfl⟩⟩))
        · obtain ⟨p1, p2⟩ := p
          have p1 : w = 0 := p1
          rw [p1]
          refine l_of (st_T rfl) ?_
          rcases p2 with ⟨c, p2⟩ | ⟨c, p2⟩
          · have p2 : S1 = _ := p2
            have ne5 : ¬ sI m 59 (3 * i + f) + 1 = 5 := fun q => by
              rw [q] at c
              exact absurd c (by decide)
            refine m_of (st_F ne5) ?_
            have hS : (sR S1 = sR S ∧ sL S1 = sL S ∧ ∀ p j, ¬ (p = 30 + 4 * i ∧ j = f) → ¬ (p = 31 + 4 * i ∧ j = f) → ¬ (p = 29 + 4 * i ∧ j = 3) → sI S1 p j = sI S p j) := by
              rw [p2]
              exact ⟨rfl, rfl, fun p j z1 z2 z3 => ti_sI_ne z2⟩
            intro x y hx hy
            obtain ⟨x1, nk⟩ := kC S1 1 hS (Or.inr (by rw [p2, ti_sI_ne (by omega), sS1]; decide)) x hx
            obtain ⟨y1, nm⟩ := p_noteM (MF_e hmf hM.1) i6 y hy
            refine ⟨0, Or.inl rfl, x1, y1, noted S1 _ hS hM ?_ _ _ nk nm⟩
            refine fac_upd fac (i := i) (f := f) ?_ ?_ ?_ (fun _ => ?_) f3 (fun j c z => ⟨?_, ?_⟩) (fun j z => ?_) (fun q z => ⟨ti_sI_ne (by omega), ti_sI_ne (by omega)⟩) (fun j z => ti_sI_ne (by omega))
            · rw [p2, ti_sI_ne (by omega)]
              exact f1.trans (ti_sI_ne (by omega)).symm
            · rw [p2, ti_sI_eq, ti_sI_eq]
            · rw [p2, ti_sI_ne (by omega)]
              exact fl.trans (ti_sI_ne (by omega)).symm
            · rw [ti_sI_eq, e1]
              have := Int32.lt_iff_toInt_lt.mp c
              rw [e1, show (5 : Int32).toInt = 5 from by decide] at this
              omega
            · rw [p2, ti_sI_ne (by omega)]
            · rw [p2, ti_sI_ne (by omega)]
            · rw [p2, ti_sI_ne (by omega)]
          · have p2 : S1 = _ := p2
            have e5 : sI m 59 (3 * i + f) + 1 = 5 := by
              have : ¬ (sI m 59 (3 * i + f) + 1).toInt < (5 : Int32).toInt := fun q => c (Int32.lt_iff_toInt_lt.mpr q)
              rw [e1, show (5 : Int32).toInt = 5 from by decide] at this
              exact Int32.toInt_inj.mp (by rw [e1, show (5 : Int32).toInt = 5 from by decide]; omega)
            refine m_of (st_T e5) ?_
            have hS : (sR S1 = sR S ∧ sL S1 = sL S ∧ ∀ p j, ¬ (p = 30 + 4 * i ∧ j = f) → ¬ (p = 31 + 4 * i ∧ j = f) → ¬ (p = 29 + 4 * i ∧ j = 3) → sI S1 p j = sI S p j) := by
              rw [p2]
              exact ⟨rfl, rfl, fun p j z1 z2 z3 => (ti_sI_ne z1).trans (ti_sI_ne z2)⟩
            refine lost S1 _ hS hM (by rw [p2, ti_sI_eq]) ?_
            refine fac_upd fac (i := i) (f := f) ?_ ?_ ?_ (fun z => ?_) f3 (fun j c z => ⟨?_, ?_⟩) (fun j z => ?_) (fun q z => ⟨(ti_sI_ne (by omega)).trans (ti_sI_ne (by omega)), (ti_sI_ne (by omega)).trans (ti_sI_ne (by omega))⟩) (fun j z => (ti_sI_ne (by omega)).trans (ti_sI_ne (by omega)))
            · rw [p2]
              exact (ti_sI_eq _ _ _ _).trans (ti_sI_eq _ _ _ _).symm
            · rw [p2]
              exact ((ti_sI_ne (by omega)).trans (ti_sI_eq _ _ _ _)).trans ((ti_sI_ne (by omega)).trans (ti_sI_eq _ _ _ _)).symm
            · rw [p2]
              exact ((ti_sI_ne (by omega)).trans (ti_sI_ne (by omega))).trans (fl.trans ((ti_sI_ne (by omega)).trans (ti_sI_ne (by omega))).symm)
            · rw [ti_sI_eq] at z
              exact absurd z (by decide)
            · rw [p2]
              exact (ti_sI_ne (by omega)).trans (ti_sI_ne (by omega))
            · rw [p2]
              exact (ti_sI_ne (by omega)).trans (ti_sI_ne (by omega))
            · rw [p2]
              exact (ti_sI_ne (by omega)).trans (ti_sI_ne (by omega))
      unfold f_M_answers_B42
      by_cases c2 : Int32.ofNat f = 2
      · exact m_of (st_T c2) (m_of (st_T r0) (m_of (mB 0) body))
      · exact m_of (st_F c2) (m_of (mB 0) body)
    · -- right
      refine l_p2 (P := fun q => (q.1 = 1 ∧ (Int32.ofNat f = 2 → sI m 60 i < v) ∧ q.2 = if f = 2 then wI (wI S (31 + 4 * i) f 0) (29 + 4 * i) 3 v else wI S (31 + 4 * i) f 0) ∨ (q.1 = 0 ∧ Int32.ofNat f = 2 ∧ ¬ sI m 60 i < v ∧ q.2 = wI S (30 + 4 * i) f 2)) ?_ (fun w S1 p => ?_)
      · have b74 : (Int32.ofNat f = 2 → sI m 60 i < v) → Hp (f_Person_takes_B74 S (some (29 + 4 * i)) (Int32.ofNat f) v) (fun q => (q.1 = 1 ∧ (Int32.ofNat f = 2 → sI m 60 i < v) ∧ q.2 = if f = 2 then wI (wI S (31 + 4 * i) f 0) (29 + 4 * i) 3 v else wI S (31 + 4 * i) f 0) ∨ (q.1 = 0 ∧ Int32.ofNat f = 2 ∧ ¬ sI m 60 i < v ∧ q.2 = wI S (30 + 4 * i) f 2)) := fun lt => by
          unfold f_Person_takes_B74
          refine p_of (st_gRe q3) (p_of (st_bIe (oc (by omega))) ?_)
          by_cases c : f = 2
          · refine p_of (st_T (by rw [c]; rfl)) (p_of st_pI (p_ret (Or.inl ⟨rfl, lt, ?_⟩)))
            rw [if_pos c]
          · refine p_of (st_F (fun q => c (oinj (by omega) (by decide) (q.trans (show (2 : Int32) = Int32.ofNat 2 from rfl))))) (p_ret (Or.inl ⟨rfl, lt, ?_⟩))
            rw [if_neg c]
        refine p_of (st_b2 (q_Kfac S _)) ?_
        rw [if_pos ((thr_iff _).mpr ⟨f, f3, rfl⟩)]
        refine p_of (st_F one0) (p_of (st_gRe q2) (p_of (st_aIe (oc (by omega)) sS1) (p_of (st_T rfl) (p_of (st_F r0) (p_if (fun c => ?_) (fun c => b74 (fun q => absurd q c)))))))
        refine p_of (st_gIe fl) (p_if (fun c2 => b74 (fun _ => c2)) (fun c2 => ?_))
        exact p_of (st_gRe q2) (p_of (st_bIe (oc (by omega))) (p_ret (Or.inr ⟨rfl, c, c2, rfl⟩)))
      · have p : (w = 1 ∧ (Int32.ofNat f = 2 → sI m 60 i < v) ∧ S1 = if f = 2 then wI (wI S (31 + 4 * i) f 0) (29 + 4 * i) 3 v else wI S (31 + 4 * i) f 0) ∨ (w = 0 ∧ Int32.ofNat f = 2 ∧ ¬ sI m 60 i < v ∧ S1 = wI S (30 + 4 * i) f 2) := p
        rcases p with ⟨p1, lt, p2⟩ | ⟨p1, c, nlt, p2⟩
        · -- taken
          rw [p1]
          refine l_of (st_F one0) ?_
          unfold f_K_isAnsweredRight_B39
          refine l_of (st_F one0) (l_of st_rv ?_)
          have pf1 : PF S1 := by
            have rr : sR S1 = sR S := by
              rw [p2]
              by_cases c : f = 2
              · rw [if_pos c]
                rfl
              · rw [if_neg c]
                rfl
            unfold PF
            rw [rr]
            refine ⟨fun j hj => ⟨(hp.1 j hj).1, (hp.1 j hj).2.1, (hp.1 j hj).2.2.1, (hp.1 j hj).2.2.2.1, ?_⟩, hp.2⟩
            rw [← (hp.1 j hj).2.2.2.2, p2]
            by_cases c : f = 2
            · rw [if_pos c, ti_sI_ne (by omega), ti_sI_ne (by omega)]
            · rw [if_neg c, ti_sI_ne (by omega)]
          have s30 : sI S1 (30 + 4 * i) f = 1 := by
            rw [p2, ← sS1]
            by_cases c : f = 2
            · rw [if_pos c, ti_sI_ne (by omega), ti_sI_ne (by omega)]
            · rw [if_neg c, ti_sI_ne (by omega)]
          refine l_p2 (p_stateOf pf1 i6 f3) (fun w' S2 e => ?_)
          cases e
          rw [s30]
          refine l_of (st_F (by decide)) (l_of st_z ?_)
          have ret : H2 (some ((1 : Int32), S1)) (f_M_answers_B43 m (some 57) (Int32.ofNat i) (Int32.ofNat f) r v ((3 : Int32) * Int32.ofNat i + Int32.ofNat f) 0) (fun x y => ∃ w, (w = 0 ∨ w = 1) ∧ x.1 = w ∧ y.1 = w ∧ RT T lv n S m x.2 y.2) := by
            unfold f_M_answers_B43
            refine m_of (st_F r0) (m_of (st_T rfl) (m_of (st_gRe (hmf 2 59 rfl)) (m_of (st_bIe jx) ?_)))
            by_cases c : f = 2
            · refine m_of (st_T (by rw [c]; rfl)) (m_of (st_gRe (v := some 60) (hmf 3 60 rfl)) (m_of (st_bIe (oc (by omega))) ?_))
              rw [if_pos c] at p2
              subst p2
              refine h2_ret ⟨1, Or.inr rfl, rfl, rfl, ⟨rfl, rfl, fun k j h0 q => ?_⟩, ⟨rfl, rfl, fun p j q => ?_⟩, ?_, ?_, ?_⟩
              · unfold RW at q
                show sI (wI (wI S (31 + 4 * i) f 0) (29 + 4 * i) 3 v) k j = _
                rw [ti_sI_ne (fun z => q (by rw [z.1, t29]; omega)), ti_sI_ne (fun z => q (by rw [z.1, t31]; omega))]
              · unfold RWm at q
                show sI (wI (wI m 59 (3 * i + f) 0) 60 i v) p j = _
                rw [ti_sI_ne (by omega), ti_sI_ne (by omega)]
              · refine fac_upd fac (i := i) (f := f) ?_ ?_ ?_ (fun _ => ?_) f3 (fun j c z => ⟨(ti_sI_ne (by omega)).trans (ti_sI_ne (by omega)), (ti_sI_ne (by omega)).trans (ti_sI_ne (by omega))⟩) (fun j z => (ti_sI_ne (by omega)).trans (ti_sI_ne (by omega))) (fun q z => ⟨(ti_sI_ne (by omega)).trans (ti_sI_ne (by omega)), (ti_sI_ne (by omega)).trans (ti_sI_ne (by omega))⟩) (fun j z => (ti_sI_ne (by omega)).trans (ti_sI_ne (by omega)))
                · exact ((ti_sI_ne (by omega)).trans (ti_sI_ne (by omega))).trans (f1.trans ((ti_sI_ne (by omega)).trans (ti_sI_ne (by omega))).symm)
                · exact ((ti_sI_ne (by omega)).trans (ti_sI_eq _ _ _ _)).trans ((ti_sI_ne (by omega)).trans (ti_sI_eq _ _ _ _)).symm
                · exact (ti_sI_eq _ _ _ _).trans (ti_sI_eq _ _ _ _).symm
                · show 0 ≤ (sI (wI (wI m 59 (3 * i + f) 0) 60 i v) 59 (3 * i + f)).toInt ∧ (sI (wI (wI m 59 (3 * i + f) 0) 60 i v) 59 (3 * i + f)).toInt ≤ 4
                  rw [ti_sI_ne (by omega), ti_sI_eq]
                  decide
              · exact wrg_cong wrg (fun j c hj h4 h6 => (ti_sI_ne (by omega)).trans (ti_sI_ne (by omega))) (fun q => (ti_sI_ne (by omega)).trans (ti_sI_ne (by omega)))
              · exact AU_cong au ((ti_sI_ne (by omega)).trans (ti_sI_ne (by omega))) (funext fun j => (ti_sI_ne (by omega)).trans (ti_sI_ne (by omega))) ((ti_sI_ne (by omega)).trans (ti_sI_ne (by omega))) (funext fun j => (ti_sI_ne (by omega)).trans (ti_sI_ne (by omega))) (funext fun j => (ti_sI_ne (by omega)).trans (ti_sI_ne (by omega))) rfl ((ti_sI_ne (by omega)).trans (ti_sI_ne (by omega))) (funext fun j => (ti_sI_ne (by omega)).trans (ti_sI_ne (by omega))) (fun z => ((ti_sI_ne (by omega)).trans (ti_sI_ne (by omega))).trans (z.trans ((ti_sI_ne (by omega)).trans (ti_sI_ne (by omega))).symm)) ((ti_sI_ne (by omega)).trans (ti_sI_ne (by omega))) (funext fun j => (ti_sI_ne (by omega)).trans (ti_sI_ne (by omega)))
            · refine m_of (st_F (fun q => c (oinj (by omega) (by decide) (q.trans (show (2 : Int32) = Int32.ofNat 2 from rfl))))) ?_
              rw [if_neg c] at p2
              subst p2
              refine h2_ret ⟨1, Or.inr rfl, rfl, rfl, ⟨rfl, rfl, fun k j h0 q => ?_⟩, ⟨rfl, rfl, fun p j q => ?_⟩, ?_, ?_, ?_⟩
              · unfold RW at q
                show sI (wI S (31 + 4 * i) f 0) k j = _
                rw [ti_sI_ne (fun z => q (by rw [z.1, t31]; omega))]
              · unfold RWm at q
                show sI (wI m 59 (3 * i + f) 0) p j = _
                rw [ti_sI_ne (by omega)]
              · refine fac_upd fac (i := i) (f := f) ?_ ?_ ?_ (fun _ => ?_) f3 (fun j c z => ⟨ti_sI_ne (by omega), ti_sI_ne (by omega)⟩) (fun j z => ti_sI_ne (by omega)) (fun q z => ⟨ti_sI_ne (by omega), ti_sI_ne (by omega)⟩) (fun j z => ti_sI_ne (by omega))
                · exact (ti_sI_ne (by omega)).trans (f1.trans (ti_sI_ne (by omega)).symm)
                · exact (ti_sI_eq _ _ _ _).trans (ti_sI_eq _ _ _ _).symm
                · exact (ti_sI_ne (by omega)).trans (fl.trans (ti_sI_ne (by omega)).symm)
                · show 0 ≤ (sI (wI m 59 (3 * i + f) 0) 59 (3 * i + f)).toInt ∧ (sI (wI m 59 (3 * i + f) 0) 59 (3 * i + f)).toInt ≤ 4
                  rw [ti_sI_eq]
                  decide
              · exact wrg_cong wrg (fun j c hj h4 h6 => ti_sI_ne (by omega)) (fun q => ti_sI_ne (by omega))
              · exact AU_cong au (ti_sI_ne (by omega)) (funext fun j => ti_sI_ne (by omega)) (ti_sI_ne (by omega)) (funext fun j => ti_sI_ne (by omega)) (funext fun j => ti_sI_ne (by omega)) rfl (ti_sI_ne (by omega)) (funext fun j => ti_sI_ne (by omega)) (fun z => (ti_sI_ne (by omega)).trans (z.trans (ti_sI_ne (by omega)).symm)) (ti_sI_ne (by omega)) (funext fun j => ti_sI_ne (by omega))
          unfold f_M_answers_B42
          by_cases c2 : Int32.ofNat f = 2
          · exact m_of (st_T c2) (m_of (st_F r0) (m_of (st_gRe (hmf 3 60 rfl)) (m_of (st_aIe (v := sI m 60 i) (oc (by omega)) rfl) (m_of (st_T (lt c2)) ret))))
          · exact m_of (st_F c2) ret
        · -- a code used before
          rw [p1]
          refine l_of (st_T rfl) ?_
          refine m_of (st_T c) (m_of (st_F r0) (m_of (st_gRe (hmf 3 60 rfl)) (m_of (st_aIe (v := sI m 60 i) (oc (by omega)) rfl) (m_of (st_F nlt) ?_))))
          unfold f_M_answers_B43 f_M_answers_B77 f_M_answers_B94
          refine m_of (st_F r0) (m_of (st_F one0) (m_of (st_gRe (hmf 2 59 rfl)) (m_of (st_aIe (v := sI m 59 (3 * i + f)) jx rfl) (m_of (st_F r0) (m_of (st_bIe jx) (m_of (st_F one0) ?_))))))
          rw [Int32.add_zero]
          subst p2
          refine lost _ (wI m 59 (3 * i + f) (sI m 59 (3 * i + f))) ⟨rfl, rfl, fun p j z1 z2 z3 => ti_sI_ne z1⟩ ⟨rfl, rfl, fun p j q => ti_sI_ne (by omega)⟩ (ti_sI_eq _ _ _ _) ?_
          refine fac_upd fac (i := i) (f := f) ?_ ?_ ?_ (fun z => ?_) f3 (fun j c z => ⟨ti_sI_ne (by omega), ti_sI_ne (by omega)⟩) (fun j z => ti_sI_ne (by omega)) (fun q z => ⟨(ti_sI_ne (by omega)).trans (ti_sI_ne (by omega)), (ti_sI_ne (by omega)).trans (ti_sI_ne (by omega))⟩) (fun j z => (ti_sI_ne (by omega)).trans (ti_sI_ne (by omega)))
          · exact (ti_sI_eq _ _ _ _).trans (ti_sI_eq _ _ _ _).symm
          · exact (ti_sI_ne (by omega)).trans (f2.trans ((ti_sI_ne (by omega)).trans (ti_sI_eq _ _ _ _)).symm)
          · exact (ti_sI_ne (by omega)).trans (fl.trans ((ti_sI_ne (by omega)).trans (ti_sI_ne (by omega))).symm)
          · rw [ti_sI_eq] at z
            exact absurd z (by decide)
  · have sS1 : ¬ sI S (30 + 4 * i) f = 1 := fun q => s1 (f1.symm.trans q)
    refine l_of (st_F sS1) (m_of (st_F s1) ?_)
    unfold f_K_isAnsweredRight_B14
    refine l_of st_rv (l_p2 (P := fun q => q = (0, S)) ?_ (fun w S1 e => ?_))
    · unfold f_Person_takes
      refine p_of (st_b2 (q_Kfac S _)) ?_
      rw [if_pos ((thr_iff _).mpr ⟨f, f3, rfl⟩)]
      exact p_of (st_F one0) (p_of (st_gRe q2) (p_of (st_aIe (v := sI S (30 + 4 * i) f) (oc (by omega)) rfl) (p_of (st_F sS1) (p_ret rfl))))
    · cases e
      refine l_of (st_T rfl) ?_
      intro x y hx hy
      obtain ⟨x1, nk⟩ := kC S 0 idS (Or.inl rfl) x hx
      obtain ⟨y1, nm⟩ := p_noteM hmf i6 y hy
      exact ⟨0, Or.inl rfl, x1, y1, noted S m idS idM fac _ _ nk nm⟩
end
