/-! ===== the draft of the class and that of the reference ===== -/
def DR (T : Nat → Nat) (S : AS) (f n : Nat) (r : Nat → Nat) : Prop :=
  sR S 4 5 = some f ∧ T f = 40 ∧ n ≤ 12 ∧ sI S f 5 = Int32.ofNat n ∧ sI S 66 8 = Int32.ofNat n ∧
  (∀ j, j < 5 → sR S f j = some (r j) ∧ T (r j) = 41) ∧ (∀ i j, i < 5 → j < 5 → r i = r j → i = j) ∧
  (∀ j k, j < 5 → k < n → sI S (r j) k = sI S (67 + j) (96 + k))
def VL (S : AS) : Prop := sI S 17 2 = sI S 57 9
def RP (T : Nat → Nat) (S : AS) : Prop := (∃ f n r, DR T S f n r) ∧ VL S
def kr_rc : List Nat := [2002, 10009, 50105, 4005, 4100, 54000, 54001, 54002, 54003, 54004, 11000, 11100, 11200, 11300, 11400, 11500]
theorem rc_no {w : List Nat} (h : kr_rc.all (fun z => !w.contains z) = true) {z : Nat} (hz : z ∈ kr_rc) : ¬ z ∈ w := fun q => by
  have := List.all_eq_true.mp h z hz
  rw [List.contains_iff_mem.mpr q] at this
  cases this
theorem md_ty {T : Nat → Nat} {S : AS} (hT : TI T S) {j τ p : Nat} (a : ft 100 j = some τ) (b : sg τ = some p) : T p = τ ∧ τ ≠ 0 := sg_p hT ⟨57, rfl, hT.t9.1, by decide⟩ a b
theorem DR_fr {T T' : Nat → Nat} {w : List Nat} {S S' : AS} {c s f n : Nat} {r : Nat → Nat} (h : DR T S f n r) (hR : Rl T w S c s T' S') (hw : kr_rc.all (fun z => !w.contains z) = true) : DR T' S' f n r := by
  have hT : TI T S := hR.2.2.2.2.2.2.2.2
  obtain ⟨a1, a2, a3, a4, a5, a6, a7, a8⟩ := h
  have no := fun {z} => rc_no hw (z := z)
  have hm : ∀ p τ, 110 ≤ τ → τ < 116 → T p = τ → ∀ i, sI S' p i = sI S p i := fun p τ h1 h2 e i => by
    refine hR.fI p i (by rw [e]; omega) ?_
    rw [e, show cl τ i = 100 * τ from if_neg (by
      have : τ = 110 ∨ τ = 111 ∨ τ = 112 ∨ τ = 113 ∨ τ = 114 ∨ τ = 115 := by omega
      rcases this with rfl | rfl | rfl | rfl | rfl | rfl <;> decide)]
    have : τ = 110 ∨ τ = 111 ∨ τ = 112 ∨ τ = 113 ∨ τ = 114 ∨ τ = 115 := by omega
    rcases this with rfl | rfl | rfl | rfl | rfl | rfl <;> exact no (by decide)
  have m : ∀ j, j < 6 → T (66 + j) = 110 + j := fun j hj => by
    match j, hj with
    | 0, _ => exact (md_ty hT (j := 10) rfl rfl).1
    | 1, _ => exact (md_ty hT (j := 11) rfl rfl).1
    | 2, _ => exact (md_ty hT (j := 12) rfl rfl).1
    | 3, _ => exact (md_ty hT (j := 13) rfl rfl).1
    | 4, _ => exact (md_ty hT (j := 14) rfl rfl).1
    | 5, _ => exact (md_ty hT (j := 15) rfl rfl).1
  have e4 : T 4 = 1 := hT.t9.2.2.2.2.1
  refine ⟨?_, ?_, a3, ?_, ?_, fun j hj => ?_, a7, fun j k hj hk => ?_⟩
  · rw [hR.fR 4 5 (by rw [e4]; decide) (by rw [e4]; exact no (by decide))]
    exact a1
  · rw [hR.ty f (by rw [a2]; decide)]
    exact a2
  · rw [hR.fI f 5 (by rw [a2]; decide) (by rw [a2]; exact no (by decide))]
    exact a4
  · rw [hm 66 110 (by decide) (by decide) (m 0 (by decide))]
    exact a5
  · obtain ⟨b1, b2⟩ := a6 j hj
    refine ⟨?_, ?_⟩
    · rw [hR.fR f j (by rw [a2]; decide) (by
        rw [a2]
        match j, hj with
        | 0, _ => exact no (by decide)
        | 1, _ => exact no (by decide)
        | 2, _ => exact no (by decide)
        | 3, _ => exact no (by decide)
        | 4, _ => exact no (by decide))]
      exact b1
    · rw [hR.ty _ (by rw [b2]; decide)]
      exact b2
  · obtain ⟨b1, b2⟩ := a6 j hj
    rw [hR.fI (r j) k (by rw [b2]; decide) (by rw [b2]; exact no (by rw [show cl 41 k = 4100 from if_neg (by decide)]; decide)), hm (67 + j) (111 + j) (by omega) (by omega) (by rw [show 67 + j = 66 + (1 + j) by omega, m (1 + j) (by omega)]; omega)]
    exact a8 j k hj hk
theorem VL_fr {T T' : Nat → Nat} {w : List Nat} {S S' : AS} {c s : Nat} (h : VL S) (hR : Rl T w S c s T' S') (h1 : ¬ 2002 ∈ w) (h2 : ¬ 10009 ∈ w) : VL S' := by
  have hT : TI T S := hR.2.2.2.2.2.2.2.2
  have e1 : T 17 = 20 := (hT.t6 0 (by decide)).1
  have e2 := hT.t9.1
  unfold VL
  rw [hR.fI 17 2 (by rw [e1]; decide) (by rw [e1]; exact h1), hR.fI 57 9 (by rw [e2]; decide) (by rw [e2]; exact h2)]
  exact h
theorem RP_fr {T T' : Nat → Nat} {w : List Nat} {S S' : AS} {c s : Nat} (h : RP T S) (hR : Rl T w S c s T' S') (hw : kr_rc.all (fun z => !w.contains z) = true) : RP T' S' := by
  obtain ⟨⟨f, n, r, h⟩, hv⟩ := h
  exact ⟨⟨f, n, r, DR_fr h hR hw⟩, VL_fr hv hR (rc_no hw (by decide)) (rc_no hw (by decide))⟩
def z_r (j : Nat) : Nat := 12 + j
theorem z_RP : RP kr_T0 kr_Z := by
  refine ⟨⟨11, 0, z_r, by decide +kernel, by decide +kernel, by decide, by decide +kernel, by decide +kernel, ?_, fun i j _ _ e => by unfold z_r at e; omega, fun j k _ h => absurd h (Nat.not_lt_zero _)⟩, by unfold VL; decide +kernel⟩
  intro j hj
  match j, hj with
  | 0, _ => exact ⟨by decide +kernel, by decide +kernel⟩
  | 1, _ => exact ⟨by decide +kernel, by decide +kernel⟩
  | 2, _ => exact ⟨by decide +kernel, by decide +kernel⟩
  | 3, _ => exact ⟨by decide +kernel, by decide +kernel⟩
  | 4, _ => exact ⟨by decide +kernel, by decide +kernel⟩
