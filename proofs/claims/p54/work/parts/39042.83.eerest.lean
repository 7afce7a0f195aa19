/-! ===== what the endings leave as it was ===== -/
section
variable {T Tm : Nat → Nat} {S m : AS}
theorem EE_rest (hT : TV T S) (hm : TI Tm m) (h : FR S m) {S' m' : AS} {d : Nat} (he : EE d T S m (nS m) (nF m) S' m') : cUsd S' m' ∧ cNum S' m' ∧ cTok S' m' ∧ cAud S' m' := by
  have b := FR_BB hT hm h
  have r : sR S' = sR S := he.1.1
  have el : ∀ l i, lel S' l i = lel S l i := fun l i => by
    unfold lel
    rw [r]
  have oK : ∀ {k τ : Nat} (j : Nat), T k = τ → τ ≠ 0 → KW τ j = false → sI S' k j = sI S k j := fun j hk h0 hw => KE_ty he.1 hk h0 hw
  have oM : ∀ {p j : Nat}, MW p j = false → sI m' p j = sI m p j := fun q => he.2.1.2.2 _ _ q
  have e1 : nS m' = nS m := by
    unfold nS
    rw [oM (by rfl)]
  have e2 : nF m' = nF m := by
    unfold nF
    rw [oM (by rfl)]
  have e3 : nT m' = nT m := by
    unfold nT
    rw [oM (by rfl)]
  have t24 : T 24 = 25 := (hT.1.t6 5 (by decide)).1
  refine ⟨fun s hs => ?_, fun f hf => ?_, ⟨⟨?_, ?_, ?_⟩, fun t ht => ?_⟩, fun f hf v hv => ?_⟩
  · rw [e1] at hs
    rw [el, oK 5 (tyS b hs) (by decide) (by rfl), oM (by rfl)]
    exact h.Usd s hs
  · rw [e2] at hf
    have t := tyF b hf
    rw [el, oK 7 t (by decide) (by rfl), oK 8 t (by decide) (by rfl), oK 9 t (by decide) (by rfl), oM (p := 100) (by rfl), oM (p := 101) (by rfl), oM (p := 102) (by rfl)]
    exact h.Num f hf
  · rw [oM (by rfl)]
    exact (zT b).1
  · rw [oM (by rfl)]
    exact (zT b).2.1
  · rw [oM (by rfl), oK 2 t24 (by decide) (by rfl)]
    exact (zT b).2.2
  · rw [e3] at ht
    have tt := tyT b ht
    obtain ⟨⟨f, f1, f2, f3⟩, w⟩ := h.Tok.2 t ht
    rw [el, r, e2, oK 1 tt (by decide) (by rfl), oK 2 tt (by decide) (by rfl), oK 3 tt (by decide) (by rfl), oK 4 tt (by decide) (by rfl), oK 5 tt (by decide) (by rfl), oK 6 tt (by decide) (by rfl), oM (p := 104) (by rfl), oM (p := 105) (by rfl), oM (p := 106) (by rfl), oM (p := 107) (by rfl), oM (p := 108) (by rfl), oM (p := 109) (by rfl), oM (p := 110) (by rfl)]
    exact ⟨⟨f, f1, by rw [el]; exact f2, f3⟩, w⟩
  · rw [e2] at hf
    rw [el, e3, oK 10 (tyF b hf) (by decide) (by rfl), h.Aud f hf v hv]
    constructor
    · rintro ⟨t, a1, a2, a3⟩
      exact ⟨t, a1, (oM (by rfl)).trans a2, (oM (by rfl)).trans a3⟩
    · rintro ⟨t, a1, a2, a3⟩
      exact ⟨t, a1, (oM (p := 108) (by rfl)).symm.trans a2, (oM (p := 105) (by rfl)).symm.trans a3⟩
end
