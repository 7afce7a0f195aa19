/-! ===== the full relation at the start ===== -/
theorem z_FR : FR kr_Z kr_Z := by
  have hV : nV kr_Z = 0 := by decide +kernel
  have hA : uA kr_Z = 0 := by decide +kernel
  have hS : nS kr_Z = 0 := by decide +kernel
  have hC : nC kr_Z = 0 := by decide +kernel
  have hF : nF kr_Z = 0 := by decide +kernel
  have hT : nT kr_Z = 0 := by decide +kernel
  have hR : nR kr_Z = 0 := by decide +kernel
  have no : ∀ {k n : Nat} {P : Prop}, n = 0 → k < n → P := fun h q => by omega
  have sz : ∀ {l j b : Nat}, (nn (sI kr_Z 57 j) ≤ b ∧ sI kr_Z 57 j = Int32.ofNat (nn (sI kr_Z 57 j)) ∧ sI kr_Z l 2 = sI kr_Z 57 j) → SZ l j b kr_Z kr_Z := fun h => h
  refine ⟨?_, z_PF, ?_, ?_, ?_, ?_, ?_, ?_, ?_, ?_, ?_, ⟨sz (by decide +kernel), fun v hv => no hV hv⟩, ?_, ⟨sz (by decide +kernel), fun v hv => no hA hv⟩, ⟨fun a _ ha => ?_, fun v hv => no hA hv⟩, fun v hv => no hA hv, ⟨sz (by decide +kernel), fun v hv => no hS hv⟩, fun v hv => no hS hv, ⟨fun v hv => no hS hv, ?_⟩, fun v hv => no hS hv, ⟨fun a b ha => no hA ha, fun a b ha => no hS ha, fun a b ha => no hA ha⟩, ⟨sz (by decide +kernel), fun v hv => no hC hv⟩, fun v hv => no hC hv, ⟨sz (by decide +kernel), fun v hv => no hF hv⟩, fun v hv => no hF hv, ⟨fun x _ hx v hv => ?_, fun v hv => no hF hv⟩, ⟨sz (by decide +kernel), fun v hv => no hT hv⟩, fun v hv => no hF hv, ?_, ?_, ?_, ?_, ⟨sz (by decide +kernel), fun r _ hr => ?_, fun v hv => no hR hv⟩, ?_⟩
  · unfold cNW
    decide +kernel
  · unfold cWgt
    decide +kernel
  · unfold cFac
    decide +kernel
  · unfold cWrg WR
    decide +kernel
  · unfold cKn
    decide +kernel
  · unfold cCon
    decide +kernel
  · unfold cHlp
    decide +kernel
  · unfold cAwy
    decide +kernel
  · unfold cPts
    decide +kernel
  · unfold cLnk
    decide +kernel
  · intro k hk
    have e : (sI kr_Z 66 8).toInt = 0 := by decide +kernel
    rw [e] at hk
    omega
  · have z : ∀ a, a < 60 → sI kr_Z 82 a = 0 := by decide +kernel
    exact z a ha
  · rw [hS]
    decide +kernel
  · have z : ∀ x, x < 60 → ∀ v, v < 4 → sI kr_Z 116 (60 * v + x) = 0 := by decide +kernel
    exact z x hx v hv
  · unfold cSrv
    decide +kernel
  · unfold cNed
    decide +kernel
  · unfold cChe
    decide +kernel
  · have e : (sI kr_Z 57 0).toInt = 0 := by decide +kernel
    unfold cKey
    rw [e]
    exact z_KY
  · have z : ∀ r, r < 20 → sI kr_Z 120 r = 0 ∧ sI kr_Z 121 r = 0 := by decide +kernel
    exact z r hr
  · have e1 : (sI kr_Z 57 77).toInt = 0 := by decide +kernel
    have e2 : (sI kr_Z 5 2).toInt = 0 := by decide +kernel
    unfold cAU AU
    refine ⟨?_, fun _ => ⟨by decide +kernel, fun _ => ⟨by decide +kernel, by rw [e1]; decide +kernel, fun i hi => by rw [e1] at hi; omega⟩⟩⟩
    unfold AUo
    rw [hS, e1, e2]
    refine ⟨by omega, by omega, by omega, fun _ => ⟨fun s _ => ⟨?_, fun q => absurd q (Nat.not_lt_zero _)⟩, fun s _ => ⟨?_, fun q => absurd q.1 (Nat.not_lt_zero _)⟩, fun s hs => absurd hs (Nat.not_lt_zero _)⟩⟩
    · rintro ⟨i, q, -⟩
      omega
    · rintro ⟨i, q, -⟩
      omega
