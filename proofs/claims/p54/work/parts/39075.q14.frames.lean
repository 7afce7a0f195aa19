/-! ===== the components of the law's relation along frames ===== -/
section
variable {S m S' m' : AS} {ns nc nf nt nk na : Nat}
theorem lSz_fr {j i b n : Nat} (h : lSz j i b n S m) (a : sI S' 127 j = sI S 127 j) (c : sI m' 57 i = sI m 57 i) : lSz j i b n S' m' := by
  unfold lSz at *
  rw [a, c]
  exact h
theorem lNow_fr (h : lNow S m) (a : sI S' 127 0 = sI S 127 0) (c : sI m' 57 0 = sI m 57 0) : lNow S' m' := by
  unfold lNow at *
  rw [a, c]
  exact h
theorem lAud_fr (h : lAud S m) (a : sI S' 127 9 = sI S 127 9) (a2 : sI S' 127 10 = sI S 127 10) (c : sI m' 57 77 = sI m 57 77) (c2 : sI m' 57 81 = sI m 57 81) : lAud S' m' := by
  unfold lAud at *
  rw [a, a2, c, c2]
  exact h
theorem lTok_fr (h : lTok nf nk nt S m) (a : sI S' 137 = sI S 137) (c1 : sI m' 104 = sI m 104) (c2 : sI m' 105 = sI m 105) (c3 : sI m' 106 = sI m 106) (c4 : sI m' 107 = sI m 107) (c5 : sI m' 108 = sI m 108) (c6 : sI m' 109 = sI m 109) (c7 : sI m' 110 = sI m 110) : lTok nf nk nt S' m' := by
  unfold lTok at *
  rw [a, c1, c2, c3, c4, c5, c6, c7]
  exact h
theorem lFam_fr (h : lFam nc nf S m) (a : ∀ i, i < nf → sI S' 136 (5 * i) = sI S 136 (5 * i)) (c : sI m' 99 = sI m 99) : lFam nc nf S' m' := fun i hi => by
  rw [a i hi, c]
  exact h i hi
theorem lCod_fr (h : lCod ns nc S m) (a : ∀ j, ¬ j % 6 = 5 → sI S' 135 j = sI S 135 j) (c1 : sI m' 93 = sI m 93) (c2 : sI m' 94 = sI m 94) (c3 : sI m' 95 = sI m 95) (c4 : sI m' 96 = sI m 96) (c5 : sI m' 97 = sI m 97) : lCod ns nc S' m' := fun k hk => by
  rw [a _ (by omega), a _ (by omega), a _ (by omega), a _ (by omega), a _ (by omega), c1, c2, c3, c4, c5]
  exact h k hk
theorem lCfa_fr (h : lCfa nc nf S m) (a : ∀ j, j % 6 = 5 → sI S' 135 j = sI S 135 j) (c : sI m' 98 = sI m 98) : lCfa nc nf S' m' := fun k hk => by
  rw [a _ (by omega), c]
  exact h k hk
theorem lSp_fr (h : lSp ns S m) (a : ∀ j, j % 4 = 0 ∨ j % 4 = 1 → sI S' 133 j = sI S 133 j) (c1 : sI m' 85 = sI m 85) (c2 : sI m' 86 = sI m 86) (c3 : sI m' 88 = sI m 88) : lSp ns S' m' := fun j hj => by
  rw [a _ (by omega), a _ (by omega), c1, c2, c3]
  exact h j hj
theorem lUsd_fr (h : lUsd ns S m) (a : ∀ j, j % 4 = 2 → sI S' 133 j = sI S 133 j) (c : sI m' 87 = sI m 87) : lUsd ns S' m' := fun j hj => by
  rw [a _ (by omega), c]
  exact h j hj
theorem lLiv_fr (h : lLiv ns S m) (a : ∀ j, j % 4 = 3 → sI S' 133 j = sI S 133 j) (c1 : sI m' 88 = sI m 88) (c2 : sI m' 89 = sI m 89) : lLiv ns S' m' := fun j hj => by
  rw [a _ (by omega), c1, c2]
  exact h j hj
theorem lSsh_fr (h : lSsh ns S m) (a : sI S' 134 = sI S 134) (c : sI m' 90 = sI m 90) : lSsh ns S' m' := by
  unfold lSsh at *
  rw [a, c]
  exact h
theorem lNum_fr (h : lNum nf nt S m) (a : ∀ j, j % 5 = 1 ∨ j % 5 = 2 ∨ j % 5 = 3 → sI S' 136 j = sI S 136 j) (c1 : sI m' 100 = sI m 100) (c2 : sI m' 101 = sI m 101) (c3 : sI m' 102 = sI m 102) : lNum nf nt S' m' := fun i hi => by
  rw [a _ (by omega), a _ (by omega), a _ (by omega), c1, c2, c3]
  exact h i hi
theorem lGod_fr (h : lGod nf S m) (a : ∀ j, j % 5 = 4 → sI S' 136 j = sI S 136 j) (c : sI m' 103 = sI m 103) : lGod nf S' m' := fun i hi => by
  rw [a _ (by omega), c]
  exact h i hi
theorem lKey_fr (h : lKey nk S m) (a6 : sI S' 127 6 = sI S 127 6) (a7 : sI S' 127 7 = sI S 127 7) (a8 : sI S' 127 8 = sI S 127 8) (c1 : sI m' 57 61 = sI m 57 61) (c2 : sI m' 57 62 = sI m 57 62) (c3 : sI m' 57 63 = sI m 57 63) (c0 : sI m' 57 0 = sI m 57 0) : lKey nk S' m' := by
  unfold lKey at *
  rw [a6, a7, a8, c1, c2, c3, c0]
  exact h
theorem lOut_fr (h : lOut S m) (a : sI S' 138 = sI S 138) (c1 : sI m' 111 = sI m 111) (c2 : sI m' 112 = sI m 112) : lOut S' m' := by
  unfold lOut at *
  rw [a, c1, c2]
  exact h
theorem lSrv_fr (h : lSrv S m) (a : ∀ j, ¬ j % 4 = 3 → sI S' 139 j = sI S 139 j) (c1 : sI m' 113 = sI m 113) (c2 : sI m' 114 = sI m 114) (c3 : sI m' 115 = sI m 115) : lSrv S' m' := fun s hs => by
  rw [a _ (by omega), a _ (by omega), a _ (by omega), c1, c2, c3]
  exact h s hs
theorem lTol_fr (h : lTol nf S m) (a : ∀ j, j % 4 = 3 → sI S' 139 j = sI S 139 j) (c1 : sI m' 103 = sI m 103) (c2 : sI m' 116 = sI m 116) : lTol nf S' m' := fun s hs => by
  rw [a _ (by omega), c1, c2]
  exact h s hs
theorem lCon_fr (h : lCon S m) (a : sI S' 140 = sI S 140) (c1 : sI m' 91 = sI m 91) (c2 : sI m' 92 = sI m 92) : lCon S' m' := by
  unfold lCon at *
  rw [a, c1, c2]
  exact h
theorem lFac_fr (h : lFac S m) (a : ∀ j, j % 12 < 7 → sI S' 129 j = sI S 129 j) (c1 : sI m' 58 = sI m 58) (c2 : sI m' 59 = sI m 59) (c3 : sI m' 60 = sI m 60) : lFac S' m' := fun p hp => by
  obtain ⟨h1, h2⟩ := h p hp
  refine ⟨fun f hf => ?_, ?_⟩
  · rw [a _ (by omega), a _ (by omega), c1, c2]
    exact h1 f hf
  · rw [a _ (by omega), c3]
    exact h2
theorem lWrg_fr (h : lWrg S m) (a : ∀ j, 7 ≤ j % 12 → j % 12 < 10 → sI S' 129 j = sI S 129 j) (c : sI m' 61 = sI m 61) : lWrg S' m' := fun p hp k hk => by
  rw [a _ (by omega) (by omega), c]
  exact h p hp k hk
theorem lKn_fr (h : lKn S m) (a : ∀ j, 10 ≤ j % 12 → sI S' 129 j = sI S 129 j) (c1 : sI m' 62 = sI m 62) (c2 : sI m' 63 = sI m 63) : lKn S' m' := fun p hp d hd => by
  rw [a _ (by omega), a _ (by omega), c1, c2]
  exact h p hp d hd
theorem lHlp_fr (h : lHlp S m) (a : sI S' 127 13 = sI S 127 13) (c1 : sI m' 65 = sI m 65) (c2 : sI m' 64 = sI m 64) : lHlp S' m' := by
  unfold lHlp at *
  rw [a, c1, c2]
  exact h
theorem lAtt_fr (h : lAtt na S m) (a : ∀ j, j % 6 < 3 → sI S' 130 j = sI S 130 j) (c1 : sI m' 75 = sI m 75) (c2 : sI m' 76 = sI m 76) (c3 : sI m' 77 = sI m 77) (c4 : sI m' 78 = sI m 78) : lAtt na S' m' := fun i hi => by
  rw [a _ (by omega), a _ (by omega), a _ (by omega), c1, c2, c3, c4]
  exact h i hi
theorem lAs1_fr {i : Nat} (h : lAs1 ns S m i) (a : ∀ j, 3 ≤ j → j < 6 → sI S' 130 (6 * i + j) = sI S 130 (6 * i + j)) (a2 : ∀ j, j < 2 → sI S' 131 (2 * i + j) = sI S 131 (2 * i + j)) (c0 : sI m' 67 = sI m 67) (c1 : sI m' 79 i = sI m 79 i) (c2 : sI m' 80 i = sI m 80 i) (c3 : sI m' 81 i = sI m 81 i) (c4 : sI m' 82 i = sI m 82 i) (c5 : sI m' 83 i = sI m 83 i) : lAs1 ns S' m' i := by
  have a20 := a2 0 (by omega)
  rw [Nat.add_zero] at a20
  unfold lAs1 at *
  rw [a 3 (by omega) (by omega), a 4 (by omega) (by omega), a 5 (by omega) (by omega), a20, a2 1 (by omega), c0, c1, c2, c3, c4, c5]
  exact h
theorem lAst_fr (h : lAst ns na S m) (a : sI S' 130 = sI S 130) (a2 : sI S' 131 = sI S 131) (c0 : sI m' 67 = sI m 67) (c1 : sI m' 79 = sI m 79) (c2 : sI m' 80 = sI m 80) (c3 : sI m' 81 = sI m 81) (c4 : sI m' 82 = sI m 82) (c5 : sI m' 83 = sI m 83) : lAst ns na S' m' := fun i hi => lAs1_fr (h i hi) (fun j _ _ => by rw [a]) (fun j _ => by rw [a2]) c0 (by rw [c1]) (by rw [c2]) (by rw [c3]) (by rw [c4]) (by rw [c5])
theorem lAsh_fr (h : lAsh na S m) (a : sI S' 132 = sI S 132) (c : sI m' 84 = sI m 84) : lAsh na S' m' := by
  unfold lAsh at *
  rw [a, c]
  exact h
theorem lFlo_fr (h : lFlo S m) (a : sI S' 128 = sI S 128) (c9 : sI m' 57 9 = sI m 57 9) (c : ∀ p, 67 ≤ p → p ≤ 71 → sI m' p = sI m p) : lFlo S' m' := by
  unfold lFlo at *
  rw [a, c9, c 67 (by omega) (by omega), c 68 (by omega) (by omega), c 69 (by omega) (by omega), c 70 (by omega) (by omega), c 71 (by omega) (by omega)]
  exact h
theorem EW_rf (hA : lAud S m) (hG : lGod nf S m) (hT : lTol nf S m) (hL : lLiv ns S m) : EW ns nf S m S m := ⟨LF_rf S, fun _ _ _ _ _ _ => rfl, ⟨rfl, rfl, fun _ _ _ _ _ _ _ _ _ => rfl⟩, hA, hG, hT, hL⟩
/-- behind the ends, what stays stands again -/
theorem EW_SW (hs : SW ns nc nf nt nk S m) (he : EW ns nf S m S' m') : SW ns nc nf nt nk S' m' := by
  obtain ⟨lr, hmf, ⟨z1, z2, z3⟩, z4, now, tok, fam, cod, sp, srv⟩ := hs
  obtain ⟨hl, fr, ⟨e1, e2, e3⟩, -⟩ := he
  have e : ∀ p, p ≠ 89 → p ≠ 103 → p ≠ 116 → p ≠ 123 → p ≠ 124 → p ≠ 125 → p ≠ 57 → sI m' p = sI m p := fun p q1 q2 q3 q4 q5 q6 q7 => funext fun j => e3 p j q1 q2 q3 q4 q5 q6 (fun z => q7 z.1)
  have e57 : ∀ j, ¬ (j = 77 ∨ j = 81) → sI m' 57 j = sI m 57 j := fun j q => e3 57 j (by omega) (by omega) (by omega) (by omega) (by omega) (by omega) (fun z => q z.2)
  have w127 : ∀ j, ¬ (j = 9 ∨ j = 10) → sI S' 127 j = sI S 127 j := fun j q => fr 127 j (fun z => q z.2) (by omega) (by omega) (by omega)
  refine ⟨hl.LR lr, MF_e hmf e1, ⟨lSz_fr z1 (w127 _ (by omega)) (e57 _ (by omega)), lSz_fr z2 (w127 _ (by omega)) (e57 _ (by omega)), lSz_fr z3 (w127 _ (by omega)) (e57 _ (by omega))⟩, z4, lNow_fr now (w127 _ (by omega)) (e57 _ (by omega)), ?_, ?_, ?_, ?_, ?_⟩
  · exact lTok_fr tok (funext fun j => fr 137 j (by omega) (by omega) (by omega) (by omega)) (e 104 (by omega) (by omega) (by omega) (by omega) (by omega) (by omega) (by omega)) (e 105 (by omega) (by omega) (by omega) (by omega) (by omega) (by omega) (by omega)) (e 106 (by omega) (by omega) (by omega) (by omega) (by omega) (by omega) (by omega)) (e 107 (by omega) (by omega) (by omega) (by omega) (by omega) (by omega) (by omega)) (e 108 (by omega) (by omega) (by omega) (by omega) (by omega) (by omega) (by omega)) (e 109 (by omega) (by omega) (by omega) (by omega) (by omega) (by omega) (by omega)) (e 110 (by omega) (by omega) (by omega) (by omega) (by omega) (by omega) (by omega))
  · exact lFam_fr fam (fun i _ => fr 136 _ (by omega) (by omega) (by omega) (by omega)) (e 99 (by omega) (by omega) (by omega) (by omega) (by omega) (by omega) (by omega))
  · exact lCod_fr cod (fun j _ => fr 135 j (by omega) (by omega) (by omega) (by omega)) (e 93 (by omega) (by omega) (by omega) (by omega) (by omega) (by omega) (by omega)) (e 94 (by omega) (by omega) (by omega) (by omega) (by omega) (by omega) (by omega)) (e 95 (by omega) (by omega) (by omega) (by omega) (by omega) (by omega) (by omega)) (e 96 (by omega) (by omega) (by omega) (by omega) (by omega) (by omega) (by omega)) (e 97 (by omega) (by omega) (by omega) (by omega) (by omega) (by omega) (by omega))
  · exact lSp_fr sp (fun j q => fr 133 j (by omega) (by omega) (by omega) (by omega)) (e 85 (by omega) (by omega) (by omega) (by omega) (by omega) (by omega) (by omega)) (e 86 (by omega) (by omega) (by omega) (by omega) (by omega) (by omega) (by omega)) (e 88 (by omega) (by omega) (by omega) (by omega) (by omega) (by omega) (by omega))
  · exact lSrv_fr srv (fun j q => fr 139 j (by omega) (by omega) (fun z => q z.2) (by omega)) (e 113 (by omega) (by omega) (by omega) (by omega) (by omega) (by omega) (by omega)) (e 114 (by omega) (by omega) (by omega) (by omega) (by omega) (by omega) (by omega)) (e 115 (by omega) (by omega) (by omega) (by omega) (by omega) (by omega) (by omega))
end
