/-! ===== consenting: the law ===== -/
section
variable {n r : Nat} {T : Nat → Nat} {S : AS}
theorem l_consent (L : L54 n r T S) (hn : n ≤ 500) {y : Int32} : Ho (f_W_grants S (some 4) (0 : Int32) y (some 127) (some 133) (some 134) (some 135) (some 136) (some 137) (some 139) (some 140)) (G54 n r) := by
  obtain ⟨iv, rp, tl, pts, -, ns, nc, nf, nt, nk, na, lw⟩ := id L
  obtain ⟨-, -, -, -, -, -, -, -, -, -, -, -, -, r140⟩ := TL_LR iv.1 tl
  have con : lCon S S := lw.2.2.2.2.2.2.2.2.2.2
  unfold f_W_grants
  refine o_some 4 rfl (by decide) (by decide) (fun cl c4 => o_some 16 rfl (by decide) (by decide) (fun sc s16 => r_ifT rfl (o_some 4 rfl (by decide) (by decide) (fun w w4 => r_val ?_))))
  have fin : ∀ (pv y2 : Int32) (i1 qi : Nat), (4 : Int32) * y2 + Int32.ofNat cl = Int32.ofNat i1 → ((pv = -1 ∧ qi = 24 + cl ∧ i1 = 12 + cl ∧ y2 = 3) ∨ ∃ p, p < 3 ∧ pv = Int32.ofNat p ∧ qi = 4 * p + cl ∧ i1 = 4 * p + cl ∧ y2 = pv) → Ho (f_W_grants_B46 S (some 4) (some 140) (Int32.ofNat cl) (Int32.ofNat sc) pv (some 140) (4 : Int32) y2) (G54 n r) := fun pv y2 i1 qi ei hc => by
    have i20 : i1 < 20 := by rcases hc with ⟨-, -, e, -⟩ | ⟨p, p3, -, -, e, -⟩ <;> omega
    have hi : (∃ p c, p < 3 ∧ c < 4 ∧ i1 = 4 * p + c ∧ qi = 4 * p + c) ∨ ∃ c, c < 4 ∧ i1 = 12 + c ∧ qi = 24 + c := by
      rcases hc with ⟨-, e2, e, -⟩ | ⟨p, p3, -, e2, e, -⟩
      · exact Or.inr ⟨cl, c4, e, e2⟩
      · exact Or.inl ⟨p, cl, p3, c4, e, e2⟩
    have hv : sV 16 (sI S 140 i1) (sI S 91 qi) := by
      obtain ⟨h1, h2, -⟩ := con cl c4
      rcases hc with ⟨-, e2, e, -⟩ | ⟨p, p3, -, e2, e, -⟩
      · rw [e, e2]
        exact h2
      · rw [e, e2]
        exact h1 p p3
    obtain ⟨w, w16, x1, x2⟩ := hv
    unfold f_W_grants_B46
    refine r_val ?_
    rw [ei]
    refine o_aIe r140 (n := i1) rfl i20 x1 (o_bI r140 (n := i1) rfl i20 ?_)
    rw [(or16 w w16 sc s16).2]
    obtain ⟨Sa, ea⟩ : ∃ Sa, Sa = wI S 140 i1 (Int32.ofNat (w ||| sc)) := ⟨_, rfl⟩
    rw [← ea]
    have la : LF S Sa := by rw [ea]; exact LF_w (LF_rf S) (by decide)
    have oa : ∀ k j, ¬ (k = 140 ∧ j = i1) → sI Sa k j = sI S k j := fun k j q => by rw [ea, ti_sI_ne q]
    have a1 : sI Sa 140 i1 = Int32.ofNat (w ||| sc) := by rw [ea, ti_sI_eq]
    obtain ⟨c, v, S1, S2, T1, e1, e2, g, an⟩ := tg_consent (a0 := pv) (a1 := Int32.ofNat cl) (a2 := Int32.ofNat sc) (LF_IV iv tl la) (by omega) (LF_RPF iv.1 tl rp la)
    have bh := PK_BH L la g (by decide +kernel) (by decide +kernel) (by decide +kernel)
    obtain ⟨-, -, -, -, kS, kS1, kG, mf⟩ := id bh
    obtain ⟨v1, v82, v91, o⟩ := p_consent (qi := qi) mf c4 s16 (by
      rcases hc with ⟨a, e2, -⟩ | ⟨p, p3, a, e2, -⟩
      · exact Or.inl ⟨a, e2⟩
      · exact Or.inr ⟨p, p3, a, e2⟩) _ e2
    have m1 : ∀ k j, 57 ≤ k → k < 126 → ¬ (k = 57 ∧ (100 ≤ j ∨ j = 82)) → sI S1 k j = sI S k j := fun k j h1 h2 h3 => (kG k j h1 h2 h3).trans (oa k j (by omega))
    have s2 : ∀ k j, 127 ≤ k → k < 141 → sI S2 k j = sI Sa k j := fun k j h1 h2 => by rw [kS k h1 h2]
    rw [m1 91 _ (by omega) (by omega) (by omega), x2, (or16 w w16 sc s16).2] at v1 v91
    have v1 : v = Int32.ofNat (w ||| sc) := v1
    have o : ∀ k j, ¬ (k = 57 ∧ j = 82) → ¬ (k = 91 ∧ j = qi) → sI S2 k j = sI S1 k j := o
    have m2 : ∀ k j, 57 ≤ k → k < 126 → ¬ (k = 57 ∧ (100 ≤ j ∨ j = 82)) → ¬ (k = 91 ∧ j = qi) → sI S2 k j = sI S k j := fun k j h1 h2 h3 h4 => (o k j (by omega) h4).trans (m1 k j h1 h2 h3)
    have LL : L54 (n + 1) (r + 1) T1 S2 := BH_L bh (lPN_e pts (fun j => m2 73 j (by omega) (by omega) (by omega) (by omega)) (m2 57 0 (by omega) (by omega) (by omega) (by omega))) ⟨ns, nc, nf, nt, nk, na, LWa_consent lw (fun k j h1 h2 h3 => (s2 k j h1 h2).trans (oa k j (by omega))) (fun k j h1 h2 h3 h4 => m2 k j h1 h2 h3 (by omega)) (lCon_set con i1 qi (fun j h => (s2 140 j (by omega) (by omega)).trans (oa 140 j (by omega))) (fun j h => m2 91 j (by omega) (by omega) (by omega) (by omega)) (fun j => m2 92 j (by omega) (by omega) (by omega) (by omega)) hi ⟨w ||| sc, (or16 w w16 sc s16).1, (s2 140 _ (by omega) (by omega)).trans a1, v91⟩)⟩
    have r2 : Rw S2 140 20 := (TL_LR LL.1.1 LL.2.2.1).2.2.2.2.2.2.2.2.2.2.2.2.2
    have fin2 : ∀ y3 : Int32, (4 : Int32) * y3 + Int32.ofNat cl = Int32.ofNat i1 → Ho (f_W_grants_B81 S2 (Int32.ofNat cl) c (some 140) (4 : Int32) y3) (G54 n r) := fun y3 e3 => by
      unfold f_W_grants_B81
      exact o_aIe r2 (n := i1) e3 i20 ((s2 140 _ (by omega) (by omega)).trans a1) (o_fin (by rw [ANc_0 an (by decide) v82, v1]) LL)
    refine o_b2 e1 ?_
    rcases hc with ⟨a, -, e, ey⟩ | ⟨p, p3, a, -, e, ey⟩
    · refine r_ifF (by rw [a]; decide) (fin2 _ ?_)
      rw [← ey]
      exact ei
    · refine r_ifT (by rw [a]; exact (in5 p3).1) (fin2 _ ?_)
      rw [← ey]
      exact ei
  by_cases c : w = 0
  · subst c
    refine r_ifF (by decide) (fin _ 3 (12 + cl) (24 + cl) (wadd 12 cl) (Or.inl ⟨rfl, rfl, rfl, rfl⟩))
  · obtain ⟨p, rfl⟩ : ∃ p, w = p + 1 := ⟨w - 1, by omega⟩
    rw [qsub1]
    exact r_ifT (in5 (by omega)).1 (fin _ (Int32.ofNat p) (4 * p + cl) (4 * p + cl) (wix 4 p cl) (Or.inr ⟨p, by omega, rfl, rfl, rfl, rfl⟩))
end
