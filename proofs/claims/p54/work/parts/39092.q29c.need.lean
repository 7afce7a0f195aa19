/-! ===== needing: the law ===== -/
section
variable {n r : Nat} {T : Nat → Nat} {S : AS}
theorem l_need (L : L54 n r T S) (hn : n ≤ 500) {y : Int32} : Ho (f_W_grants S (some 4) (2 : Int32) y (some 127) (some 133) (some 134) (some 135) (some 136) (some 137) (some 139) (some 140)) (G54 n r) := by
  obtain ⟨iv, rp, tl, pts, -, ns, nc, nf, nt, nk, na, lw⟩ := id L
  obtain ⟨-, -, -, -, -, -, -, -, -, -, -, -, -, r140⟩ := TL_LR iv.1 tl
  have con : lCon S S := lw.2.2.2.2.2.2.2.2.2.2
  unfold f_W_grants
  refine o_some 4 rfl (by decide) (by decide) (fun cl c4 => o_some 16 rfl (by decide) (by decide) (fun sc _ => r_ifF (by decide) (r_ifF (by decide) (r_ifT rfl ?_))))
  refine o_aI r140 (n := 16 + cl) (wadd 16 cl) (by omega) (o_some 20 rfl (by decide) (by decide) (fun v _ => ?_))
  have fin : ∀ l, l ≤ 7 → Ho (f_W_grants_B266 S (some 4) (some 140) (Int32.ofNat cl) (sI S 140 (16 + cl)) (Int32.ofNat l)) (G54 n r) := fun l l7 => by
    have go : ∀ y2 : Int32, (l < 7 → y2 = Int32.ofNat l) → (l = 7 → y2 = sI S 140 (16 + cl)) → Ho (f_W_grants_B289 S (some 4) (Int32.ofNat cl) (sI S 140 (16 + cl)) (Int32.ofNat l) (some 140) ((16 : Int32) + Int32.ofNat cl) y2) (G54 n r) := fun y2 hy1 hy2 => by
      unfold f_W_grants_B289
      refine o_bI r140 (n := 16 + cl) (wadd 16 cl) (by omega) ?_
      obtain ⟨Sa, ea⟩ : ∃ Sa, Sa = wI S 140 (16 + cl) y2 := ⟨_, rfl⟩
      rw [← ea]
      have la : LF S Sa := by rw [ea]; exact LF_w (LF_rf S) (by decide)
      have oa : ∀ k j, ¬ (k = 140 ∧ j = 16 + cl) → sI Sa k j = sI S k j := fun k j q => by rw [ea, ti_sI_ne q]
      have a1 : sI Sa 140 (16 + cl) = y2 := by rw [ea, ti_sI_eq]
      obtain ⟨c, v, S1, S2, T1, e1, e2, g, an⟩ := tg_need (a0 := Int32.ofNat cl) (a1 := Int32.ofNat l) (LF_IV iv tl la) (by omega) (LF_RPF iv.1 tl rp la)
      have bh := PK_BH L la g (by decide +kernel) (by decide +kernel) (by decide +kernel)
      obtain ⟨-, -, -, -, kS, kS1, kG, mf⟩ := id bh
      have pn := p_need mf c4 l7 _ e2
      obtain ⟨pa, pb⟩ := pn
      have m1 : ∀ k j, 57 ≤ k → k < 126 → ¬ (k = 57 ∧ (100 ≤ j ∨ j = 82)) → sI S1 k j = sI S k j := fun k j h1 h2 h3 => (kG k j h1 h2 h3).trans (oa k j (by omega))
      have s2 : ∀ k j, 127 ≤ k → k < 141 → sI S2 k j = sI Sa k j := fun k j h1 h2 => by rw [kS k h1 h2]
      obtain ⟨w, w7, x1, x2⟩ : sV 7 (sI S 140 (16 + cl)) (sI S 92 cl) := (con cl c4).2.2
      refine o_b2 e1 ?_
      by_cases c7 : l = 7
      · obtain ⟨t, o⟩ := pb c7
        refine r_ifT ((oleq (a := 7) (by omega) (by omega)).mpr (by omega)) ?_
        unfold f_W_grants_B314
        have gk : GK S S2 := fun k j h1 h2 h3 => (o k j h1 h2 h3).trans (m1 k j h1 h2 h3)
        refine o_fin (ANc_k an (by decide) 1 rfl t) (BH_L bh (lPN_e pts (fun j => gk 73 j (by omega) (by omega) (by omega)) (gk 57 0 (by omega) (by omega) (by omega))) ⟨ns, nc, nf, nt, nk, na, LW_cong2 lw (fun k h1 h2 => funext fun j => (s2 k j h1 h2).trans ?_) gk⟩)
        by_cases e : k = 140 ∧ j = 16 + cl
        · rw [e.1, e.2, a1, hy2 c7]
        · exact oa k j e
      · obtain ⟨v1, v82, v92, o⟩ := pa (by omega)
        have v1 : v = sI S1 92 cl := v1
        have o : ∀ k j, ¬ (k = 57 ∧ j = 82) → ¬ (k = 92 ∧ j = cl) → sI S2 k j = sI S1 k j := o
        have m2 : ∀ k j, 57 ≤ k → k < 126 → ¬ (k = 57 ∧ (100 ≤ j ∨ j = 82)) → ¬ (k = 92 ∧ j = cl) → sI S2 k j = sI S k j := fun k j h1 h2 h3 h4 => (o k j (by omega) h4).trans (m1 k j h1 h2 h3)
        refine r_ifF (fun z => by have := (oleq (a := 7) (b := l) (by omega) (by omega)).mp z; omega) ?_
        unfold f_W_grants_B314
        refine o_fin ?_ (BH_L bh (lPN_e pts (fun j => m2 73 j (by omega) (by omega) (by omega) (by omega)) (m2 57 0 (by omega) (by omega) (by omega) (by omega))) ⟨ns, nc, nf, nt, nk, na, LWa_consent lw (fun k j h1 h2 h3 => (s2 k j h1 h2).trans (oa k j (by omega))) (fun k j h1 h2 h3 h4 => m2 k j h1 h2 h3 (by omega)) ?_⟩)
        · rw [ANc_0 an (by decide) v82, v1, m1 92 _ (by omega) (by omega) (by omega), x1, x2]
        · refine lCon_need (cl := cl) con (fun j h => (s2 140 j (by omega) (by omega)).trans (oa 140 j (by omega))) (fun j => m2 91 j (by omega) (by omega) (by omega) (by omega)) (fun j h => m2 92 j (by omega) (by omega) (by omega) (by omega)) ⟨l, by omega, ?_, v92⟩
          rw [s2 140 _ (by omega) (by omega), a1, hy1 (by omega)]
    unfold f_W_grants_B266
    by_cases c7 : l = 7
    · exact r_ifT ((oleq (a := 7) (by omega) (by omega)).mpr (by omega)) (go _ (fun h => absurd h (by omega)) (fun _ => rfl))
    · exact r_ifF (fun z => by have := (oleq (a := 7) (b := l) (by omega) (by omega)).mp z; omega) (go _ (fun _ => rfl) (fun h => absurd h c7))
  by_cases c : Int32.ofNat v = 0
  · exact r_ifT c (fin 7 (by decide))
  · exact r_ifF c (o_some 4 rfl (by decide) (by decide) (fun l l4 => fin l (by omega)))
end
