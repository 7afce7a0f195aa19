/-! ===== keys that turn; services; checks ===== -/
theorem p_turn {m : AS} {nk : Nat} (hmf : MF m) (h60 : sI m 57 60 = Int32.ofNat nk) (k10 : nk ≤ 10) : Hp (f_M_turn m (some 57)) (fun q => (¬ sI m 57 62 = -1 → sI q.2 57 82 = Int32.ofNat 1 ∧ GK m q.2) ∧ (sI m 57 62 = -1 → q.1 = Int32.ofNat nk ∧ sI q.2 57 82 = 0 ∧ sI q.2 57 60 = Int32.ofNat (nk + 1) ∧ sI q.2 57 62 = Int32.ofNat nk ∧ sI q.2 57 63 = sI m 57 0 + 5 ∧ ∀ k j, ¬ (k = 57 ∧ (j = 60 ∨ j = 62 ∨ j = 63 ∨ j = 82)) → sI q.2 k j = sI m k j)) := by
  unfold f_M_turn
  refine p_of (st_gIe rfl) ?_
  by_cases c : sI m 57 62 = -1
  · refine p_of (st_T c) (p_of (st_gIe h60) (p_of (st_F (fun z => by have := (oleq (a := 20) (b := nk) (by omega) (by omega)).mp z; omega)) ?_))
    unfold f_M_turn_B23
    refine p_of st_rv (p_b2 p_may (fun v m' q => ?_))
    rw [if_neg one0] at q
    obtain ⟨q1, q2⟩ := Prod.mk.inj q
    rw [q1]
    obtain ⟨m1, e1⟩ : ∃ m1, m1 = wI m 57 82 0 := ⟨_, rfl⟩
    rw [q2, ← e1]
    have o : ∀ k j, ¬ (k = 57 ∧ j = 82) → sI m1 k j = sI m k j := fun k j z => by rw [e1, ti_sI_ne z]
    refine p_of (st_F one0) (p_of (st_gIe ((o 57 60 (by omega)).trans h60)) (p_of st_pI (p_of (st_gIe (v := sI m 57 0) (by rw [ti_sI_ne (by omega)]; exact o 57 0 (by omega))) (p_of st_pI (p_of (st_gIe (v := Int32.ofNat nk) (by rw [ti_sI_ne (by omega), ti_sI_ne (by omega)]; exact (o 57 60 (by omega)).trans h60)) (p_of st_pI (p_of (st_gIe (v := Int32.ofNat nk) (by rw [ti_sI_ne (by omega), ti_sI_ne (by omega), ti_sI_eq])) (p_ret ⟨fun z => absurd c z, fun _ => ⟨rfl, ?_, ?_, ?_, ?_, fun k j z => ?_⟩⟩))))))))
    · show sI (wI _ 57 60 _) 57 82 = 0
      rw [ti_sI_ne (by omega), ti_sI_ne (by omega), ti_sI_ne (by omega), e1, ti_sI_eq]
    · show sI (wI _ 57 60 _) 57 60 = _
      rw [ti_sI_eq]
      exact o1 nk
    · show sI (wI _ 57 60 _) 57 62 = _
      rw [ti_sI_ne (by omega), ti_sI_ne (by omega), ti_sI_eq]
    · show sI (wI _ 57 60 _) 57 63 = _
      rw [ti_sI_ne (by omega), ti_sI_eq]
    · show sI (wI _ 57 60 _) k j = _
      rw [ti_sI_ne (by omega), ti_sI_ne (by omega), ti_sI_ne (by omega)]
      exact o k j (by omega)
  · refine p_of (st_F c) ?_
    unfold f_M_turn_B22 f_M_turn_B23
    refine p_of st_rv (p_b2 p_may (fun v m' q => ?_))
    rw [if_pos rfl] at q
    obtain ⟨q1, q2⟩ := Prod.mk.inj q
    rw [q1, q2]
    exact p_of (st_T rfl) (p_ret ⟨fun _ => ⟨ti_sI_eq _ _ _ _, GK_82 _ _⟩, fun z => absurd z c⟩)
/-- the key that signs behind an emergency -/
theorem p_emergency {m : AS} {nk sg w : Nat} (hmf : MF m) (h60 : sI m 57 60 = Int32.ofNat nk) (k10 : nk ≤ 10) (h61 : sI m 57 61 = Int32.ofNat sg) (s10 : sg < 20) (hw : (sI m 57 62 = -1 ∧ w = nk) ∨ (sI m 57 62 = Int32.ofNat w ∧ w < 20)) : Hp (f_M_emergency m (some 57)) (fun q => q.1 = Int32.ofNat w ∧ sI q.2 57 82 = 0 ∧ sI q.2 57 60 = (if sI m 57 62 = -1 then Int32.ofNat (nk + 1) else Int32.ofNat nk) ∧ sI q.2 57 61 = Int32.ofNat w ∧ sI q.2 57 62 = -1 ∧ sI q.2 111 sg = 1 ∧ sI q.2 57 77 = sI m 57 77 + 1 ∧ sI q.2 57 81 = ams (sI m 57 81) 5 (Int32.ofNat w) (sI m 57 0) ∧ ∀ k j, ¬ (k = 57 ∧ (j = 60 ∨ j = 61 ∨ j = 62 ∨ j = 77 ∨ j = 81 ∨ j = 82)) → ¬ (k = 111 ∧ j = sg) → k ≠ 123 → k ≠ 124 → k ≠ 125 → sI q.2 k j = sI m k j) := by
  have nm1 : ∀ z : Nat, z ≤ 1000 → ¬ Int32.ofNat z = (-1 : Int32) := fun z hz q => by
    have := congrArg Int32.toInt q
    rw [oiq (by omega), show (-1 : Int32).toInt = -1 from by decide] at this
    omega
  -- the end: who waits signs
  have fin : ∀ M : AS, MF M → ∀ nk' : Int32, sI M 57 62 = Int32.ofNat w → sI M 57 60 = nk' → sI M 57 82 = 0 → sI M 111 sg = 1 → (∀ k j, ¬ (k = 57 ∧ (j = 60 ∨ j = 62 ∨ j = 82)) → ¬ (k = 111 ∧ j = sg) → sI M k j = sI m k j) → Hp (f_M_emergency_B67 M (some 57)) (fun q => q.1 = Int32.ofNat w ∧ sI q.2 57 82 = 0 ∧ sI q.2 57 60 = nk' ∧ sI q.2 57 61 = Int32.ofNat w ∧ sI q.2 57 62 = -1 ∧ sI q.2 111 sg = 1 ∧ sI q.2 57 77 = sI m 57 77 + 1 ∧ sI q.2 57 81 = ams (sI m 57 81) 5 (Int32.ofNat w) (sI m 57 0) ∧ ∀ k j, ¬ (k = 57 ∧ (j = 60 ∨ j = 61 ∨ j = 62 ∨ j = 77 ∨ j = 81 ∨ j = 82)) → ¬ (k = 111 ∧ j = sg) → k ≠ 123 → k ≠ 124 → k ≠ 125 → sI q.2 k j = sI m k j) := fun M hM nk' e62 e60 e82 e111 eo => by
    unfold f_M_emergency_B67
    refine p_of (st_gIe e62) (p_of st_pI (p_of st_pI (p_of (st_gIe (v := Int32.ofNat w) (by rw [ti_sI_ne (by omega), ti_sI_eq])) (p_of st_rv ?_))))
    obtain ⟨M1, e1⟩ : ∃ M1, M1 = wI (wI M 57 61 (Int32.ofNat w)) 57 62 (-1) := ⟨_, rfl⟩
    rw [← e1]
    have hM1 : MF M1 := by rw [e1]; exact MF_e hM rfl
    have p1 : ∀ k j, ¬ (k = 57 ∧ (j = 61 ∨ j = 62)) → sI M1 k j = sI M k j := fun k j z => by rw [e1, ti_sI_ne (by omega), ti_sI_ne (by omega)]
    have e61 : sI M1 57 61 = Int32.ofNat w := by rw [e1, ti_sI_ne (by omega), ti_sI_eq]
    have e62' : sI M1 57 62 = -1 := by rw [e1, ti_sI_eq]
    refine p_bd (p_mw hM1) (fun M2 aw => ?_)
    have p2 := aw.1.2.2
    refine p_of (st_gIe ((p2 57 61 (by omega) (by omega) (by omega) (by omega)).trans e61)) (p_ret ⟨rfl, ?_, ?_, ?_, ?_, ?_, ?_, ?_, fun k j z1 z2 z3 z4 z5 => ?_⟩)
    · exact (p2 57 82 (by omega) (by omega) (by omega) (by omega)).trans ((p1 57 82 (by omega)).trans e82)
    · exact (p2 57 60 (by omega) (by omega) (by omega) (by omega)).trans ((p1 57 60 (by omega)).trans e60)
    · exact (p2 57 61 (by omega) (by omega) (by omega) (by omega)).trans e61
    · exact (p2 57 62 (by omega) (by omega) (by omega) (by omega)).trans e62'
    · exact (p2 111 sg (by omega) (by omega) (by omega) (by omega)).trans ((p1 111 sg (by omega)).trans e111)
    · exact aw.2.2.2.1.trans (congrArg (fun z => z + 1) ((p1 57 77 (by omega)).trans (eo 57 77 (by omega) (by omega))))
    · refine aw.2.2.2.2.2.2.2.2.2.trans ?_
      rw [p1 57 81 (by omega), p1 57 0 (by omega), eo 57 81 (by omega) (by omega), eo 57 0 (by omega) (by omega)]
    · exact (p2 k j z3 z4 z5 (by omega)).trans ((p1 k j (by omega)).trans (eo k j (by omega) z2))
  have go : Hp (f_M_emergency_B18 m (some 57) (some 57)) (fun q => q.1 = Int32.ofNat w ∧ sI q.2 57 82 = 0 ∧ sI q.2 57 60 = (if sI m 57 62 = -1 then Int32.ofNat (nk + 1) else Int32.ofNat nk) ∧ sI q.2 57 61 = Int32.ofNat w ∧ sI q.2 57 62 = -1 ∧ sI q.2 111 sg = 1 ∧ sI q.2 57 77 = sI m 57 77 + 1 ∧ sI q.2 57 81 = ams (sI m 57 81) 5 (Int32.ofNat w) (sI m 57 0) ∧ ∀ k j, ¬ (k = 57 ∧ (j = 60 ∨ j = 61 ∨ j = 62 ∨ j = 77 ∨ j = 81 ∨ j = 82)) → ¬ (k = 111 ∧ j = sg) → k ≠ 123 → k ≠ 124 → k ≠ 125 → sI q.2 k j = sI m k j) := by
    obtain ⟨nk', en⟩ : ∃ nk', nk' = (if sI m 57 62 = -1 then Int32.ofNat (nk + 1) else Int32.ofNat nk) := ⟨_, rfl⟩
    rw [← en]
    unfold f_M_emergency_B18 f_M_emergency_B23
    refine p_of st_rv (p_b2 p_may (fun v m' q => ?_))
    rw [if_neg one0] at q
    obtain ⟨q1, q2⟩ := Prod.mk.inj q
    rw [q1]
    obtain ⟨m1, e1⟩ : ∃ m1, m1 = wI m 57 82 0 := ⟨_, rfl⟩
    rw [q2, ← e1]
    have hm1 : MF m1 := by rw [e1]; exact MF_e hmf rfl
    have o : ∀ k j, ¬ (k = 57 ∧ j = 82) → sI m1 k j = sI m k j := fun k j z => by rw [e1, ti_sI_ne z]
    refine p_of (st_F one0) (p_of (st_gRe (hm1 64 111 rfl)) (p_of (st_gIe ((o 57 61 (by omega)).trans h61)) (p_of (st_bZe (oc (by omega))) ?_)))
    obtain ⟨m2, e2⟩ : ∃ m2, m2 = wI m1 111 sg 1 := ⟨_, rfl⟩
    rw [← e2]
    have hm2 : MF m2 := by rw [e2]; exact MF_e hm1 rfl
    have o2 : ∀ k j, ¬ (k = 57 ∧ j = 82) → ¬ (k = 111 ∧ j = sg) → sI m2 k j = sI m k j := fun k j z1 z2 => by
      rw [e2, ti_sI_ne z2]
      exact o k j z1
    have m82 : sI m2 57 82 = 0 := by rw [e2, ti_sI_ne (by omega), e1, ti_sI_eq]
    have m111 : sI m2 111 sg = 1 := by rw [e2, ti_sI_eq]
    refine p_of (st_gIe (o2 57 62 (by omega) (by omega))) ?_
    rcases hw with ⟨hw, ew⟩ | ⟨hw, ew⟩
    · refine p_of (st_T hw) (p_of (st_gIe ((o2 57 60 (by omega) (by omega)).trans h60)) (p_of st_pI (p_of (st_gIe (v := Int32.ofNat nk) (by rw [ti_sI_ne (by omega)]; exact (o2 57 60 (by omega) (by omega)).trans h60)) (p_of st_pI ?_))))
      rw [o1]
      refine fin (wI (wI m2 57 62 (Int32.ofNat nk)) 57 60 (Int32.ofNat (nk + 1))) (MF_e hm2 rfl) _ ?_ ((ti_sI_eq _ _ _ _).trans (by rw [en, if_pos hw])) ?_ ?_ (fun k j z1 z2 => ?_)
      · rw [ti_sI_ne (by omega), ti_sI_eq, ew]
      · rw [ti_sI_ne (by omega), ti_sI_ne (by omega)]
        exact m82
      · rw [ti_sI_ne (by omega), ti_sI_ne (by omega)]
        exact m111
      · rw [ti_sI_ne (by omega), ti_sI_ne (by omega)]
        exact o2 k j (by omega) z2
    · have n62 : ¬ sI m 57 62 = -1 := by rw [hw]; exact nm1 w (by omega)
      exact p_of (st_F n62) (fin m2 hm2 _ ((o2 57 62 (by omega) (by omega)).trans hw) (((o2 57 60 (by omega) (by omega)).trans h60).trans (by rw [en, if_neg n62])) m82 m111 (fun k j z1 z2 => o2 k j (by omega) z2))
  unfold f_M_emergency
  refine p_of (st_gIe rfl) ?_
  by_cases c : sI m 57 62 = -1
  · exact p_of (st_T c) (p_of (st_gIe h60) (p_of (st_F (fun z => by have := (oleq (a := 20) (b := nk) (by omega) (by omega)).mp z; omega)) go))
  · exact p_of (st_F c) go
section
variable {n r : Nat} {T : Nat → Nat} {S : AS}
theorem l_turn (L : L54 n r T S) (hn : n ≤ 500) {y : Int32} : Ho (f_W_tokens S (some 4) (2 : Int32) y (some 127) (some 133) (some 134) (some 135) (some 136) (some 137) (some 138) (some 139) (some 140)) (G54 n r) := by
  obtain ⟨iv, rp, tl, pts, -, ns, nc, nf, nt, nk, na, lw⟩ := id L
  have lr := TL_LR iv.1 tl
  obtain ⟨⟨z1, z2, z3, z4, z5, -⟩, ⟨now, aud, key, -⟩, -, -, -, -, -, tok, out, -⟩ := id lw
  have nk10 := z5.2.2
  obtain ⟨r127, -, -, -, -, -, -, -, -, -, -, r138, -⟩ := id lr
  obtain ⟨⟨sg, hsg, s1, s2⟩, wt⟩ := id key
  unfold f_W_tokens
  refine r_ifF (by decide) (r_ifF (by decide) (r_ifT rfl (o_aIe r127 (n := 5) rfl (by decide) z5.1 ?_)))
  by_cases k10 : nk = 10
  · exact r_ifT (by rw [k10]; rfl) (G54_no L)
  · refine r_ifF (fun q => k10 (oinjq (a := nk) (b := 10) (by omega) (by omega) q)) (o_some 3 rfl (by decide) (by decide) (fun v _ => ?_))
    -- a key that turns by itself
    have turns : Ho (f_W_tokens_B809 S (some 4) (some 127) (some 138) (1 : Int32)) (G54 n r) := by
      unfold f_W_tokens_B809
      refine r_ifF one0 ?_
      rcases wt with ⟨w1, w2⟩ | ⟨w, hwk, w1, w2, w3, w4, w5⟩
      · refine o_aIe r127 (n := 7) rfl (by decide) w1 (r_ifT (by decide) ?_)
        unfold f_W_tokens_B841
        refine r_ifF one0 (o_aIe r127 (n := 5) rfl (by decide) z5.1 (o_bI r127 (n := 7) rfl (by decide) ?_))
        refine o_aIe r127.w (n := 0) rfl (by decide) ((ti_sI_ne (by omega)).trans now.1) (o_bI r127.w (n := 8) rfl (by decide) ?_)
        refine o_aIe (v := Int32.ofNat nk) r127.w.w (n := 5) rfl (by decide) (by rw [ti_sI_ne (by omega), ti_sI_ne (by omega)]; exact z5.1) (o_bI r127.w.w (n := 5) rfl (by decide) ?_)
        rw [o1]
        obtain ⟨Sa, ea⟩ : ∃ Sa, Sa = wI (wI (wI S 127 7 (Int32.ofNat (nk + 1))) 127 8 (sI S 57 0 + 5)) 127 5 (Int32.ofNat (nk + 1)) := ⟨_, rfl⟩
        rw [← ea]
        have la : LF S Sa := by rw [ea]; exact LF_w (LF_w (LF_w (LF_rf S) (by decide)) (by decide)) (by decide)
        have oa : ∀ k j, ¬ (k = 127 ∧ (j = 5 ∨ j = 7 ∨ j = 8)) → sI Sa k j = sI S k j := fun k j q => by rw [ea, ti_sI_ne (by omega), ti_sI_ne (by omega), ti_sI_ne (by omega)]
        have a7 : sI Sa 127 7 = Int32.ofNat (nk + 1) := by rw [ea, ti_sI_ne (by omega), ti_sI_ne (by omega), ti_sI_eq]
        have a8 : sI Sa 127 8 = sI S 57 0 + 5 := by rw [ea, ti_sI_ne (by omega), ti_sI_eq]
        have a5 : sI Sa 127 5 = Int32.ofNat (nk + 1) := by rw [ea, ti_sI_eq]
        obtain ⟨c', v, S1, S2, T1, e1, e2, g, an⟩ := tg_turn (a0 := (0 : Int32)) (LF_IV iv tl la) (by omega) (LF_RPF iv.1 tl rp la)
        have bh := PK_BH L la g (by decide +kernel) (by decide +kernel) (by decide +kernel)
        obtain ⟨-, -, -, -, kS, kS1, kG, mf⟩ := id bh
        have gk0 : GK S S1 := GK_tr (LF_GK la) kG
        obtain ⟨v1, v82, m60, m62, m63, om⟩ := (p_turn mf ((gk0 57 60 (by omega) (by omega) (by omega)).trans z5.2.1) nk10 _ e2).2 ((gk0 57 62 (by omega) (by omega) (by omega)).trans w2)
        have v1 : v = Int32.ofNat nk := v1
        have om : ∀ k j, ¬ (k = 57 ∧ (j = 60 ∨ j = 62 ∨ j = 63 ∨ j = 82)) → sI S2 k j = sI S1 k j := om
        have m63 : sI S2 57 63 = sI S1 57 0 + 5 := m63
        rw [gk0 57 0 (by omega) (by omega) (by omega)] at m63
        have s2' : ∀ k j, 127 ≤ k → k < 141 → sI S2 k j = sI Sa k j := fun k j h1 h2 => by rw [kS k h1 h2]
        have oM : ∀ k j, 57 ≤ k → k < 126 → ¬ (k = 57 ∧ (100 ≤ j ∨ j = 82)) → ¬ (k = 57 ∧ (j = 60 ∨ j = 62 ∨ j = 63)) → sI S2 k j = sI S k j := fun k j h1 h2 h3 h4 => (om k j (by omega)).trans (gk0 k j h1 h2 h3)
        have n5 : (sI S 57 0 + 5).toInt = (sI S 57 0).toInt + 5 := by
          have := now.2
          rw [Int32.toInt_add, show (5 : Int32).toInt = 5 from by decide, bm (by have := this.1; omega) (by have := this.2; omega)]
        have LL : L54 (n + 1) (r + 1) T1 S2 := BH_L bh (lPN_e pts (fun j => oM 73 j (by omega) (by omega) (by omega) (by omega)) (oM 57 0 (by omega) (by omega) (by omega) (by omega))) ⟨ns, nc, nf, nt, nk + 1, na, LWa_turn lw (fun k j h1 h2 h3 => (s2' k j h1 h2).trans (oa k j (by omega))) (fun k j h1 h2 h3 h4 => oM k j h1 h2 h3 (by omega)) (by omega) ⟨(s2' 127 5 (by omega) (by omega)).trans a5, m60, by omega⟩ ⟨⟨sg, by omega, ?_, ?_⟩, Or.inr ⟨nk, by omega, (s2' 127 7 (by omega) (by omega)).trans a7, m62, ?_, ?_, ?_⟩⟩⟩
        · refine o_b2 e1 (o_aIe (v := Int32.ofNat (nk + 1)) (TL_LR LL.1.1 LL.2.2.1).1 (n := 5) rfl (by decide) ((s2' 127 5 (by omega) (by omega)).trans a5) ?_)
          rw [qsub1]
          exact o_fin (by rw [ANc_0 an (by decide) v82, v1]) LL
        · exact (s2' 127 6 (by omega) (by omega)).trans ((oa 127 6 (by omega)).trans s1)
        · exact (oM 57 61 (by omega) (by omega) (by omega) (by omega)).trans s2
        · rw [s2' 127 8 (by omega) (by omega), a8, m63]
        · rw [m63, n5, oM 57 0 (by omega) (by omega) (by omega) (by omega)]
          omega
        · rw [m63, n5]
          have := now.2.2
          omega
      · have nz : ¬ Int32.ofNat (w + 1) ≤ 0 := fun q => by have := (oleq (a := w + 1) (b := 0) (by omega) (by omega)).mp q; omega
        refine o_aIe r127 (n := 7) rfl (by decide) w1 (r_ifF nz ?_)
        obtain ⟨c', v, S1, S2, T1, e1, e2, g, an⟩ := tg_turn (a0 := (0 : Int32)) iv (by omega) rp
        have bh := PK_BH L (LF_rf S) g (by decide +kernel) (by decide +kernel) (by decide +kernel)
        obtain ⟨-, -, -, -, kS, kS1, kG, mf⟩ := id bh
        obtain ⟨t, gk2⟩ := (p_turn mf ((kG 57 60 (by omega) (by omega) (by omega)).trans z5.2.1) nk10 _ e2).1 (fun q => by
          have q := (kG 57 62 (by omega) (by omega) (by omega)).symm.trans q
          have := congrArg Int32.toInt (w2.symm.trans q)
          rw [oiq (by omega), show (-1 : Int32).toInt = -1 from by decide] at this
          omega)
        have gk : GK S S2 := GK_tr kG gk2
        exact o_b2 e1 (o_fin (ANc_k an (by decide) 0 rfl t) (BH_L bh (lPN_e pts (fun j => gk 73 j (by omega) (by omega) (by omega)) (gk 57 0 (by omega) (by omega) (by omega))) ⟨ns, nc, nf, nt, nk, na, LW_cong2 lw kS gk⟩))
    -- an emergency
    have emer : Ho (f_W_tokens_B809 S (some 4) (some 127) (some 138) (0 : Int32)) (G54 n r) := by
      unfold f_W_tokens_B809
      refine r_ifT rfl ?_
      unfold f_W_tokens_B841
      refine r_ifT rfl (o_aIe r127 (n := 6) rfl (by decide) s1 (o_bI r138 (n := 2 * sg) (wmul 2 sg) (by omega) ?_))
      obtain ⟨Sb, eb⟩ : ∃ Sb, Sb = wI S 138 (2 * sg) 1 := ⟨_, rfl⟩
      rw [← eb]
      have lb : LF S Sb := by rw [eb]; exact LF_w (LF_rf S) (by decide)
      have ob : ∀ k j, ¬ (k = 138 ∧ j = 2 * sg) → sI Sb k j = sI S k j := fun k j q => by rw [eb, ti_sI_ne q]
      have rb := lb.Rw r127
      -- who signs, how many there are
      have fin : ∀ (w nk' : Nat) (y3 : Int32), w < nk' → nk ≤ nk' → nk' ≤ 10 → Int32.ofNat nk + y3 = Int32.ofNat nk' → ((sI S 57 62 = -1 ∧ w = nk ∧ nk' = nk + 1) ∨ (sI S 57 62 = Int32.ofNat w ∧ nk' = nk)) → Ho ((bI Sb (some 127) (6 : Int32) (Int32.ofNat w)).bind fun S73 => f_W_tokens_B940 S73 (some 4) (some 127) (some 127) (5 : Int32) (Int32.ofNat nk) y3) (G54 n r) := fun w nk' y3 hw hk hk10 hy hc => by
        refine o_bI rb (n := 6) rfl (by decide) ?_
        unfold f_W_tokens_B940
        rw [hy]
        refine o_bI rb.w (n := 5) rfl (by decide) (o_bI rb.w.w (n := 7) rfl (by decide) (o_aIe (v := Int32.ofNat w) rb.w.w.w (n := 6) rfl (by decide) (by rw [ti_sI_ne (by omega), ti_sI_ne (by omega), ti_sI_eq]) (o_bd (x_writes rb.w.w.w) ?_)))
        obtain ⟨Sc, ec⟩ : ∃ Sc, Sc = wI (wI (wI Sb 127 6 (Int32.ofNat w)) 127 5 (Int32.ofNat nk')) 127 7 0 := ⟨_, rfl⟩
        rw [← ec]
        have lc : LF S Sc := by rw [ec]; exact LF_w (LF_w (LF_w lb (by decide)) (by decide)) (by decide)
        have oc' : ∀ k j, ¬ (k = 127 ∧ (j = 5 ∨ j = 6 ∨ j = 7)) → ¬ (k = 138 ∧ j = 2 * sg) → sI Sc k j = sI S k j := fun k j q1 q2 => by
          rw [ec, ti_sI_ne (by omega), ti_sI_ne (by omega), ti_sI_ne (by omega)]
          exact ob k j q2
        obtain ⟨Sa, ea⟩ : ∃ Sa, Sa = wI (wI Sc 127 9 (sI Sc 127 9 + 1)) 127 10 (ams (sI Sc 127 10) 5 (Int32.ofNat w) (sI Sc 127 0)) := ⟨_, rfl⟩
        rw [← ea]
        have la : LF S Sa := by rw [ea]; exact LF_w (LF_w lc (by decide)) (by decide)
        have oa : ∀ k j, ¬ (k = 127 ∧ (j = 9 ∨ j = 10)) → sI Sa k j = sI Sc k j := fun k j q => by rw [ea, ti_sI_ne (by omega), ti_sI_ne (by omega)]
        have a9 : sI Sa 127 9 = sI S 127 9 + 1 := by rw [ea, ti_sI_ne (by omega), ti_sI_eq, oc' 127 9 (by omega) (by omega)]
        have a10 : sI Sa 127 10 = ams (sI S 127 10) 5 (Int32.ofNat w) (sI S 127 0) := by rw [ea, ti_sI_eq, oc' 127 10 (by omega) (by omega), oc' 127 0 (by omega) (by omega)]
        have a6 : sI Sa 127 6 = Int32.ofNat w := by rw [oa 127 6 (by omega), ec, ti_sI_ne (by omega), ti_sI_ne (by omega), ti_sI_eq]
        have a5 : sI Sa 127 5 = Int32.ofNat nk' := by rw [oa 127 5 (by omega), ec, ti_sI_ne (by omega), ti_sI_eq]
        have a7 : sI Sa 127 7 = 0 := by rw [oa 127 7 (by omega), ec, ti_sI_eq]
        have k1 : sI Sa 138 (2 * sg) = 1 := by rw [oa 138 _ (by omega), ec, ti_sI_ne (by omega), ti_sI_ne (by omega), ti_sI_ne (by omega), eb, ti_sI_eq]
        obtain ⟨c', v, S1, S2, T1, e1, e2, g, an⟩ := tg_emergency (a0 := (0 : Int32)) (LF_IV iv tl la) (by omega) (LF_RPF iv.1 tl rp la)
        have bh := PK_BH L la g (by decide +kernel) (by decide +kernel) (by decide +kernel)
        obtain ⟨-, -, -, -, kS, kS1, kG, mf⟩ := id bh
        have gk0 : GK S S1 := GK_tr (LF_GK la) kG
        have e62 := gk0 57 62 (by omega) (by omega) (by omega)
        obtain ⟨v1, v82, m60, m61, m62, m111, m77, m81, om⟩ := p_emergency (w := w) mf ((gk0 57 60 (by omega) (by omega) (by omega)).trans z5.2.1) nk10 ((gk0 57 61 (by omega) (by omega) (by omega)).trans s2) (by omega) (by
          rcases hc with ⟨h1, h2, -⟩ | ⟨h1, h2⟩
          · exact Or.inl ⟨e62.trans h1, h2⟩
          · exact Or.inr ⟨e62.trans h1, by omega⟩) _ e2
        have v1 : v = Int32.ofNat w := v1
        have m60' : sI S2 57 60 = Int32.ofNat nk' := by
          refine m60.trans ?_
          rw [e62]
          rcases hc with ⟨h1, -, h3⟩ | ⟨h1, h2⟩
          · rw [if_pos h1, h3]
          · rw [if_neg (fun q => by
              have := congrArg Int32.toInt (h1.symm.trans q)
              rw [oiq (by omega), show (-1 : Int32).toInt = -1 from by decide] at this
              omega), h2]
        have om : ∀ k j, ¬ (k = 57 ∧ (j = 60 ∨ j = 61 ∨ j = 62 ∨ j = 77 ∨ j = 81 ∨ j = 82)) → ¬ (k = 111 ∧ j = sg) → k ≠ 123 → k ≠ 124 → k ≠ 125 → sI S2 k j = sI S1 k j := om
        have s2' : ∀ k j, 127 ≤ k → k < 141 → sI S2 k j = sI Sa k j := fun k j h1 h2 => by rw [kS k h1 h2]
        have oM : ∀ k j, 57 ≤ k → k < 126 → ¬ (k = 57 ∧ (100 ≤ j ∨ j = 82)) → ¬ (k = 57 ∧ (j = 60 ∨ j = 61 ∨ j = 62 ∨ j = 77 ∨ j = 81)) → ¬ (k = 111 ∧ j = sg) → k ≠ 123 → k ≠ 124 → k ≠ 125 → sI S2 k j = sI S k j := fun k j h1 h2 h3 h4 h5 h6 h7 h8 => (om k j (by omega) h5 h6 h7 h8).trans (gk0 k j h1 h2 h3)
        have oW : ∀ k j, 127 ≤ k → k < 141 → ¬ (k = 127 ∧ (j = 5 ∨ j = 6 ∨ j = 7 ∨ j = 9 ∨ j = 10)) → ¬ (k = 138 ∧ j = 2 * sg) → sI S2 k j = sI S k j := fun k j h1 h2 h3 h4 => (s2' k j h1 h2).trans ((oa k j (by omega)).trans (oc' k j (by omega) h4))
        have LL : L54 (n + 1) (r + 1) T1 S2 := BH_L bh (lPN_e pts (fun j => oM 73 j (by omega) (by omega) (by omega) (by omega) (by omega) (by omega) (by omega) (by omega)) (oM 57 0 (by omega) (by omega) (by omega) (by omega) (by omega) (by omega) (by omega) (by omega))) ⟨ns, nc, nf, nt, nk', na, LWa_emergency lw (fun k j h1 h2 h3 => oW k j h1 h2 (by omega) (by omega)) (fun k j h1 h2 h3 h4 => oM k j h1 h2 h3 (by omega) (by omega) (by omega) (by omega) (by omega)) hk ⟨(s2' 127 5 (by omega) (by omega)).trans a5, m60', hk10⟩ ⟨⟨w, hw, (s2' 127 6 (by omega) (by omega)).trans a6, m61⟩, Or.inl ⟨(s2' 127 7 (by omega) (by omega)).trans a7, m62⟩⟩ (fun i hi => ?_) ⟨?_, ?_⟩⟩
        · refine o_b2 e1 (o_aIe (v := Int32.ofNat w) (TL_LR LL.1.1 LL.2.2.1).1 (n := 6) rfl (by decide) ((s2' 127 6 (by omega) (by omega)).trans a6) ?_)
          exact o_fin (by rw [ANc_0 an (by decide) v82, v1]) LL
        · obtain ⟨x1, x2⟩ := out i hi
          rw [oW 138 (2 * i + 1) (by omega) (by omega) (by omega) (by omega), oM 112 i (by omega) (by omega) (by omega) (by omega) (by omega) (by omega) (by omega) (by omega)]
          refine ⟨?_, x2⟩
          by_cases e : i = sg
          · rw [e, s2' 138 _ (by omega) (by omega), k1, m111]
            exact ⟨rfl, Or.inr rfl⟩
          · rw [oW 138 _ (by omega) (by omega) (by omega) (by omega), oM 111 i (by omega) (by omega) (by omega) (by omega) (by omega) (by omega) (by omega) (by omega)]
            exact x1
        · rw [s2' 127 9 (by omega) (by omega), a9, aud.1]
          refine Eq.trans ?_ m77.symm
          rw [gk0 57 77 (by omega) (by omega) (by omega)]
        · rw [s2' 127 10 (by omega) (by omega), a10, aud.2, now.1]
          refine Eq.trans ?_ m81.symm
          rw [gk0 57 81 (by omega) (by omega) (by omega), gk0 57 0 (by omega) (by omega) (by omega)]
      have b7 := ob 127 7 (by omega)
      have b5 : sI Sb 127 5 = Int32.ofNat nk := (ob 127 5 (by omega)).trans z5.1
      rcases wt with ⟨w1, w2⟩ | ⟨w, hwk, w1, w2, w3, w4, w5⟩
      · refine o_aIe rb (n := 7) rfl (by decide) (b7.trans w1) (r_ifT (by decide) (o_aIe rb (n := 5) rfl (by decide) b5 ?_))
        unfold f_W_tokens_B923
        have f := fin nk (nk + 1) 1 (by omega) (by omega) (by omega) (o1 nk) (Or.inl ⟨w2, rfl, rfl⟩)
        rw [Rw_bI rb (n := 6) (i := (6 : Int32)) rfl (by decide), Option.bind_some] at f ⊢
        exact o_aIe rb.w (n := 5) rfl (by decide) ((ti_sI_ne (by omega)).trans b5) (o_aIe rb.w (n := 7) rfl (by decide) ((ti_sI_ne (by omega)).trans (b7.trans w1)) (r_ifT (by decide) f))
      · have nz : ¬ Int32.ofNat (w + 1) ≤ 0 := fun q => by have := (oleq (a := w + 1) (b := 0) (by omega) (by omega)).mp q; omega
        refine o_aIe rb (n := 7) rfl (by decide) (b7.trans w1) (r_ifF nz (o_aIe rb (n := 7) rfl (by decide) (b7.trans w1) ?_))
        rw [qsub1]
        unfold f_W_tokens_B923
        have f := fin w nk 0 hwk (by omega) nk10 (Int32.add_zero _) (Or.inr ⟨w2, rfl⟩)
        rw [Rw_bI rb (n := 6) (i := (6 : Int32)) rfl (by decide), Option.bind_some] at f ⊢
        exact o_aIe rb.w (n := 5) rfl (by decide) ((ti_sI_ne (by omega)).trans b5) (o_aIe rb.w (n := 7) rfl (by decide) ((ti_sI_ne (by omega)).trans (b7.trans w1)) (r_ifF nz f))
    by_cases c : Int32.ofNat v ≤ 0
    · exact r_ifT c emer
    · exact r_ifF c turns
end
theorem p_check_none {m : AS} {s t nt a : Nat} (h52 : sI m 57 52 = Int32.ofNat nt) (t20 : nt ≤ 20) (ht : t = nt) (s4 : s < 4) (a4 : a < 4) : Hp (f_M_check m (some 57) (Int32.ofNat s) (Int32.ofNat t) (Int32.ofNat a)) (fun q => sI q.2 57 82 = Int32.ofNat 1 ∧ GK m q.2) := by
  unfold f_M_check
  refine p_of (st_b2 (q_ser m _)) ?_
  rw [if_pos (in3 s4)]
  refine p_of (st_F one0) (p_of st_rv (p_b2 (p_isTk h52 (by omega) (by omega)) (fun x m' q => ?_)))
  obtain ⟨q1, q2⟩ := Prod.mk.inj q
  rw [q2]
  rw [if_neg (by omega)] at q1
  rw [q1]
  refine p_of (st_T rfl) ?_
  unfold f_M_check_B19 f_M_check_B20
  refine p_of (st_b2 (q_isIn m _ _ _)) (p_of st_rv (p_b2 p_mayB (fun x m' q => ?_)))
  rw [if_pos rfl] at q
  obtain ⟨q1, q2⟩ := Prod.mk.inj q
  rw [q1, q2]
  exact p_of (st_T rfl) (p_ret ⟨ti_sI_eq _ _ _ _, GK_82 _ _⟩)
section
variable {n r : Nat} {T : Nat → Nat} {S : AS}
theorem l_check (L : L54 n r T S) (hn : n ≤ 500) {y : Int32} : Ho (f_W_tokens S (some 4) (4 : Int32) y (some 127) (some 133) (some 134) (some 135) (some 136) (some 137) (some 138) (some 139) (some 140)) (G54 n r) := by
  obtain ⟨iv, rp, tl, pts, -, ns, nc, nf, nt, nk, na, lw⟩ := id L
  have lr := TL_LR iv.1 tl
  obtain ⟨⟨z1, z2, z3, z4, z5, -⟩, ⟨now, aud, key, -⟩, -, -, -, -, -, tok, out, ⟨srv, tol⟩, -⟩ := id lw
  have nt20 := z4.2.2
  obtain ⟨r127, -, -, -, -, -, -, -, -, -, r137, r138, r139, -⟩ := id lr
  unfold f_W_tokens
  refine r_ifF (by decide) (r_ifF (by decide) (r_ifF (by decide) (o_some 4 rfl (by decide) (by decide) (fun sv s4 => r_ifF (by decide) (o_aIe r127 (n := 4) rfl (by decide) z4.1 (o_some (nt + 1) (o1 nt) (by omega) (by omega) (fun t ht => o_aIe r127 (n := 4) rfl (by decide) z4.1 ?_)))))))
  have fin : ∀ s, s < 4 → Ho (f_W_tokens_B1249 S (some 4) y (some 127) (some 137) (some 138) (some 139) (Int32.ofNat t) (Int32.ofNat s)) (G54 n r) := fun s s4 => by
    unfold f_W_tokens_B1249
    refine o_some 4 rfl (by decide) (by decide) (fun a a4 => ?_)
    obtain ⟨c', v, S1, S2, T1, e1, e2, g, an⟩ := tg_check (a0 := Int32.ofNat s) (a1 := Int32.ofNat t) (a2 := Int32.ofNat a) iv (by omega) rp
    have bh := PK_BH L (LF_rf S) g (by decide +kernel) (by decide +kernel) (by decide +kernel)
    obtain ⟨iv2, -, tl2, -, kS, kS1, kG, mf⟩ := id bh
    have lr2 := TL_LR iv2.1 tl2
    refine o_b2 e1 (o_aIe (v := Int32.ofNat nt) lr2.1 (n := 4) rfl (by decide) ((by rw [kS 127 (by omega) (by omega)]; exact z4.1)) ?_)
    by_cases c : t = nt
    · obtain ⟨t1, gk2⟩ := p_check_none ((kG 57 52 (by omega) (by omega) (by omega)).trans z4.2.1) nt20 c s4 a4 _ e2
      have gk : GK S S2 := GK_tr kG gk2
      refine r_ifT (by rw [c]) ?_
      unfold f_W_tokens_B1302
      exact o_fin (ANc_k an (by decide) 0 rfl t1) (BH_L bh (lPN_e pts (fun j => gk 73 j (by omega) (by omega) (by omega)) (gk 57 0 (by omega) (by omega) (by omega))) ⟨ns, nc, nf, nt, nk, na, LW_cong2 lw kS gk⟩)
    · refine r_ifF (fun q => c (oinjq (by omega) (by omega) q)) ?_
      have lw1 : LW ns nc nf nt nk na S2 S1 := LW_cong2 lw kS kG
      obtain ⟨⟨-, -, y3, y4, y5, -⟩, ⟨ynow, -⟩, -, -, -, -, -, ytok, yout, ⟨ysrv, ytol⟩, -⟩ := id lw1
      obtain ⟨b, eb, b1, lb, ob, ⟨-, -, om⟩, srv2, v82⟩ := g_checked (a := a) lr2 mf ynow ytok y4 y5 y3.2.2 yout ysrv ytol s4 (by omega) a4 _ e2
      obtain ⟨x, S3⟩ := b
      have b1 : x = v := b1
      have lb : LF S2 S3 := lb
      have ob : ∀ q j, ¬ (q = 139 ∧ (j = 4 * s + 1 ∨ j = 4 * s + 2)) → sI S3 q j = sI S2 q j := ob
      have om : ∀ q j, ¬ (q = 57 ∧ j = 82) → ¬ ((q = 114 ∨ q = 115) ∧ j = s) → sI S2 q j = sI S1 q j := om
      have srv2 : lSrv S3 S2 := srv2
      have lw3 : LW ns nc nf nt nk na S3 S2 := LWa_check lw1 (fun k j h1 h2 h3 => ob k j (by omega)) (fun k j h1 h2 h3 h4 => om k j (by omega) (by omega)) srv2
      have lw4 : LW ns nc nf nt nk na S3 S3 := LW_cong2 lw3 (fun _ _ _ => rfl) (LF_GK lb)
      have v82 : sI S2 57 82 = 0 := v82
      have g0 : ∀ k j, k = 73 ∨ (k = 57 ∧ j = 0) → sI S3 k j = sI S k j := fun k j h => by
        rw [LF_GK lb k j (by omega) (by omega) (by omega), om k j (by omega) (by omega)]
        exact kG k j (by omega) (by omega) (by omega)
      refine o_b2 eb ?_
      unfold f_W_tokens_B1302
      exact o_fin (by rw [ANc_0 an (by decide) v82, b1]) (BH_LF bh lb (lPN_e pts (fun j => g0 73 j (Or.inl rfl)) (g0 57 0 (Or.inr ⟨rfl, rfl⟩))) ⟨ns, nc, nf, nt, nk, na, lw4⟩)
  have own : Ho (f_W_tokens_B1247 S (some 4) y (some 127) (some 137) (some 138) (some 139) (Int32.ofNat sv) (Int32.ofNat t)) (G54 n r) := by
    unfold f_W_tokens_B1247
    exact fin sv s4
  by_cases c : t < nt
  · refine r_ifF (fun q => by have := (oleq (a := nt) (b := t) (by omega) (by omega)).mp q; omega) (o_some 5 rfl (by decide) (by decide) (fun u _ => ?_))
    by_cases d : Int32.ofNat u ≤ 0
    · exact r_ifT d own
    · obtain ⟨⟨cl, ao, ac, sc, cl4, ao4, ac4, sc16, t1, -⟩, -⟩ := tok t c
      refine r_ifF d (o_aIe r137 (n := 3 * t) (wmul 3 t) (by omega) t1 (r_val ?_))
      rw [(tk_all cl cl4 ao ao4 ac ac4 sc sc16).1]
      exact fin ao ao4
  · exact r_ifT ((oleq (by omega) (by omega)).mpr (by omega)) own
end
