/-! ===== the calls of the law's start ===== -/
theorem tg_step {n m : Nat} {T : Nat → Nat} {S : AS} {a b c y z : Int32} (hI : IV n T S) (hn : n ≤ 600) (hr : RPF T S) (hm : sI S 66 8 = Int32.ofNat m) (m12 : m < 12) (ok : OKS a b c y z) : ∃ S1 S2 T1, f_W_addsg S (some 4) a b c y z = some (Int32.ofNat m, S2) ∧ PKg n T kw_K13 kw_st S S1 T1 S2 ∧ STP S1 S2 m a b c y z := by
  have q1 : Tx T 1 (some 4) := ⟨4, rfl, hI.1.t9.2.2.2.2.1, by decide⟩
  have q57 : Tx T 100 (some 57) := ⟨57, rfl, hI.1.t9.1, by decide⟩
  obtain ⟨⟨r, S1⟩, e1, T1, g1⟩ : Ho (f_K_step S (some 4) a b c y z) (fun q => PW T kw_K13 S 10 700 q.2) := kk_X (t_K_step hI.1 q1) (by decide) (by decide)
  have g1 : Rl T (99999 :: kw_K13) S 10 700 T1 S1 := g1
  have f1 : FT S1 := FT_fr hI.2.2.2.1 g1 (by decide +kernel)
  have i1 := IV_K hI g1 q57 (by decide +kernel)
  obtain ⟨⟨v, S2⟩, e2, g2, m2⟩ := mm_step (a1 := a) (a2 := b) (a3 := c) (a4 := y) (a5 := z) g1.1 (q57.up g1.ty) i1.1 (by have := i1.2; omega)
  have g2 : Rl T1 kw_st S1 1 0 T1 S2 := g2
  have iv : IV (n + 1) T1 S2 := IV_M hI g1 i1.2 f1 g2 m2 (by decide +kernel)
  obtain ⟨an, rp⟩ := px_step hI hr e1 g1 e2 g2
  have k66 : sI S1 66 8 = Int32.ofNat m := (K_gh hI.1 g1 (by decide +kernel) 66 8 (by omega) (by omega) (by omega)).trans hm
  obtain ⟨q2, hq2, -, p2⟩ := t_M_stepX (k := a) (a := b) (b := c) (y := y) (z := z) g1.1 (q57.up g1.ty) (n := m) (by omega) (by rw [k66, oiq (by omega)])
  rw [e2] at hq2
  cases hq2
  rcases p2 with ⟨no, -⟩ | ⟨-, h12, -⟩ | ⟨-, -, ev, st⟩
  · exact absurd ok no
  · omega
  · have ev : v = Int32.ofNat m := ev
    have st : STP S1 S2 m a b c y z := st
    have t0 : sI S2 57 82 = 0 := by rw [st 57 82, if_pos ⟨rfl, rfl⟩]
    have er : r = .inl (Int32.ofNat m) := by
      rcases an with ⟨w, hw, -, hv⟩ | ⟨i, e, hi, -, ti⟩
      · rw [hw, ← ev, hv]
      · rw [t0] at ti
        have : i < 2 := by
          match i, hi with
          | 0, _ => decide
          | 1, _ => decide
        have := oinjq (a := 0) (b := i + 1) (by omega) (by omega) ti
        omega
    rw [er] at e1
    have k4 := tg_k4 hI.1
    have eg : gm S1 S2 = S2 := (g_f_M_step _ _ _ _ _ _ _ (GF_rf S1) _ e2 : GF S1 S2).symm
    have eM : gg_W_adds S1 a b c y z = S2 := by
      unfold gg_W_adds
      rw [e2]
      exact eg
    have e0 : f_W_adds S (some 4) a b c y z = some (Int32.ofNat m, S1) := by
      unfold f_W_adds
      rw [k4, Option.bind_some, e1]
      rfl
    refine ⟨S1, S2, T1, ?_, ⟨g1, g2, g_f_M_step _ _ _ _ _ _ _ (GF_rf S1) _ e2, iv, rp⟩, st⟩
    unfold f_W_addsg
    rw [e0]
    exact congrArg (fun z => some (Int32.ofNat m, z)) eM
theorem tg_pub {n m : Nat} {T : Nat → Nat} {S : AS} {a0 : Int32} (hI : IV n T S) (hn : n ≤ 600) (hr : RPF T S) (hm : sI S 66 8 = Int32.ofNat m) (m12 : m ≤ 12) (h9 : sI S 57 9 = 0) : ∃ c S1 S2 T1, f_W_noneg S (some 4) (8 : Int32) a0 = some (c, S2) ∧ PKg n T kw_K44 (10082 :: kw_pub) S S1 T1 S2 ∧ ((PUB S1 m ∧ c = 0 ∧ PUBS (wI S1 57 82 0) S2 0 m) ∨ (¬ PUB S1 m ∧ c = -1003 ∧ S2 = wI S1 57 82 1)) := by
  have q1 : Tx T 1 (some 4) := ⟨4, rfl, hI.1.t9.2.2.2.2.1, by decide⟩
  have q57 : Tx T 100 (some 57) := ⟨57, rfl, hI.1.t9.1, by decide⟩
  obtain ⟨⟨r, S1⟩, e1, T1, g1⟩ : Ho (f_K_publish S (some 4)) (fun q => PW T kw_K44 S 10 700 q.2) := kk_Y (t_K_publish hI.1 q1) (by decide) (by decide)
  have g1 : Rl T (99999 :: kw_K44) S 10 700 T1 S1 := g1
  have f1 : FT S1 := FT_fr hI.2.2.2.1 g1 (by decide +kernel)
  have i1 := IV_K hI g1 q57 (by decide +kernel)
  obtain ⟨⟨v, S2⟩, e2, g2, m2⟩ := mm_publish g1.1 (q57.up g1.ty) i1.1 (by have := i1.2; omega)
  have g2 : Rl T1 (10082 :: kw_pub) S1 1 0 T1 S2 := g2
  have iv : IV (n + 1) T1 S2 := IV_M hI g1 i1.2 f1 g2 m2 (by decide +kernel)
  obtain ⟨an, rp⟩ := px_publish hI hr e1 g1 e2 g2
  have kg := K_gh hI.1 g1 (by decide +kernel)
  have k66 : sI S1 66 8 = Int32.ofNat m := (kg 66 8 (by omega) (by omega) (by omega)).trans hm
  obtain ⟨q2, hq2, -, p2⟩ := t_M_publish g1.1 (q57.up g1.ty) i1.1.1 (n := m) (v := 0) m12 (by rw [k66, oiq (by omega)]) ((kg 57 9 (by omega) (by omega) (by omega)).trans h9) (by decide)
  rw [e2] at hq2
  cases hq2
  have k4 := tg_k4 hI.1
  have eg : gm S1 S2 = S2 := (g_f_M_publish _ _ (GF_rf S1) _ e2 : GF S1 S2).symm
  have eM : gg_W_none S1 (8 : Int32) a0 = S2 := by
    unfold gg_W_none
    rw [if_neg (by decide), if_neg (by decide), if_neg (by decide), if_neg (by decide), if_neg (by decide), if_neg (by decide), if_neg (by decide), if_neg (by decide), e2]
    exact eg
  have eW : ∀ c, f_W_none S (some 4) (8 : Int32) a0 = some (c, S1) → f_W_noneg S (some 4) (8 : Int32) a0 = some (c, S2) := fun c h => by
    unfold f_W_noneg
    rw [h]
    exact congrArg (fun z => some (c, z)) eM
  have e0 : f_W_none S (some 4) (8 : Int32) a0 = kr_bh (f_K_publish S (some 4)) (fun E S2 => th_AS E S2) (fun v S2 => some (v, S2)) := by
    unfold f_W_none
    rw [if_neg (by decide), if_neg (by decide), if_neg (by decide), if_neg (by decide), if_neg (by decide), if_neg (by decide), if_neg (by decide), if_neg (by decide), k4]
    rfl
  rw [e1] at e0
  have PK : PKg n T kw_K44 (10082 :: kw_pub) S S1 T1 S2 := ⟨g1, g2, g_f_M_publish _ _ (GF_rf S1) _ e2, iv, rp⟩
  rcases p2 with ⟨yp, ev, hp⟩ | ⟨np, hp⟩
  · have ev : v = 0 := ev
    have hp : PUBS (wI S1 57 82 0) S2 0 m := hp
    have t0 : sI S2 57 82 = 0 := by rw [hp 57 82, if_neg (by omega), if_neg (by omega), if_neg (by omega), if_neg (by omega), ti_sI_eq]
    rcases an with ⟨w, rfl, -, hv⟩ | ⟨i, e, hi, -, ti⟩
    · exact ⟨w, S1, S2, T1, eW _ e0, PK, Or.inl ⟨yp, hv.trans ev, hp⟩⟩
    · rw [t0] at ti
      have : i < 1 := by
        match i, hi with
        | 0, _ => decide
      have := oinjq (a := 0) (b := i + 1) (by omega) (by omega) ti
      omega
  · obtain ⟨-, e22⟩ := Prod.mk.inj hp
    have t0 : sI S2 57 82 = 1 := by rw [e22, ti_sI_eq]
    rcases an with ⟨w, rfl, t1, hv⟩ | ⟨i, e, hi, rfl, ti⟩
    · rw [t0] at t1
      exact absurd t1 (by decide)
    · match i, hi, ti with
      | 0, hi, ti =>
        have hi : some eS = some e := hi
        cases hi
        exact ⟨_, S1, S2, T1, eW _ (e0.trans (th_AS_S S1)), PK, Or.inr ⟨np, rfl, e22⟩⟩
      | i + 1, hi, _ =>
        have hi : (none : Option String) = some e := hi
        cases hi
theorem tg_clear {n : Nat} {T : Nat → Nat} {S : AS} {a0 : Int32} (hI : IV n T S) (hn : n ≤ 600) (hr : RPF T S) (hm : sI S 66 8 = 0) : ∃ S1 S2 T1, f_W_noneg S (some 4) (7 : Int32) a0 = some (0, S2) ∧ PKg n T kw_K42 kw_st S S1 T1 S2 ∧ S2 = wI (wI S1 57 82 0) 66 8 0 := by
  have q1 : Tx T 1 (some 4) := ⟨4, rfl, hI.1.t9.2.2.2.2.1, by decide⟩
  have q57 : Tx T 100 (some 57) := ⟨57, rfl, hI.1.t9.1, by decide⟩
  obtain ⟨⟨r, S1⟩, e1, T1, g1⟩ : Ho (f_K_clear S (some 4)) (fun q => PW T kw_K42 S 10 700 q.2) := kk_R (t_K_clear hI.1 q1) (by decide) (by decide)
  have g1 : Rl T (99999 :: kw_K42) S 10 700 T1 S1 := g1
  have f1 : FT S1 := FT_fr hI.2.2.2.1 g1 (by decide +kernel)
  have i1 := IV_K hI g1 q57 (by decide +kernel)
  obtain ⟨⟨v, S2⟩, e2, g2, m2⟩ := mm_clear g1.1 (q57.up g1.ty) i1.1 (by have := i1.2; omega)
  have g2 : Rl T1 kw_st S1 1 0 T1 S2 := g2
  have iv : IV (n + 1) T1 S2 := IV_M hI g1 i1.2 f1 g2 m2 (by decide +kernel)
  obtain ⟨an, rp⟩ := pr_clear hI hr e1 g1 e2 g2
  have kg := K_gh hI.1 g1 (by decide +kernel)
  have k66 : sI S1 66 8 = 0 := (kg 66 8 (by omega) (by omega) (by omega)).trans hm
  obtain ⟨q2, hq2, -, p2⟩ := t_M_clearX g1.1 (q57.up g1.ty) (n := 0) (by decide) (by rw [k66]; rfl)
  rw [e2] at hq2
  cases hq2
  obtain ⟨ev, e22⟩ := Prod.mk.inj p2
  have er : r = 0 := an.trans ev
  have k4 := tg_k4 hI.1
  have eg : gm S1 S2 = S2 := (g_f_M_clear _ _ (GF_rf S1) _ e2 : GF S1 S2).symm
  have eM : gg_W_none S1 (7 : Int32) a0 = S2 := by
    unfold gg_W_none
    rw [if_neg (by decide), if_neg (by decide), if_neg (by decide), if_neg (by decide), if_neg (by decide), if_neg (by decide), if_neg (by decide), if_pos rfl, e2]
    exact eg
  have e0 : f_W_none S (some 4) (7 : Int32) a0 = some (0, S1) := by
    unfold f_W_none
    rw [if_neg (by decide), if_neg (by decide), if_neg (by decide), if_neg (by decide), if_neg (by decide), if_neg (by decide), if_neg (by decide), if_pos rfl, k4, Option.bind_some, e1, er]
    rfl
  refine ⟨S1, S2, T1, ?_, ⟨g1, g2, g_f_M_clear _ _ (GF_rf S1) _ e2, iv, rp⟩, e22⟩
  unfold f_W_noneg
  rw [e0]
  exact congrArg (fun z => some ((0 : Int32), z)) eM
