/-! ===== steps up ===== -/
theorem p_stepUp {m : AS} {ns s f : Nat} {rt v : Int32} (hmf : MF m) (h30 : sI m 57 30 = Int32.ofNat ns) (n14 : ns ≤ 14) (hs : s ≤ ns) (f3 : f < 3) (hv : (0 : Int32) ≤ v ∧ v ≤ (9999 : Int32)) (h01 : s < ns → q01 (sI m 89 s)) : Hp (f_M_stepUp m (some 57) (Int32.ofNat s) (Int32.ofNat f) rt v) (fun q => (s = ns → sI q.2 57 82 = Int32.ofNat 1 ∧ GK m q.2) ∧ (s < ns → (sI m 89 s = 0 ∨ ¬ sI m 88 s = -1) → sI q.2 57 82 = Int32.ofNat 3 ∧ GK m q.2) ∧
    (s < ns → sI m 89 s = 1 → sI m 88 s = -1 → ∃ u m2, f_M_answers (wI (wI m 57 82 0) 87 s (sI m 57 0)) (some 57) (sI m 85 s) (Int32.ofNat f) rt v = some (u, m2) ∧ (if u = 0 then f_M_stepUp_B112 m2 (some 57) (Int32.ofNat s) else (gR m2 39 36 (some 57)).bind fun v15 => (gI m2 39 0 (some 57)).bind fun v16 => (bI m2 v15 (((3 : Int32) * Int32.ofNat s) + Int32.ofNat f) v16 46).bind fun S17 => f_M_stepUp_B112 S17 (some 57) (Int32.ofNat s)) = some q)) := by
  unfold f_M_stepUp
  refine p_of st_rv (p_b2 (p_isSes h30 (by omega) (by omega)) (fun x m' q => ?_))
  obtain ⟨q1, q2⟩ := Prod.mk.inj q
  rw [q2]
  refine p_of (st_b2 (q_fac m _)) ?_
  rw [if_pos (in2 f3)]
  refine p_of (st_F one0) (p_of (st_b2 (q_isIn m _ _ _)) ?_)
  rw [if_pos hv]
  refine p_of (st_F one0) ?_
  unfold f_M_stepUp_B34
  have bad : ∀ y1 : Int32, (y1 = 0 → s = ns) → (y1 ≠ 0 → s < ns ∧ (sI m 89 s = 0 ∨ ¬ sI m 88 s = -1)) → Hp (f_M_stepUp_B62 m (some 57) (Int32.ofNat s) (Int32.ofNat f) rt v (some 57) y1 (1 : Int32)) (fun q => (s = ns → sI q.2 57 82 = Int32.ofNat 1 ∧ GK m q.2) ∧ (s < ns → (sI m 89 s = 0 ∨ ¬ sI m 88 s = -1) → sI q.2 57 82 = Int32.ofNat 3 ∧ GK m q.2) ∧
    (s < ns → sI m 89 s = 1 → sI m 88 s = -1 → ∃ u m2, f_M_answers (wI (wI m 57 82 0) 87 s (sI m 57 0)) (some 57) (sI m 85 s) (Int32.ofNat f) rt v = some (u, m2) ∧ (if u = 0 then f_M_stepUp_B112 m2 (some 57) (Int32.ofNat s) else (gR m2 39 36 (some 57)).bind fun v15 => (gI m2 39 0 (some 57)).bind fun v16 => (bI m2 v15 (((3 : Int32) * Int32.ofNat s) + Int32.ofNat f) v16 46).bind fun S17 => f_M_stepUp_B112 S17 (some 57) (Int32.ofNat s)) = some q)) := fun y1 h0 h1 => by
    unfold f_M_stepUp_B62 f_M_stepUp_B63
    refine p_of st_rv (p_b2 p_mayA (fun x m' q => ?_))
    by_cases c : y1 = 0
    · rw [if_pos c] at q
      obtain ⟨q1, q2⟩ := Prod.mk.inj q
      rw [q1, q2]
      have := h0 c
      exact p_of (st_T rfl) (p_ret ⟨fun _ => ⟨ti_sI_eq _ _ _ _, GK_82 _ _⟩, fun z => absurd z (by omega), fun z => absurd z (by omega)⟩)
    · rw [if_neg c, if_neg one0, if_pos rfl] at q
      obtain ⟨q1, q2⟩ := Prod.mk.inj q
      rw [q1, q2]
      obtain ⟨d1, d2⟩ := h1 c
      refine p_of (st_T rfl) (p_ret ⟨fun z => absurd z (by omega), fun _ _ => ⟨ti_sI_eq _ _ _ _, GK_82 _ _⟩, fun _ z1 z2 => ?_⟩)
      rcases d2 with d2 | d2
      · exact absurd (d2.symm.trans z1) (by decide)
      · exact absurd z2 d2
  by_cases c : s < ns
  · rw [if_pos c] at q1
    rw [q1]
    refine p_of (st_F one0) (p_of (st_gRe (hmf 35 89 rfl)) (p_of (st_aIe (oc (by omega)) rfl) ?_))
    rcases h01 c with e | e
    · exact p_of (st_T e) (bad 1 (fun z => absurd z one0) (fun _ => ⟨c, Or.inl e⟩))
    · refine p_of (st_F (by rw [e]; decide)) (p_of (st_gRe (hmf 34 88 rfl)) (p_of (st_aIe (oc (by omega)) rfl) ?_))
      by_cases d : sI m 88 s = -1
      · refine p_of (st_T d) ?_
        unfold f_M_stepUp_B63
        refine p_of st_rv (p_b2 p_mayA (fun x m' q => ?_))
        rw [if_neg one0, if_neg one0, if_neg one0] at q
        obtain ⟨q1, q2⟩ := Prod.mk.inj q
        rw [q1]
        obtain ⟨m1, e1⟩ : ∃ m1, m1 = wI m 57 82 0 := ⟨_, rfl⟩
        rw [q2, ← e1]
        have hm1 : MF m1 := by rw [e1]; exact MF_e hmf rfl
        have o : ∀ k j, ¬ (k = 57 ∧ j = 82) → sI m1 k j = sI m k j := fun k j z => by rw [e1, ti_sI_ne z]
        refine p_of (st_F one0) (p_of (st_gRe (hm1 33 87 rfl)) (p_of (st_gIe (o 57 0 (by omega))) (p_of (st_bIe (oc (by omega))) (p_of (st_gRe (v := some 85) (hm1 31 85 rfl)) (p_of (st_aIe (v := sI m 85 s) (oc (by omega)) ((ti_sI_ne (by omega)).trans (o 85 s (by omega)))) (p_of st_rv (p_is (fun a ha => ⟨fun z => absurd z (by omega), fun _ z => ?_, fun _ _ _ => ?_⟩))))))))
        · rcases z with z | z
          · exact absurd (z.symm.trans e) (by decide)
          · exact absurd d z
        · obtain ⟨u, m2, h1, h2⟩ := b2_inv ha
          exact ⟨u, m2, h1, h2⟩
      · exact p_of (st_F d) (bad 1 (fun z => absurd z one0) (fun _ => ⟨c, Or.inr d⟩))
  · rw [if_neg c] at q1
    rw [q1]
    exact p_of (st_T rfl) (bad 0 (fun _ => by omega) (fun z => absurd rfl z))
theorem p_stepUp_end {m : AS} {s f : Nat} {u : Int32} (hmf : MF m) (hs : s < 60) (f3 : f < 3) : Hp (if u = 0 then f_M_stepUp_B112 m (some 57) (Int32.ofNat s) else (gR m 39 36 (some 57)).bind fun v15 => (gI m 39 0 (some 57)).bind fun v16 => (bI m v15 (((3 : Int32) * Int32.ofNat s) + Int32.ofNat f) v16 46).bind fun S17 => f_M_stepUp_B112 S17 (some 57) (Int32.ofNat s)) (fun q => q.2 = (if u = 0 then m else wI m 90 (3 * s + f) (sI m 57 0)) ∧ q.1 = LVL (shB (sI q.2 57 0) (sI q.2 90 (3 * s))) (shB (sI q.2 57 0) (sI q.2 90 (3 * s + 1))) (shB (sI q.2 57 0) (sI q.2 90 (3 * s + 2)))) := by
  have fin : ∀ M : AS, MF M → Hp (f_M_stepUp_B112 M (some 57) (Int32.ofNat s)) (fun q => q.2 = M ∧ q.1 = LVL (shB (sI q.2 57 0) (sI q.2 90 (3 * s))) (shB (sI q.2 57 0) (sI q.2 90 (3 * s + 1))) (shB (sI q.2 57 0) (sI q.2 90 (3 * s + 2)))) := fun M hM => by
    unfold f_M_stepUp_B112
    refine p_of st_rv (p_b2 (p_levelNow hM hs) (fun v m' q => ?_))
    obtain ⟨q1, q2⟩ := Prod.mk.inj q
    rw [q1, q2]
    exact p_ret ⟨rfl, rfl⟩
  by_cases c : u = 0
  · rw [if_pos c, if_pos c]
    exact fin m hmf
  · rw [if_neg c, if_neg c]
    refine p_of (st_gRe (hmf 36 90 rfl)) (p_of (st_gIe rfl) (p_of (st_bIe (ix3 s hs f (by omega))) (fin _ (MF_e hmf rfl))))
theorem tg_stepUp {n : Nat} {T : Nat → Nat} {S : AS} {a0 a1 a2 a3 : Int32} (h2 : a2 = 0 ∨ a2 = 1) (hI : IV n T S) (hn : n ≤ 600) (hr : RPF T S) : ∃ c v S1 S2 T1, f_W_fourg S (some 4) (1 : Int32) a0 a1 a2 a3 = some (c, S2) ∧ f_M_stepUp S1 (some 57) a0 a1 a2 a3 = some (v, S2) ∧ PKg n T kw_K67 kw_M47 S S1 T1 S2 ∧ ANc [-1001, -1002, -1003] c v (sI S2 57 82) := by
  rcases h2 with rfl | rfl
  · exact tg_stepUp0 (by decide) hI hn hr
  · exact tg_stepUp1 (by decide) hI hn hr
section
variable {n r : Nat} {T : Nat → Nat} {S : AS}
theorem l_stepUp (L : L54 n r T S) (hn : n ≤ 500) {y : Int32} : Ho (f_W_sessions S (some 4) (2 : Int32) y (some 127) (some 129) (some 133) (some 134) (some 135) (some 136) (some 137) (some 138) (some 139)) (G54 n r) := by
  obtain ⟨iv, rp, tl, pts, -, ns, nc, nf, nt, nk, na, lw⟩ := id L
  have lr := TL_LR iv.1 tl
  obtain ⟨⟨z1, -⟩, ⟨now, aud, -, -⟩, -, ⟨fac, wrg, -⟩, -, ⟨sp, usd, lv, ssh⟩, -⟩ := id lw
  have n14 := z1.2.2
  refine ses_pre2 lr z1 sp lv (by decide) (by decide) (fun s hs x13 y0 hx hy => ?_)
  obtain ⟨r127, -, r129, -, -, -, r133, r134, -⟩ := lr
  unfold f_W_sessions_B264
  refine r_ifT rfl (o_some 3 rfl (by decide) (by decide) (fun f f3 => o_some 4 rfl (by decide) (by decide) (fun w _ => ?_)))
  have go : ∀ rt : Int32, rt = 0 ∨ rt = 1 → Ho (f_W_sessions_B296 S (some 4) y (some 127) (some 129) (some 133) (some 134) (Int32.ofNat s) x13 y0 (Int32.ofNat f) rt) (G54 n r) := fun rt hrt => by
    unfold f_W_sessions_B296
    refine o_some 9 rfl (by decide) (by decide) (fun u u9 => ?_)
    have hv : (0 : Int32) ≤ Int32.ofNat u ∧ Int32.ofNat u ≤ (9999 : Int32) := ⟨(oleq (a := 0) (by omega) (by omega)).mpr (Nat.zero_le _), (oleq (b := 9999) (by omega) (by omega)).mpr (by omega)⟩
    have s01 : ∀ M, GK S M → s < ns → q01 (sI M 89 s) := fun M gk h => by
      rw [gk 89 s (by omega) (by omega) (by omega)]
      rcases lv s h with ⟨e, -⟩ | ⟨e, -⟩
      · exact Or.inr e
      · exact Or.inl e
    -- the call, then what is looked at
    have call : ∀ Sa : AS, LF S Sa → (∀ c v S1 S2 T1, f_M_stepUp S1 (some 57) (Int32.ofNat s) (Int32.ofNat f) rt (Int32.ofNat u) = some (v, S2) → BH n r T1 Sa S1 S2 → ANc [-1001, -1002, -1003] c v (sI S2 57 82) → Ho (if x13 = 0 then f_W_sessions_B425 S2 c (-1001 : Int32) else if y0 = 0 then f_W_sessions_B425 S2 c (-1003 : Int32) else kr_b2 (f_W_levelOf S2 (some 127) (some 134) (Int32.ofNat s)) fun v8 S7 => f_W_sessions_B425 S7 c v8) (G54 n r)) → Ho (f_W_sessions_B374 Sa (some 4) (some 127) (some 134) (Int32.ofNat s) x13 y0 (Int32.ofNat f) rt (Int32.ofNat u)) (G54 n r) := fun Sa la H => by
      have H' : ∀ y4 : Int32, y4 = rt → Ho (f_W_sessions_B390 Sa (some 127) (some 134) (Int32.ofNat s) x13 y0 (Int32.ofNat u) (some 4) (1 : Int32) (Int32.ofNat s) (Int32.ofNat f) y4) (G54 n r) := fun y4 e4 => by
        unfold f_W_sessions_B390
        rw [e4]
        obtain ⟨c, v, S1, S2, T1, e1, e2, g, an⟩ := tg_stepUp (a0 := Int32.ofNat s) (a1 := Int32.ofNat f) (a3 := Int32.ofNat u) hrt (LF_IV iv tl la) (by omega) (LF_RPF iv.1 tl rp la)
        exact o_b2 e1 (H c v S1 S2 T1 e2 (PK_BH L la g (by decide +kernel) (by decide +kernel) (by decide +kernel)) an)
      unfold f_W_sessions_B374
      rcases hrt with e | e
      · exact r_ifT e (H' 0 e.symm)
      · exact r_ifF (by rw [e]; decide) (H' 1 e.symm)
    rcases hy with ⟨ey, hlt, l1, l2⟩ | ⟨ey, l0⟩
    · have ex : x13 = 1 := by
        rcases hx with ⟨-, h⟩ | ⟨h, -⟩
        · exact h
        · omega
      refine r_ifF (by rw [ey]; decide) ?_
      obtain ⟨⟨p, p3, sp1, sp2⟩, -⟩ := sp s hlt
      refine o_aI r127 (n := 0) rfl (by decide) (o_bI r133 (n := 4 * s + 2) (wix 4 s 2) (by omega) ?_)
      obtain ⟨Sb, eb⟩ : ∃ Sb, Sb = wI S 133 (4 * s + 2) (sI S 127 0) := ⟨_, rfl⟩
      rw [← eb]
      have lb : LF S Sb := by rw [eb]; exact LF_w (LF_rf S) (by decide)
      have ob : ∀ k j, ¬ (k = 133 ∧ j = 4 * s + 2) → sI Sb k j = sI S k j := fun k j q => by rw [eb, ti_sI_ne q]
      refine o_aIe (lb.Rw r133) (n := 4 * s) (wmul 4 s) (by omega) ((ob 133 _ (by omega)).trans sp1) ?_
      -- the answer by the law beside the reference's, from any state that agrees
      have ans : ∀ M q, MF M → GK S M → f_M_stepUp M (some 57) (Int32.ofNat s) (Int32.ofNat f) rt (Int32.ofNat u) = some q → ∃ a, f_W_answers Sb (some 127) (some 129) (Int32.ofNat p) (Int32.ofNat f) rt (Int32.ofNat u) = some a ∧ ∃ u2 m1 m2, a.1 = u2 ∧ (u2 = 0 ∨ u2 = 1) ∧ AWQ p Sb m1 a.2 m2 ∧ m1 = wI (wI M 57 82 0) 87 s (sI M 57 0) ∧ q.2 = (if u2 = 0 then m2 else wI m2 90 (3 * s + f) (sI m2 57 0)) ∧ q.1 = LVL (shB (sI q.2 57 0) (sI q.2 90 (3 * s))) (shB (sI q.2 57 0) (sI q.2 90 (3 * s + 1))) (shB (sI q.2 57 0) (sI q.2 90 (3 * s + 2))) := fun M q mf gk h => by
        obtain ⟨-, -, h3⟩ := p_stepUp mf ((gk 57 30 (by omega) (by omega) (by omega)).trans z1.2.1) n14 hs f3 hv (s01 M gk) _ h
        obtain ⟨u2, m2, h4, h5⟩ := h3 hlt ((gk 89 s (by omega) (by omega) (by omega)).trans l1) ((gk 88 s (by omega) (by omega) (by omega)).trans l2)
        rw [gk 85 s (by omega) (by omega) (by omega), sp2] at h4
        obtain ⟨m1, em⟩ : ∃ m1, m1 = wI (wI M 57 82 0) 87 s (sI M 57 0) := ⟨_, rfl⟩
        rw [← em] at h4
        have mf1 : MF m1 := by rw [em]; exact MF_e mf rfl
        have gm : ∀ k j, 57 ≤ k → k < 126 → ¬ (k = 57 ∧ (100 ≤ j ∨ j = 82)) → ¬ k = 87 → sI m1 k j = sI S k j := fun k j h1 h2 h3 h6 => by
          rw [em, ti_sI_ne (by omega), ti_sI_ne (by omega)]
          exact gk k j h1 h2 h3
        obtain ⟨a, ea, a1, a2, aw⟩ := g_answers (S := Sb) (m := m1) (p := p) (f := f) (r := rt) (v := Int32.ofNat u) (lb.Rw r127) (lb.Rw r129) mf1 (lNow_fr now (ob 127 0 (by omega)) (gm 57 0 (by omega) (by omega) (by omega) (by omega))) (lAud_fr aud (ob 127 9 (by omega)) (ob 127 10 (by omega)) (gm 57 77 (by omega) (by omega) (by omega) (by omega)) (gm 57 81 (by omega) (by omega) (by omega) (by omega))) (lFac_fr fac (fun j _ => ob 129 j (by omega)) (funext fun j => gm 58 j (by omega) (by omega) (by omega) (by omega)) (funext fun j => gm 59 j (by omega) (by omega) (by omega) (by omega)) (funext fun j => gm 60 j (by omega) (by omega) (by omega) (by omega))) (lWrg_fr wrg (fun j _ _ => ob 129 j (by omega)) (funext fun j => gm 61 j (by omega) (by omega) (by omega) (by omega))) p3 f3 _ h4
        have a1 : a.1 = u2 := a1
        have aw : AWQ p Sb m1 a.2 m2 := aw
        obtain ⟨h6, h7⟩ := p_stepUp_end (MF_e mf1 aw.2.2.1.1) (by omega) f3 _ h5
        exact ⟨a, ea, u2, m1, m2, a1, by rw [← a1]; exact a2, aw, em, h6, h7⟩
      obtain ⟨q0, e0, -⟩ := mm_stepUp (a1 := Int32.ofNat s) (a2 := Int32.ofNat f) (a3 := rt) (a4 := Int32.ofNat u) iv.1 (x57 iv) iv.2.1 (by have := iv.2.2.1; omega)
      obtain ⟨⟨x, Sc⟩, ea, u0, M1, M2, ax0, a01, aw0, -⟩ := ans S q0 (MF_of iv.1) (GK_rf S) e0
      have ax0 : x = u0 := ax0
      have aw0 : AWQ p Sb M1 Sc M2 := aw0
      refine o_b2 ea ?_
      have lc : LF S Sc := LF_tr lb aw0.1
      -- what was shown is written, then the call
      have fin : ∀ y2 : Int32, y2 = (if x = 0 then sI Sc 134 (3 * s + f) else sI Sc 127 0) → Ho (f_W_sessions_B373 Sc (some 4) (some 127) (some 134) (Int32.ofNat s) x13 y0 (Int32.ofNat f) rt (Int32.ofNat u) (some 134) (((3 : Int32) * Int32.ofNat s) + Int32.ofNat f) y2) (G54 n r) := fun y2 e2' => by
        unfold f_W_sessions_B373
        refine o_bI (lc.Rw r134) (n := 3 * s + f) (wix 3 s f) (by omega) ?_
        obtain ⟨Sa, ea2⟩ : ∃ Sa, Sa = wI Sc 134 (3 * s + f) y2 := ⟨_, rfl⟩
        rw [← ea2]
        have la : LF S Sa := by rw [ea2]; exact LF_w lc (by decide)
        have oa : ∀ k j, ¬ (k = 134 ∧ j = 3 * s + f) → sI Sa k j = sI Sc k j := fun k j q => by rw [ea2, ti_sI_ne q]
        refine call Sa la (fun c v S1 S2 T1 e2 bh an => ?_)
        obtain ⟨-, -, -, -, kS, kS1, kG, mf⟩ := id bh
        have gk0 : GK S S1 := GK_tr (LF_GK la) kG
        obtain ⟨a', ea', u2, m1, m2, ax, -, aw, em, q2, qv⟩ := ans S1 _ mf gk0 e2
        rw [ea] at ea'
        cases ea'
        have ax : x = u2 := ax
        have q2 : S2 = (if u2 = 0 then m2 else wI m2 90 (3 * s + f) (sI m2 57 0)) := q2
        have qv : v = LVL (shB (sI S2 57 0) (sI S2 90 (3 * s))) (shB (sI S2 57 0) (sI S2 90 (3 * s + 1))) (shB (sI S2 57 0) (sI S2 90 (3 * s + 2))) := qv
        rw [← ax] at q2
        obtain ⟨-, oc1, ⟨-, -, om⟩, fac2, wrg2, aud2⟩ := aw
        have oc1 : ∀ q j, ¬ (q = 127 ∧ (j = 9 ∨ j = 10)) → ¬ (q = 129 ∧ 12 * p ≤ j ∧ j < 12 * p + 10) → sI Sc q j = sI Sb q j := oc1
        have hm1 : ∀ k j, 57 ≤ k → k < 126 → ¬ (k = 57 ∧ (100 ≤ j ∨ j = 82)) → ¬ (k = 87 ∧ j = s) → sI m1 k j = sI S k j := fun k j h1 h2 h3 h6 => by
          rw [em, ti_sI_ne (by omega), ti_sI_ne (by omega)]
          exact gk0 k j h1 h2 h3
        have m87 : sI m1 87 s = sI S 57 0 := by
          rw [em, ti_sI_eq]
          exact gk0 57 0 (by omega) (by omega) (by omega)
        have oS2 : ∀ k j, ¬ (k = 90 ∧ j = 3 * s + f) → sI S2 k j = sI m2 k j := fun k j z => by
          rw [q2]
          split
          · rfl
          · exact ti_sI_ne z
        have oM : ∀ k j, 57 ≤ k → k < 126 → ¬ (k = 57 ∧ (100 ≤ j ∨ j = 82)) → ¬ ((k = 57 ∧ (j = 77 ∨ j = 81)) ∨ (58 ≤ k ∧ k ≤ 61) ∨ (k = 87 ∧ j = s) ∨ (k = 90 ∧ j = 3 * s + f) ∨ (123 ≤ k ∧ k ≤ 126)) → sI S2 k j = sI S k j := fun k j h1 h2 h3 h4 => by
          rw [oS2 k j (by omega), om k j (by omega) (by omega)]
          exact hm1 k j h1 h2 h3 (by omega)
        have oW : ∀ k j, 127 ≤ k → k < 141 → ¬ ((k = 127 ∧ (j = 9 ∨ j = 10)) ∨ (k = 129 ∧ 12 * p ≤ j ∧ j < 12 * p + 10) ∨ (k = 133 ∧ j = 4 * s + 2) ∨ (k = 134 ∧ j = 3 * s + f)) → sI S2 k j = sI S k j := fun k j h1 h2 h3 => by
          rw [kS k h1 h2, oa k j (by omega), oc1 k j (by omega) (by omega)]
          exact ob k j (by omega)
        have w87 : sI S2 133 (4 * s + 2) = sI S 127 0 := by rw [kS 133 (by omega) (by omega), oa _ _ (by omega), oc1 _ _ (by omega) (by omega), eb, ti_sI_eq]
        have mo87 : sI S2 87 s = sI S 57 0 := by rw [oS2 _ _ (by omega), om _ _ (by omega) (by omega), m87]
        have v82 : sI S2 57 82 = 0 := by rw [oS2 _ _ (by omega), om _ _ (by omega) (by omega), em, ti_sI_ne (by omega), ti_sI_eq]
        have n0 : sI S2 57 0 = sI S 57 0 := oM 57 0 (by omega) (by omega) (by omega) (by omega)
        have ssh2 : lSsh ns S2 S2 := fun j hj g g3 => by
          by_cases e : j = s ∧ g = f
          · rw [e.1, e.2, kS 134 (by omega) (by omega), ea2, ti_sI_eq, e2']
            have h2 := ssh s hlt f f3
            by_cases d : x = 0
            · rw [if_pos d, oc1 _ _ (by omega) (by omega), ob _ _ (by omega)]
              rw [if_pos d] at q2
              have : sI S2 90 (3 * s + f) = sI S 90 (3 * s + f) := by
                rw [q2, om _ _ (by omega) (by omega)]
                exact hm1 90 _ (by omega) (by omega) (by omega) (by omega)
              rw [this]
              exact h2
            · rw [if_neg d, oc1 _ _ (by omega) (by omega), ob _ _ (by omega)]
              rw [if_neg d] at q2
              have : sI S2 90 (3 * s + f) = sI S 57 0 := by
                rw [q2, ti_sI_eq, om _ _ (by omega) (by omega)]
                exact hm1 57 0 (by omega) (by omega) (by omega) (by omega)
              rw [this]
              exact ⟨now.1, Or.inr now.2⟩
          · rw [oW 134 _ (by omega) (by omega) (by omega), oM 90 _ (by omega) (by omega) (by omega) (by omega)]
            exact ssh j hj g g3
        have LL : L54 (n + 1) (r + 1) T1 S2 := BH_L bh (lPN_e pts (fun j => oM 73 j (by omega) (by omega) (by omega) (by omega)) n0) ⟨ns, nc, nf, nt, nk, na, LWa_stepUp lw (fun k j h1 h2 h3 => oW k j h1 h2 (by omega)) (fun k j h1 h2 h3 h4 => oM k j h1 h2 h3 (by omega)) (fun j hj => by
          by_cases e : j = s
          · rw [e, w87, mo87, now.1]
            exact ⟨rfl, now.2⟩
          · rw [oW 133 _ (by omega) (by omega) (by omega), oM 87 j (by omega) (by omega) (by omega) (by omega)]
            exact usd j hj) (lFac_fr fac2 (fun j _ => by rw [kS 129 (by omega) (by omega)]; exact oa 129 j (by omega)) (funext fun j => oS2 58 j (by omega)) (funext fun j => oS2 59 j (by omega)) (funext fun j => oS2 60 j (by omega))) (lWrg_fr wrg2 (fun j _ _ => by rw [kS 129 (by omega) (by omega)]; exact oa 129 j (by omega)) (funext fun j => oS2 61 j (by omega))) (lAud_fr aud2 (by rw [kS 127 (by omega) (by omega)]; exact oa 127 9 (by omega)) (by rw [kS 127 (by omega) (by omega)]; exact oa 127 10 (by omega)) (oS2 57 77 (by omega)) (oS2 57 81 (by omega))) ssh2⟩
        refine r_ifF (by rw [ex]; decide) (r_ifF (by rw [ey]; decide) ?_)
        have now2 : lNow S2 S2 := ⟨by rw [n0, oW 127 0 (by omega) (by omega) (by omega)]; exact now.1, by rw [n0]; exact now.2⟩
        have lr2 := TL_LR LL.1.1 LL.2.2.1
        refine o_b2 (x_levelOf lr2.1 lr2.2.2.2.2.2.2.2.1 (by omega) (fun g g3 => by
          obtain ⟨h1, h2⟩ := ssh2 s hlt g g3
          rw [h1]
          exact h2)) ?_
        unfold f_W_sessions_B425
        refine o_fin ?_ LL
        rw [ANc_0 an (by decide) v82, qv, lvl_eq now2 ssh2 hlt]
      by_cases d : x = 0
      · exact r_ifT d (o_aI (lc.Rw r134) (n := 3 * s + f) (wix 3 s f) (by omega) (fin _ (by rw [if_pos d])))
      · exact r_ifF d (o_aI (lc.Rw r127) (n := 0) rfl (by decide) (fin _ (by rw [if_neg d])))
    · refine r_ifT ey (call S (LF_rf S) (fun c v S1 S2 T1 e2 bh an => ?_))
      obtain ⟨-, -, -, -, kS, kS1, kG, mf⟩ := id bh
      obtain ⟨pa, pb, -⟩ := p_stepUp mf ((kG 57 30 (by omega) (by omega) (by omega)).trans z1.2.1) n14 hs f3 hv (s01 S1 kG) _ e2
      have no : ∀ k : Int32, c = k → GK S1 S2 → Ho (f_W_sessions_B425 S2 c k) (G54 n r) := fun k hk gk2 => by
        have gk := GK_tr kG gk2
        unfold f_W_sessions_B425
        exact o_fin hk (BH_L bh (lPN_e pts (fun j => gk 73 j (by omega) (by omega) (by omega)) (gk 57 0 (by omega) (by omega) (by omega))) ⟨ns, nc, nf, nt, nk, na, LW_cong2 lw kS gk⟩)
      rcases hx with ⟨hx, ex⟩ | ⟨hx, ex⟩
      · obtain ⟨t, gk⟩ := pb hx (by
          rw [kG 89 s (by omega) (by omega) (by omega), kG 88 s (by omega) (by omega) (by omega)]
          exact l0 hx)
        exact r_ifF (by rw [ex]; decide) (r_ifT ey (no _ (ANc_k an (by decide) 2 rfl t) gk))
      · obtain ⟨t, gk⟩ := pa hx
        exact r_ifT ex (no _ (ANc_k an (by decide) 0 rfl t) gk)
  by_cases c : Int32.ofNat w ≤ 0
  · exact r_ifT c (go 0 (Or.inl rfl))
  · exact r_ifF c (go 1 (Or.inr rfl))
end
