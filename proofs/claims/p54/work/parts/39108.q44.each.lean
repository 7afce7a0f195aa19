/-! ===== each read, in the law's words ===== -/
section
variable {n r ns nc nf nt nk na : Nat} {S S' : AS}
theorem rd_signing (R : RD n r S S') (hn : n ≤ 500) (L : LW ns nc nf nt nk na S S) {y : Int32} : ∃ S2, f_W_noneg S' (some 4) (3 : Int32) y = some (sI S 127 6, S2) ∧ RD n (r + 1) S S2 := by
  obtain ⟨⟨z1, -⟩, ⟨-, aud, key, -⟩, -⟩ := L
  have e : sI S 127 6 = sI S 57 61 := by
    obtain ⟨⟨g, -, h1, h2⟩, -⟩ := key
    rw [h1, h2]
  refine rd_step (fun c v _ => c = v) R (fun T iv rp => tg_signing iv (by omega) rp) (by decide +kernel) (fun m _ gk => ?_)
  unfold f_M_signing
  refine p_of st_pI (p_of (st_gIe (ti_sI_ne (by omega))) (p_ret ⟨GK_82 m 0, fun c h => ?_⟩))
  rw [e]
  exact h.trans (gk 57 61 (by omega) (by omega) (by omega))
theorem rd_audits (R : RD n r S S') (hn : n ≤ 500) (L : LW ns nc nf nt nk na S S) {y : Int32} : ∃ S2, f_W_noneg S' (some 4) (4 : Int32) y = some (sI S 127 9, S2) ∧ RD n (r + 1) S S2 := by
  obtain ⟨⟨z1, -⟩, ⟨-, aud, key, -⟩, -⟩ := L
  have e : sI S 127 9 = sI S 57 77 := aud.1
  refine rd_step (fun c v _ => c = v) R (fun T iv rp => tg_audits iv (by omega) rp) (by decide +kernel) (fun m _ gk => ?_)
  unfold f_M_audits
  refine p_of st_pI (p_of (st_gIe (ti_sI_ne (by omega))) (p_ret ⟨GK_82 m 0, fun c h => ?_⟩))
  rw [e]
  exact h.trans (gk 57 77 (by omega) (by omega) (by omega))
theorem rd_sum (R : RD n r S S') (hn : n ≤ 500) (L : LW ns nc nf nt nk na S S) {y : Int32} : ∃ S2, f_W_noneg S' (some 4) (5 : Int32) y = some (sI S 127 10, S2) ∧ RD n (r + 1) S S2 := by
  obtain ⟨⟨z1, -⟩, ⟨-, aud, key, -⟩, -⟩ := L
  have e : sI S 127 10 = sI S 57 81 := aud.2
  refine rd_step (fun c v _ => c = v) R (fun T iv rp => tg_sum iv (by omega) rp) (by decide +kernel) (fun m _ gk => ?_)
  unfold f_M_sum
  refine p_of st_pI (p_of (st_gIe (ti_sI_ne (by omega))) (p_ret ⟨GK_82 m 0, fun c h => ?_⟩))
  rw [e]
  exact h.trans (gk 57 81 (by omega) (by omega) (by omega))
theorem rd_sessions (R : RD n r S S') (hn : n ≤ 500) (L : LW ns nc nf nt nk na S S) {y : Int32} : ∃ S2, f_W_noneg S' (some 4) (6 : Int32) y = some (sI S 127 1, S2) ∧ RD n (r + 1) S S2 := by
  obtain ⟨⟨z1, -⟩, ⟨-, aud, key, -⟩, -⟩ := L
  have e : sI S 127 1 = sI S 57 30 := z1.1.trans z1.2.1.symm
  refine rd_step (fun c v _ => c = v) R (fun T iv rp => tg_sessions iv (by omega) rp) (by decide +kernel) (fun m _ gk => ?_)
  unfold f_M_sessions
  refine p_of st_pI (p_of (st_gIe (ti_sI_ne (by omega))) (p_ret ⟨GK_82 m 0, fun c h => ?_⟩))
  rw [e]
  exact h.trans (gk 57 30 (by omega) (by omega) (by omega))
theorem rd_sumAnew (R : RD n r S S') (hn : n ≤ 500) (L : LW ns nc nf nt nk na S S) : ∃ S2, f_W_oneg S' (some 4) (17 : Int32) (sI S 127 9) = some (sI S 127 10, S2) ∧ RD n (r + 1) S S2 := by
  obtain ⟨-, ⟨-, aud, -⟩, -⟩ := L
  have g0 := R.2.2
  rw [aud.1, aud.2, ← g0 57 77 (by omega) (by omega) (by omega), ← g0 57 81 (by omega) (by omega) (by omega)]
  refine rd_step (fun c _ _ => c = sI S' 57 81) R (fun T iv rp => tg_sumAnew iv (by omega) rp) (by decide +kernel) (fun m mf _ => ?_)
  exact p_is (fun q h => ⟨p_sna mf q h, fun c h => h⟩)
theorem rd_factor (R : RD n r S S') (hn : n ≤ 500) (L : LW ns nc nf nt nk na S S) {p f : Nat} (p3 : p < 3) (f3 : f < 3) : ∃ S2, f_W_twog S' (some 4) (1 : Int32) (Int32.ofNat p) (Int32.ofNat f) = some (sI S 129 (12 * p + f), S2) ∧ RD n (r + 1) S S2 := by
  obtain ⟨-, -, -, ⟨fac, -⟩, -⟩ := L
  obtain ⟨v, -, e1, e2⟩ := ((fac p p3).1 f f3).1
  refine rd_step (fun c v t => ANc [-1001, -1002] c v t) R (fun T iv rp => tg_factor iv (by omega) rp) (by decide +kernel) (fun m mf gk => ?_)
  unfold f_M_factor
  refine p_of (st_b2 (q_six m _)) (p_of (st_b2 (q_fac m _)) (p_of st_rv ?_))
  rw [if_pos ((six_iff _).mpr ⟨p, by omega, rfl⟩), if_pos ((thr_iff _).mpr ⟨f, f3, rfl⟩)]
  refine p_b2 p_mayB (fun v' m' q => ?_)
  rw [if_neg one0, if_neg one0] at q
  obtain ⟨q1, q2⟩ := Prod.mk.inj q
  rw [q1, q2]
  refine p_of (st_F one0) (p_of (st_gRe (v := some 58) (mf 1 58 rfl)) (p_of (st_aIe (v := sI S 129 (12 * p + f)) (ix3 p (by omega) f f3) ?_) (p_ret ⟨GK_82 m 0, fun c h => ANc_0 h (by decide) (ti_sI_eq _ _ _ _)⟩)))
  rw [ti_sI_ne (by omega), gk 58 _ (by omega) (by omega) (by omega), e1, e2]
theorem rd_state (R : RD n r S S') (hn : n ≤ 500) (L : LW ns nc nf nt nk na S S) {i : Nat} (hi : i ≤ na) : ∃ S2, f_W_oneg S' (some 4) (0 : Int32) (Int32.ofNat i) = some (if i < na then sI S 130 (6 * i + 4) else (-1001 : Int32), S2) ∧ RD n (r + 1) S S2 := by
  obtain ⟨⟨z1, z2, z3, z4, z5, z6⟩, ⟨now, aud, key, hlp⟩, flo, ⟨fac, wrg, kn⟩, ⟨att, ast, ash⟩, ⟨sp, usd, lv, ssh⟩, ⟨cod, cfa, fam, num, god⟩, tok, out, ⟨srv, tol⟩, con⟩ := id L
  have n1 := z1.2.2
  have n3 := z3.2.2
  have n4 := z4.2.2
  have n5 := z5.2.2
  have n6 := z6.2.2
  refine rd_step (fun c v t => ANc [-1001] c v t) R (fun T iv rp => tg_state iv (by omega) rp) (by decide +kernel) (fun m mf gk => ?_)
  have oi : (Int32.ofNat i).toNatClampNeg = i := oc (by omega)
  have z : ∀ k j, 57 ≤ k → k < 126 → ¬ (k = 57 ∧ (100 ≤ j ∨ j = 82)) → sI (wI m 57 82 0) k j = sI S k j := fun k j h1 h2 h3 => (ti_sI_ne (by omega)).trans (gk k j h1 h2 h3)
  unfold f_M_state
  refine p_of st_rv (p_ex (fun x => x) (p_isAtt ((gk 57 19 (by omega) (by omega) (by omega)).trans z6.2.1) (by omega) (by omega)) (fun h => ?_))
  exact p_of (st_gRe (v := some 80) (mf 25 80 rfl)) (p_of (st_aIe (v := sI S 130 (6 * i + 4)) oi ((z 80 i (by omega) (by omega) (by omega)).trans (ast i h).1.symm)) (p_ret ⟨rfl, rfl⟩))
theorem rd_asked (R : RD n r S S') (hn : n ≤ 500) (L : LW ns nc nf nt nk na S S) {i : Nat} (hi : i ≤ na) {w : Int32} (hw : i < na → (sI S 80 i = 0 ∧ ∃ k, k < 7 ∧ sI S 79 i = Int32.ofNat k ∧ w = sI S 68 k) ∨ (¬ sI S 80 i = 0 ∧ w = -1)) : ∃ S2, f_W_oneg S' (some 4) (1 : Int32) (Int32.ofNat i) = some (if i < na then w else (-1001 : Int32), S2) ∧ RD n (r + 1) S S2 := by
  obtain ⟨⟨z1, z2, z3, z4, z5, z6⟩, ⟨now, aud, key, hlp⟩, flo, ⟨fac, wrg, kn⟩, ⟨att, ast, ash⟩, ⟨sp, usd, lv, ssh⟩, ⟨cod, cfa, fam, num, god⟩, tok, out, ⟨srv, tol⟩, con⟩ := id L
  have n1 := z1.2.2
  have n3 := z3.2.2
  have n4 := z4.2.2
  have n5 := z5.2.2
  have n6 := z6.2.2
  refine rd_step (fun c v t => ANc [-1001] c v t) R (fun T iv rp => tg_asked iv (by omega) rp) (by decide +kernel) (fun m mf gk => ?_)
  have oi : (Int32.ofNat i).toNatClampNeg = i := oc (by omega)
  have z : ∀ k j, 57 ≤ k → k < 126 → ¬ (k = 57 ∧ (100 ≤ j ∨ j = 82)) → sI (wI m 57 82 0) k j = sI S k j := fun k j h1 h2 h3 => (ti_sI_ne (by omega)).trans (gk k j h1 h2 h3)
  unfold f_M_asked
  refine p_of st_rv (p_ex (fun x => x) (p_isAtt ((gk 57 19 (by omega) (by omega) (by omega)).trans z6.2.1) (by omega) (by omega)) (fun h => ?_))
  refine p_of (st_gRe (v := some 80) (mf 25 80 rfl)) (p_of (st_aIe (v := sI S 80 i) oi (z 80 i (by omega) (by omega) (by omega))) ?_)
  rcases hw h with ⟨h0, k, k7, h1, h2⟩ | ⟨h0, h2⟩
  · rw [h0, h2]
    refine p_of (st_T rfl) (p_of (st_gRe (v := some 68) (mf 12 68 rfl)) (p_of (st_gRe (v := some 78) (mf 23 78 rfl)) (p_of (st_aIe (v := 0) oi ((z 78 i (by omega) (by omega) (by omega)).trans (att i h).2.2.2)) (p_of (st_gRe (v := some 79) (mf 24 79 rfl)) (p_of (st_aIe (v := Int32.ofNat k) oi ((z 79 i (by omega) (by omega) (by omega)).trans h1)) ?_)))))
    rw [show ((12 : Int32) * (0 : Int32)) + Int32.ofNat k = Int32.ofNat k from (wix 12 0 k).trans (by rw [Nat.mul_zero, Nat.zero_add])]
    exact p_of (st_aIe (v := sI S 68 k) (oc (by omega)) (z 68 k (by omega) (by omega) (by omega))) (p_ret ⟨rfl, rfl⟩)
  · rw [h2]
    exact p_of (st_F h0) (p_ret ⟨rfl, rfl⟩)
theorem rd_sessionOf (R : RD n r S S') (hn : n ≤ 500) (L : LW ns nc nf nt nk na S S) {i : Nat} (hi : i ≤ na) : ∃ S2, f_W_oneg S' (some 4) (2 : Int32) (Int32.ofNat i) = some (if i < na then sI S 83 i else (-1001 : Int32), S2) ∧ RD n (r + 1) S S2 := by
  obtain ⟨⟨z1, z2, z3, z4, z5, z6⟩, ⟨now, aud, key, hlp⟩, flo, ⟨fac, wrg, kn⟩, ⟨att, ast, ash⟩, ⟨sp, usd, lv, ssh⟩, ⟨cod, cfa, fam, num, god⟩, tok, out, ⟨srv, tol⟩, con⟩ := id L
  have n1 := z1.2.2
  have n3 := z3.2.2
  have n4 := z4.2.2
  have n5 := z5.2.2
  have n6 := z6.2.2
  refine rd_step (fun c v t => ANc [-1001] c v t) R (fun T iv rp => tg_sessionOf iv (by omega) rp) (by decide +kernel) (fun m mf gk => ?_)
  have oi : (Int32.ofNat i).toNatClampNeg = i := oc (by omega)
  have z : ∀ k j, 57 ≤ k → k < 126 → ¬ (k = 57 ∧ (100 ≤ j ∨ j = 82)) → sI (wI m 57 82 0) k j = sI S k j := fun k j h1 h2 h3 => (ti_sI_ne (by omega)).trans (gk k j h1 h2 h3)
  unfold f_M_sessionOf
  refine p_of st_rv (p_ex (fun x => x) (p_isAtt ((gk 57 19 (by omega) (by omega) (by omega)).trans z6.2.1) (by omega) (by omega)) (fun h => ?_))
  exact p_of (st_gRe (v := some 83) (mf 28 83 rfl)) (p_of (st_aIe (v := sI S 83 i) oi (z 83 i (by omega) (by omega) (by omega))) (p_ret ⟨rfl, rfl⟩))
theorem rd_risk (R : RD n r S S') (hn : n ≤ 500) (L : LW ns nc nf nt nk na S S) {i : Nat} (hi : i ≤ na) {w : Int32} (pts : lPts S) (lr : LR S) (hw : i < na → f_W_risk S (some 127) (some 129) (some 130) (Int32.ofNat i) = some (w, S)) : ∃ S2, f_W_oneg S' (some 4) (3 : Int32) (Int32.ofNat i) = some (if i < na then w else (-1001 : Int32), S2) ∧ RD n (r + 1) S S2 := by
  obtain ⟨⟨z1, z2, z3, z4, z5, z6⟩, ⟨now, aud, key, hlp⟩, flo, ⟨fac, wrg, kn⟩, ⟨att, ast, ash⟩, ⟨sp, usd, lv, ssh⟩, ⟨cod, cfa, fam, num, god⟩, tok, out, ⟨srv, tol⟩, con⟩ := id L
  have n1 := z1.2.2
  have n3 := z3.2.2
  have n4 := z4.2.2
  have n5 := z5.2.2
  have n6 := z6.2.2
  refine rd_step (fun c v t => ANc [-1001] c v t) R (fun T iv rp => tg_risk iv (by omega) rp) (by decide +kernel) (fun m mf gk => ?_)
  have oi : (Int32.ofNat i).toNatClampNeg = i := oc (by omega)
  have z : ∀ k j, 57 ≤ k → k < 126 → ¬ (k = 57 ∧ (100 ≤ j ∨ j = 82)) → sI (wI m 57 82 0) k j = sI S k j := fun k j h1 h2 h3 => (ti_sI_ne (by omega)).trans (gk k j h1 h2 h3)
  have mz : MF (wI m 57 82 0) := MF_e mf rfl
  unfold f_M_risk
  refine p_of st_rv (p_ex (fun x => x) (p_isAtt ((gk 57 19 (by omega) (by omega) (by omega)).trans z6.2.1) (by omega) (by omega)) (fun h => ?_))
  have lz : LW ns nc nf nt nk na S (wI m 57 82 0) := LW_cong2 L (fun _ _ _ => rfl) (GK_tr gk (GK_82 m 0))
  obtain ⟨-, ⟨now, -⟩, -, ⟨-, wrg, kn⟩, ⟨att, -⟩, -⟩ := lz
  obtain ⟨rv, e1, e2⟩ := g_risk (i := i) lr.1 lr.2.2.1 lr.2.2.2.1 mz now wrg kn att (lPts_e pts (fun j => z 73 j (by omega) (by omega) (by omega))) h n6
  rw [hw h] at e1
  cases e1
  refine p_of st_rv (p_b2 e2 (fun v' m' q => ?_))
  obtain ⟨q1, q2⟩ := Prod.mk.inj q
  rw [q1, q2]
  exact p_ret ⟨rfl, rfl⟩
theorem rd_level (R : RD n r S S') (hn : n ≤ 500) (L : LW ns nc nf nt nk na S S) {i : Nat} (hi : i ≤ ns) : ∃ S2, f_W_oneg S' (some 4) (5 : Int32) (Int32.ofNat i) = some (if i < ns then LVL (shB (sI S 127 0) (sI S 134 (3 * i))) (shB (sI S 127 0) (sI S 134 (3 * i + 1))) (shB (sI S 127 0) (sI S 134 (3 * i + 2))) else (-1001 : Int32), S2) ∧ RD n (r + 1) S S2 := by
  obtain ⟨⟨z1, z2, z3, z4, z5, z6⟩, ⟨now, aud, key, hlp⟩, flo, ⟨fac, wrg, kn⟩, ⟨att, ast, ash⟩, ⟨sp, usd, lv, ssh⟩, ⟨cod, cfa, fam, num, god⟩, tok, out, ⟨srv, tol⟩, con⟩ := id L
  have n1 := z1.2.2
  have n3 := z3.2.2
  have n4 := z4.2.2
  have n5 := z5.2.2
  have n6 := z6.2.2
  refine rd_step (fun c v t => ANc [-1001] c v t) R (fun T iv rp => tg_level iv (by omega) rp) (by decide +kernel) (fun m mf gk => ?_)
  have oi : (Int32.ofNat i).toNatClampNeg = i := oc (by omega)
  have z : ∀ k j, 57 ≤ k → k < 126 → ¬ (k = 57 ∧ (100 ≤ j ∨ j = 82)) → sI (wI m 57 82 0) k j = sI S k j := fun k j h1 h2 h3 => (ti_sI_ne (by omega)).trans (gk k j h1 h2 h3)
  have mz : MF (wI m 57 82 0) := MF_e mf rfl
  unfold f_M_level
  refine p_of st_rv (p_ex (fun x => x) (p_isSes ((gk 57 30 (by omega) (by omega) (by omega)).trans z1.2.1) (by omega) (by omega)) (fun h => ?_))
  refine p_of st_rv (p_b2 (p_levelNow mz (by omega)) (fun v' m' q => ?_))
  obtain ⟨q1, q2⟩ := Prod.mk.inj q
  rw [q1, q2, z 57 0 (by omega) (by omega) (by omega), z 90 _ (by omega) (by omega) (by omega), z 90 _ (by omega) (by omega) (by omega), z 90 _ (by omega) (by omega) (by omega)]
  exact p_ret ⟨rfl, (lvl_eq now ssh h).symm⟩
theorem rd_tokenOf (R : RD n r S S') (hn : n ≤ 500) (L : LW ns nc nf nt nk na S S) {i : Nat} (hi : i ≤ nf) : ∃ S2, f_W_oneg S' (some 4) (8 : Int32) (Int32.ofNat i) = some (if i < nf then sI S 136 (5 * i + 3) else (-1001 : Int32), S2) ∧ RD n (r + 1) S S2 := by
  obtain ⟨⟨z1, z2, z3, z4, z5, z6⟩, ⟨now, aud, key, hlp⟩, flo, ⟨fac, wrg, kn⟩, ⟨att, ast, ash⟩, ⟨sp, usd, lv, ssh⟩, ⟨cod, cfa, fam, num, god⟩, tok, out, ⟨srv, tol⟩, con⟩ := id L
  have n1 := z1.2.2
  have n3 := z3.2.2
  have n4 := z4.2.2
  have n5 := z5.2.2
  have n6 := z6.2.2
  refine rd_step (fun c v t => ANc [-1001] c v t) R (fun T iv rp => tg_tokenOf iv (by omega) rp) (by decide +kernel) (fun m mf gk => ?_)
  have oi : (Int32.ofNat i).toNatClampNeg = i := oc (by omega)
  have z : ∀ k j, 57 ≤ k → k < 126 → ¬ (k = 57 ∧ (100 ≤ j ∨ j = 82)) → sI (wI m 57 82 0) k j = sI S k j := fun k j h1 h2 h3 => (ti_sI_ne (by omega)).trans (gk k j h1 h2 h3)
  unfold f_M_tokenOf
  refine p_of st_rv (p_ex (fun x => x) (p_isFam ((gk 57 46 (by omega) (by omega) (by omega)).trans z3.2.1) (by omega) (by omega)) (fun h => ?_))
  exact p_of (st_gRe (v := some 102) (mf 50 102 rfl)) (p_of (st_aIe (v := sI S 136 (5 * i + 3)) oi ((z 102 i (by omega) (by omega) (by omega)).trans (num i h).2.2.symm)) (p_ret ⟨rfl, rfl⟩))
theorem rd_token (R : RD n r S S') (hn : n ≤ 500) (L : LW ns nc nf nt nk na S S) {i : Nat} (hi : i ≤ nt) : ∃ S2, f_W_oneg S' (some 4) (9 : Int32) (Int32.ofNat i) = some (if i < nt then ((((1000 : Int32) * sI S 110 i) + ((100 : Int32) * sI S 104 i)) + ((10 : Int32) * sI S 105 i)) + sI S 107 i else (-1001 : Int32), S2) ∧ RD n (r + 1) S S2 := by
  obtain ⟨⟨z1, z2, z3, z4, z5, z6⟩, ⟨now, aud, key, hlp⟩, flo, ⟨fac, wrg, kn⟩, ⟨att, ast, ash⟩, ⟨sp, usd, lv, ssh⟩, ⟨cod, cfa, fam, num, god⟩, tok, out, ⟨srv, tol⟩, con⟩ := id L
  have n1 := z1.2.2
  have n3 := z3.2.2
  have n4 := z4.2.2
  have n5 := z5.2.2
  have n6 := z6.2.2
  refine rd_step (fun c v t => ANc [-1001] c v t) R (fun T iv rp => tg_token iv (by omega) rp) (by decide +kernel) (fun m mf gk => ?_)
  have oi : (Int32.ofNat i).toNatClampNeg = i := oc (by omega)
  have z : ∀ k j, 57 ≤ k → k < 126 → ¬ (k = 57 ∧ (100 ≤ j ∨ j = 82)) → sI (wI m 57 82 0) k j = sI S k j := fun k j h1 h2 h3 => (ti_sI_ne (by omega)).trans (gk k j h1 h2 h3)
  unfold f_M_token
  refine p_of st_rv (p_ex (fun x => x) (p_isTk ((gk 57 52 (by omega) (by omega) (by omega)).trans z4.2.1) (by omega) (by omega)) (fun h => ?_))
  exact p_of (st_gRe (v := some 110) (mf 59 110 rfl)) (p_of (st_aIe (v := sI S 110 i) oi (z 110 i (by omega) (by omega) (by omega))) (p_of (st_gRe (v := some 104) (mf 53 104 rfl)) (p_of (st_aIe (v := sI S 104 i) oi (z 104 i (by omega) (by omega) (by omega))) (p_of (st_gRe (v := some 105) (mf 54 105 rfl)) (p_of (st_aIe (v := sI S 105 i) oi (z 105 i (by omega) (by omega) (by omega))) (p_of (st_gRe (v := some 107) (mf 56 107 rfl)) (p_of (st_aIe (v := sI S 107 i) oi (z 107 i (by omega) (by omega) (by omega))) (p_ret ⟨rfl, rfl⟩))))))))
theorem rd_lag (R : RD n r S S') (hn : n ≤ 500) (L : LW ns nc nf nt nk na S S) {i : Nat} (hi : i ≤ nt) {fa au : Nat} (hfa : i < nt → fa < nf ∧ sI S 108 i = Int32.ofNat fa) (hau : i < nt → au < 4 ∧ sI S 105 i = Int32.ofNat au) : ∃ S2, f_W_oneg S' (some 4) (11 : Int32) (Int32.ofNat i) = some (if i < nt then (if sI S 103 fa = 0 ∧ sI S 116 (60 * au + fa) = 0 ∧ ¬ sI S 110 i < sI S 57 0 then (sI S 110 i - sI S 57 0) + (1 : Int32) else 0) else (-1001 : Int32), S2) ∧ RD n (r + 1) S S2 := by
  obtain ⟨⟨z1, z2, z3, z4, z5, z6⟩, ⟨now, aud, key, hlp⟩, flo, ⟨fac, wrg, kn⟩, ⟨att, ast, ash⟩, ⟨sp, usd, lv, ssh⟩, ⟨cod, cfa, fam, num, god⟩, tok, out, ⟨srv, tol⟩, con⟩ := id L
  have n1 := z1.2.2
  have n3 := z3.2.2
  have n4 := z4.2.2
  have n5 := z5.2.2
  have n6 := z6.2.2
  refine rd_step (fun c v t => ANc [-1001] c v t) R (fun T iv rp => tg_lag iv (by omega) rp) (by decide +kernel) (fun m mf gk => ?_)
  have oi : (Int32.ofNat i).toNatClampNeg = i := oc (by omega)
  have z : ∀ k j, 57 ≤ k → k < 126 → ¬ (k = 57 ∧ (100 ≤ j ∨ j = 82)) → sI (wI m 57 82 0) k j = sI S k j := fun k j h1 h2 h3 => (ti_sI_ne (by omega)).trans (gk k j h1 h2 h3)
  unfold f_M_lag
  refine p_of st_rv (p_ex (fun x => x) (p_isTk ((gk 57 52 (by omega) (by omega) (by omega)).trans z4.2.1) (by omega) (by omega)) (fun h => ?_))
  obtain ⟨f1, f2⟩ := hfa h
  obtain ⟨u1, u2⟩ := hau h
  have no : Hp (f_M_lag_B69 (wI m 57 82 0) (some 57) (Int32.ofNat i)) (fun q => q.2 = wI m 57 82 0 ∧ q.1 = 0) := by
    unfold f_M_lag_B69 f_M_lag_B70
    exact p_of (st_T rfl) (p_ret ⟨rfl, rfl⟩)
  refine p_of (st_gRe (v := some 103) (mf 51 103 rfl)) (p_of (st_gRe (v := some 108) (mf 57 108 rfl)) (p_of (st_aIe (v := Int32.ofNat fa) oi ((z 108 i (by omega) (by omega) (by omega)).trans f2)) (p_of (st_aIe (v := sI S 103 fa) (oc (by omega)) (z 103 fa (by omega) (by omega) (by omega))) ?_)))
  by_cases d1 : sI S 103 fa = 0
  · refine p_of (st_T d1) (p_of (st_gRe (v := some 116) (mf 69 116 rfl)) (p_of (st_gRe (v := some 105) (mf 54 105 rfl)) (p_of (st_aIe (v := Int32.ofNat au) oi ((z 105 i (by omega) (by omega) (by omega)).trans u2)) (p_of (st_gRe (v := some 108) (mf 57 108 rfl)) (p_of (st_aIe (v := Int32.ofNat fa) oi ((z 108 i (by omega) (by omega) (by omega)).trans f2)) (p_of (st_aIe (n := 60 * au + fa) (v := sI S 116 (60 * au + fa)) (by rw [show (60 : Int32) * Int32.ofNat au + Int32.ofNat fa = Int32.ofNat (60 * au + fa) from wix 60 au fa]; exact oc (by omega)) (z 116 _ (by omega) (by omega) (by omega))) ?_))))))
    by_cases d2 : sI S 116 (60 * au + fa) = 0
    · refine p_of (st_T d2) (p_of (st_gIe (v := sI S 57 0) (z 57 0 (by omega) (by omega) (by omega))) (p_of (st_gRe (v := some 110) (mf 59 110 rfl)) (p_of (st_aIe (v := sI S 110 i) oi (z 110 i (by omega) (by omega) (by omega))) ?_)))
      by_cases d3 : sI S 110 i < sI S 57 0
      · refine p_of (st_T d3) ?_
        rw [if_neg (c := sI S 103 fa = 0 ∧ sI S 116 (60 * au + fa) = 0 ∧ ¬ sI S 110 i < sI S 57 0) (fun y => y.2.2 d3)]
        exact no
      · refine p_of (st_F d3) ?_
        rw [if_pos (c := sI S 103 fa = 0 ∧ sI S 116 (60 * au + fa) = 0 ∧ ¬ sI S 110 i < sI S 57 0) ⟨d1, d2, d3⟩]
        unfold f_M_lag_B70
        exact p_of (st_F one0) (p_of (st_gRe (v := some 110) (mf 59 110 rfl)) (p_of (st_aIe (v := sI S 110 i) oi (z 110 i (by omega) (by omega) (by omega))) (p_of (st_gIe (v := sI S 57 0) (z 57 0 (by omega) (by omega) (by omega))) (p_ret ⟨rfl, rfl⟩))))
    · refine p_of (st_F d2) ?_
      rw [if_neg (c := sI S 103 fa = 0 ∧ sI S 116 (60 * au + fa) = 0 ∧ ¬ sI S 110 i < sI S 57 0) (fun y => d2 y.2.1)]
      exact no
  · refine p_of (st_F d1) ?_
    rw [if_neg (c := sI S 103 fa = 0 ∧ sI S 116 (60 * au + fa) = 0 ∧ ¬ sI S 110 i < sI S 57 0) (fun y => d1 y.1)]
    exact no
theorem rd_isLive (R : RD n r S S') (hn : n ≤ 500) (L : LW ns nc nf nt nk na S S) {i : Nat} (hi : i ≤ ns) : ∃ S2, f_W_isg S' (some 4) (0 : Int32) (Int32.ofNat i) = some (if i < ns then sI S 89 i else (-1001 : Int32), S2) ∧ RD n (r + 1) S S2 := by
  obtain ⟨⟨z1, z2, z3, z4, z5, z6⟩, ⟨now, aud, key, hlp⟩, flo, ⟨fac, wrg, kn⟩, ⟨att, ast, ash⟩, ⟨sp, usd, lv, ssh⟩, ⟨cod, cfa, fam, num, god⟩, tok, out, ⟨srv, tol⟩, con⟩ := id L
  have n1 := z1.2.2
  have n3 := z3.2.2
  have n4 := z4.2.2
  have n5 := z5.2.2
  have n6 := z6.2.2
  refine rd_step (fun c v t => ANc [-1001] c (if v = 0 then 0 else 1) t) R (fun T iv rp => tg_isLive iv (by omega) rp) (by decide +kernel) (fun m mf gk => ?_)
  have oi : (Int32.ofNat i).toNatClampNeg = i := oc (by omega)
  have z : ∀ k j, 57 ≤ k → k < 126 → ¬ (k = 57 ∧ (100 ≤ j ∨ j = 82)) → sI (wI m 57 82 0) k j = sI S k j := fun k j h1 h2 h3 => (ti_sI_ne (by omega)).trans (gk k j h1 h2 h3)
  unfold f_M_isLive
  refine p_of st_rv (p_ex (fun v => if v = 0 then 0 else 1) (p_isSes ((gk 57 30 (by omega) (by omega) (by omega)).trans z1.2.1) (by omega) (by omega)) (fun h => ?_))
  refine p_of (st_gRe (v := some 89) (mf 35 89 rfl)) (p_of (st_aIe (v := sI S 89 i) oi (z 89 i (by omega) (by omega) (by omega))) ?_)
  rcases lv i h with ⟨e, -⟩ | ⟨e, -⟩
  · rw [e]
    exact p_of (st_F one0) (p_ret ⟨rfl, rfl⟩)
  · rw [e]
    exact p_of (st_T rfl) (p_ret ⟨rfl, rfl⟩)
theorem rd_isGood (R : RD n r S S') (hn : n ≤ 500) (L : LW ns nc nf nt nk na S S) {i : Nat} (hi : i ≤ nf) : ∃ S2, f_W_isg S' (some 4) (2 : Int32) (Int32.ofNat i) = some (if i < nf then sI S 136 (5 * i + 4) else (-1001 : Int32), S2) ∧ RD n (r + 1) S S2 := by
  obtain ⟨⟨z1, z2, z3, z4, z5, z6⟩, ⟨now, aud, key, hlp⟩, flo, ⟨fac, wrg, kn⟩, ⟨att, ast, ash⟩, ⟨sp, usd, lv, ssh⟩, ⟨cod, cfa, fam, num, god⟩, tok, out, ⟨srv, tol⟩, con⟩ := id L
  have n1 := z1.2.2
  have n3 := z3.2.2
  have n4 := z4.2.2
  have n5 := z5.2.2
  have n6 := z6.2.2
  refine rd_step (fun c v t => ANc [-1001] c (if v = 0 then 0 else 1) t) R (fun T iv rp => tg_isGood iv (by omega) rp) (by decide +kernel) (fun m mf gk => ?_)
  have oi : (Int32.ofNat i).toNatClampNeg = i := oc (by omega)
  have z : ∀ k j, 57 ≤ k → k < 126 → ¬ (k = 57 ∧ (100 ≤ j ∨ j = 82)) → sI (wI m 57 82 0) k j = sI S k j := fun k j h1 h2 h3 => (ti_sI_ne (by omega)).trans (gk k j h1 h2 h3)
  unfold f_M_isGood
  refine p_of st_rv (p_ex (fun v => if v = 0 then 0 else 1) (p_isFam ((gk 57 46 (by omega) (by omega) (by omega)).trans z3.2.1) (by omega) (by omega)) (fun h => ?_))
  obtain ⟨g1, g2⟩ := god i h
  refine p_of (st_gRe (v := some 103) (mf 51 103 rfl)) (p_of (st_aIe (v := sI S 103 i) oi (z 103 i (by omega) (by omega) (by omega))) ?_)
  rw [g1]
  rcases g2 with e | e
  · rw [e]
    exact p_of (st_T rfl) (p_ret ⟨rfl, rfl⟩)
  · rw [e]
    exact p_of (st_F one0) (p_ret ⟨rfl, rfl⟩)
theorem rd_isPublished (R : RD n r S S') (hn : n ≤ 500) (L : LW ns nc nf nt nk na S S) {i : Nat} (hi : i ≤ nk) {w : Int32} (hw : i < nk → (w = 1 ∧ KP (sI S 57 0).toInt S i) ∨ (w = 0 ∧ ¬ KP (sI S 57 0).toInt S i)) : ∃ S2, f_W_isg S' (some 4) (3 : Int32) (Int32.ofNat i) = some (if i < nk then w else (-1001 : Int32), S2) ∧ RD n (r + 1) S S2 := by
  obtain ⟨⟨z1, z2, z3, z4, z5, z6⟩, ⟨now, aud, key, hlp⟩, flo, ⟨fac, wrg, kn⟩, ⟨att, ast, ash⟩, ⟨sp, usd, lv, ssh⟩, ⟨cod, cfa, fam, num, god⟩, tok, out, ⟨srv, tol⟩, con⟩ := id L
  have n1 := z1.2.2
  have n3 := z3.2.2
  have n4 := z4.2.2
  have n5 := z5.2.2
  have n6 := z6.2.2
  refine rd_step (fun c v t => ANc [-1001] c (if v = 0 then 0 else 1) t) R (fun T iv rp => tg_isPublished iv (by omega) rp) (by decide +kernel) (fun m mf gk => ?_)
  have oi : (Int32.ofNat i).toNatClampNeg = i := oc (by omega)
  have z : ∀ k j, 57 ≤ k → k < 126 → ¬ (k = 57 ∧ (100 ≤ j ∨ j = 82)) → sI (wI m 57 82 0) k j = sI S k j := fun k j h1 h2 h3 => (ti_sI_ne (by omega)).trans (gk k j h1 h2 h3)
  have mz : MF (wI m 57 82 0) := MF_e mf rfl
  unfold f_M_isPublished
  refine p_of (st_gIe ((gk 57 60 (by omega) (by omega) (by omega)).trans z5.2.1)) (p_ex (n := nk) (i := i) (fun v => if v = 0 then 0 else 1) (fun q h => ?_) (fun h => ?_))
  · rw [q_isIn] at h
    cases h
    by_cases c : i < nk
    · rw [if_pos ((isN (by omega) (by omega)).mpr c), if_pos c]
    · rw [if_neg (fun q => c ((isN (by omega) (by omega)).mp q)), if_neg c]
  have kp : KP (sI (wI m 57 82 0) 57 0).toInt (wI m 57 82 0) i ↔ KP (sI S 57 0).toInt S i := by
    unfold KP
    rw [z 57 0 (by omega) (by omega) (by omega), z 57 60 (by omega) (by omega) (by omega), z 111 i (by omega) (by omega) (by omega), z 112 i (by omega) (by omega) (by omega)]
  refine p_of st_rv (p_b2 (p_open (c := nk) mz ((z 57 60 (by omega) (by omega) (by omega)).trans z5.2.1) (by omega) (by omega)) (fun v' m' q => ?_))
  obtain ⟨q1, q2, q3⟩ := q
  have q1 : m' = wI m 57 82 0 := q1
  have q2 : v' = 0 ∨ v' = 1 := q2
  have q3 : v' = 1 ↔ KP (sI (wI m 57 82 0) 57 0).toInt (wI m 57 82 0) i := q3
  rw [q1]
  rcases hw h with ⟨e, y⟩ | ⟨e, y⟩
  · rw [q3.mpr (kp.mpr y), e]
    exact p_of (st_F one0) (p_ret ⟨rfl, rfl⟩)
  · rcases q2 with e2 | e2
    · rw [e2, e]
      exact p_of (st_T rfl) (p_ret ⟨rfl, rfl⟩)
    · exact absurd (kp.mp (q3.mp e2)) y
theorem p_la {m : AS} (hmf : MF m) {N s i0 : Nat} (hN : N ≤ 1024) (e77 : sI m 57 77 = Int32.ofNat N) (h2 : sI m 124 i0 = Int32.ofNat s) (h3 : sI m 123 i0 = 0 ∨ sI m 123 i0 = 1) (h4 : ∀ j, i0 < j → j < N → sI m 124 j = Int32.ofNat s → ¬ sI m 123 j < 2) (h1 : i0 < N) : ∀ (k i fu : Nat) (x : Int32), i + k = N → (i0 < i → x = if sI m 123 i0 = 0 then 1 else 0) → Hp (f_M_isLiveByAudit_L18 fu m (some 57) (Int32.ofNat s) x (Int32.ofNat i)) (fun q => q = (if sI m 123 i0 = 0 then 1 else 0, m))
  | _, _, 0, _, _, _ => p_0
  | k, i, fu + 1, x, hk, hx => by
    unfold f_M_isLiveByAudit_L18 f_M_isLiveByAudit_C18
    refine p_of (st_gIe e77) ?_
    by_cases hi : i < N
    · have oi : (Int32.ofNat i).toNatClampNeg = i := nnc (by omega)
      have go : ∀ x', (i0 < i + 1 → x' = if sI m 123 i0 = 0 then 1 else 0) → Hp (f_M_isLiveByAudit_B64 (f_M_isLiveByAudit_L18 fu) m (some 57) (Int32.ofNat s) (Int32.ofNat i) x') (fun q => q = (if sI m 123 i0 = 0 then 1 else 0, m)) := fun x' hx' => by
        unfold f_M_isLiveByAudit_B64
        refine p_of st_val ?_
        rw [o1]
        exact p_la hmf hN e77 h2 h3 h4 h1 (k - 1) (i + 1) fu x' (by omega) hx'
      refine p_of (st_F (fun q => by have := (oleq (a := N) (b := i) (by omega) (by omega)).mp q; omega)) (p_of (st_gRe (hmf 79 124 rfl)) (p_of (st_aIe (v := sI m 124 i) oi rfl) ?_))
      have no : (i ≠ i0) → Hp (f_M_isLiveByAudit_B63 (f_M_isLiveByAudit_L18 fu) m (some 57) (Int32.ofNat s) x (Int32.ofNat i)) (fun q => q = (if sI m 123 i0 = 0 then 1 else 0, m)) := fun d => by
        unfold f_M_isLiveByAudit_B63
        exact go x (fun y => hx (by omega))
      by_cases c : sI m 124 i = Int32.ofNat s
      · refine p_of (st_T c) (p_of (st_gRe (hmf 78 123 rfl)) (p_of (st_aIe (v := sI m 123 i) oi rfl) ?_))
        by_cases d : (2 : Int32) ≤ sI m 123 i
        · refine p_of (st_T d) (no (fun y => ?_))
          rw [y] at d
          rcases h3 with e | e
          · rw [e] at d
            exact absurd d (by decide)
          · rw [e] at d
            exact absurd d (by decide)
        · refine p_of (st_F d) (p_of (st_gRe (hmf 78 123 rfl)) (p_of (st_aIe (v := sI m 123 i) oi rfl) ?_))
          have le : ¬ i0 < i := fun y => d (Int32.not_lt.mp (h4 i y hi c))
          by_cases e : sI m 123 i = 0
          · refine p_of (st_T e) (go 1 (fun y => ?_))
            have ei : i = i0 := by omega
            rw [← ei, if_pos e]
          · refine p_of (st_F e) (go 0 (fun y => ?_))
            have ei : i = i0 := by omega
            rw [← ei, if_neg e]
      · exact p_of (st_F c) (no (fun y => c (by rw [y]; exact h2)))
    · rw [← hx (by omega)]
      exact p_of (st_T ((oleq (a := N) (b := i) (by omega) (by omega)).mpr (by omega))) (p_of st_z (p_ret rfl))
theorem rd_isLiveByAudit (R : RD n r S S') (hn : n ≤ 500) (L : LW ns nc nf nt nk na S S) {i : Nat} (hi : i ≤ ns) {T0 : Nat → Nat} {r0 : Nat} (L0 : L54 n r0 T0 S) : ∃ S2, f_W_isg S' (some 4) (1 : Int32) (Int32.ofNat i) = some (if i < ns then sI S 89 i else (-1001 : Int32), S2) ∧ RD n (r + 1) S S2 := by
  obtain ⟨⟨z1, z2, z3, z4, z5, z6⟩, ⟨now, aud, key, hlp⟩, flo, ⟨fac, wrg, kn⟩, ⟨att, ast, ash⟩, ⟨sp, usd, lv, ssh⟩, ⟨cod, cfa, fam, num, god⟩, tok, out, ⟨srv, tol⟩, con⟩ := id L
  have n1 := z1.2.2
  have n3 := z3.2.2
  have n4 := z4.2.2
  have n5 := z5.2.2
  have n6 := z6.2.2
  refine rd_step (fun c v t => ANc [-1001] c (if v = 0 then 0 else 1) t) R (fun T iv rp => tg_isLiveByAudit iv (by omega) rp) (by decide +kernel) (fun m mf gk => ?_)
  have oi : (Int32.ofNat i).toNatClampNeg = i := oc (by omega)
  have z : ∀ k j, 57 ≤ k → k < 126 → ¬ (k = 57 ∧ (100 ≤ j ∨ j = 82)) → sI (wI m 57 82 0) k j = sI S k j := fun k j h1 h2 h3 => (ti_sI_ne (by omega)).trans (gk k j h1 h2 h3)
  unfold f_M_isLiveByAudit
  refine p_of st_rv (p_ex (fun v => if v = 0 then 0 else 1) (p_isSes ((gk 57 30 (by omega) (by omega) (by omega)).trans z1.2.1) (by omega) (by omega)) (fun h => ?_))
  have p77 := Ph_77 L0.1.1 L0.1.2.2.1 (by omega)
  obtain ⟨c1, -, -, c4⟩ := L0.2.1.2.2.AU.1
  obtain ⟨-, -, c5⟩ := c4 (by omega)
  have en : nS S = ns := by
    unfold nS nn
    rw [z1.2.1]
    exact oc (by omega)
  obtain ⟨i0, h1, h2, h3, h4⟩ := c5 i (by rw [en]; exact h)
  obtain ⟨N, eN⟩ : ∃ N, N = (sI S 57 77).toInt.toNat := ⟨_, rfl⟩
  have e77 : sI S 57 77 = Int32.ofNat N := Int32.toInt_inj.mp (by rw [oiq (by omega)]; omega)
  have e3 : sI (wI m 57 82 0) 123 i0 = if sI S 89 i = 1 then 0 else 1 := (z 123 i0 (by omega) (by omega) (by omega)).trans h3
  refine p_is (fun q hq => ?_)
  have := p_la (m := wI m 57 82 0) (MF_e mf rfl) (N := N) (s := i) (i0 := i0) (by omega) ((z 57 77 (by omega) (by omega) (by omega)).trans e77) ((z 124 i0 (by omega) (by omega) (by omega)).trans h2) (by
    rw [e3]
    rcases lv i h with ⟨e, -⟩ | ⟨e, -⟩
    · rw [e]
      exact Or.inl rfl
    · rw [e]
      exact Or.inr rfl) (fun j y1 y2 y3 => by
    rw [z 124 j (by omega) (by omega) (by omega)] at y3
    rw [z 123 j (by omega) (by omega) (by omega)]
    exact h4 j y1 (by omega) y3) (by omega) N 0 kr_FU 0 (Nat.zero_add N) (fun y => absurd y (Nat.not_lt_zero _)) q hq
  rw [this, e3]
  refine ⟨rfl, ?_⟩
  rcases lv i h with ⟨e, -⟩ | ⟨e, -⟩
  · rw [e]
    rfl
  · rw [e]
    rfl
end
