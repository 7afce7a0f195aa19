/-! ===== sessions: what the law looks at first; helping; signing out ===== -/
theorem isN {s n : Nat} (hs : s ≤ 1000) (hn : n ≤ 1000) : ((0 : Int32) ≤ Int32.ofNat s ∧ Int32.ofNat s ≤ Int32.ofNat n - 1) ↔ s < n := by
  cases n with
  | zero =>
    refine ⟨fun h => ?_, fun h => absurd h (Nat.not_lt_zero _)⟩
    have := Int32.le_iff_toInt_le.mp h.2
    rw [oiq (by omega), show (Int32.ofNat 0 - 1).toInt = -1 from by decide] at this
    omega
  | succ w =>
    rw [qsub1]
    refine ⟨fun h => ?_, fun h => ⟨(oleq (a := 0) (by omega) (by omega)).mpr (Nat.zero_le _), (oleq (by omega) (by omega)).mpr (by omega)⟩⟩
    have := (oleq (by omega) (by omega)).mp h.2
    omega
section
variable {m : AS} {s n : Nat}
theorem p_isSes (h : sI m 57 30 = Int32.ofNat n) (hs : s ≤ 100) (hn : n ≤ 100) : Hp (f_M_isSession m (some 57) (Int32.ofNat s)) (fun q => q = (if s < n then 1 else 0, m)) := by
  unfold f_M_isSession
  refine p_of (st_gIe h) (p_of (st_b2 (q_isIn m _ _ _)) ?_)
  by_cases c : s < n
  · rw [if_pos ((isN (by omega) (by omega)).mpr c), if_pos c]
    exact p_of st_z (p_ret rfl)
  · rw [if_neg (fun q => c ((isN (by omega) (by omega)).mp q)), if_neg c]
    exact p_of st_z (p_ret rfl)
theorem p_isAtt (h : sI m 57 19 = Int32.ofNat n) (hs : s ≤ 100) (hn : n ≤ 100) : Hp (f_M_isAttempt m (some 57) (Int32.ofNat s)) (fun q => q = (if s < n then 1 else 0, m)) := by
  unfold f_M_isAttempt
  refine p_of (st_gIe h) (p_of (st_b2 (q_isIn m _ _ _)) ?_)
  by_cases c : s < n
  · rw [if_pos ((isN (by omega) (by omega)).mpr c), if_pos c]
    exact p_of st_z (p_ret rfl)
  · rw [if_neg (fun q => c ((isN (by omega) (by omega)).mp q)), if_neg c]
    exact p_of st_z (p_ret rfl)
theorem p_isFam (h : sI m 57 46 = Int32.ofNat n) (hs : s ≤ 100) (hn : n ≤ 100) : Hp (f_M_isFamily m (some 57) (Int32.ofNat s)) (fun q => q = (if s < n then 1 else 0, m)) := by
  unfold f_M_isFamily
  refine p_of (st_gIe h) (p_of (st_b2 (q_isIn m _ _ _)) ?_)
  by_cases c : s < n
  · rw [if_pos ((isN (by omega) (by omega)).mpr c), if_pos c]
    exact p_of st_z (p_ret rfl)
  · rw [if_neg (fun q => c ((isN (by omega) (by omega)).mp q)), if_neg c]
    exact p_of st_z (p_ret rfl)
theorem p_isTk (h : sI m 57 52 = Int32.ofNat n) (hs : s ≤ 100) (hn : n ≤ 100) : Hp (f_M_isToken m (some 57) (Int32.ofNat s)) (fun q => q = (if s < n then 1 else 0, m)) := by
  unfold f_M_isToken
  refine p_of (st_gIe h) (p_of (st_b2 (q_isIn m _ _ _)) ?_)
  by_cases c : s < n
  · rw [if_pos ((isN (by omega) (by omega)).mpr c), if_pos c]
    exact p_of st_z (p_ret rfl)
  · rw [if_neg (fun q => c ((isN (by omega) (by omega)).mp q)), if_neg c]
    exact p_of st_z (p_ret rfl)
end
theorem bt_xor (a b : Int32) (j : Nat) : bt (a ^^^ b) j = (bt a j != bt b j) := by
  unfold bt
  rw [Int32.toBitVec_xor, BitVec.getLsbD_xor]
theorem m1_of {x : Int32} (h : x + 1 = 0) : x = -1 := by
  have := congrArg (fun x => x - 1) h
  simpa using this
theorem BH_LF {n r : Nat} {T1 : Nat → Nat} {Sa S1 S2 S' : AS} (h : BH n r T1 Sa S1 S2) (l : LF S2 S') (pts : lPN (n + 1) S') (lw : ∃ ns nc nf nt nk na, LW ns nc nf nt nk na S' S') : L54 (n + 1) (r + 1) T1 S' := by
  obtain ⟨iv, rp, tl, ⟨c1, c2⟩, -⟩ := h
  exact ⟨LF_IV iv tl l, LF_RPF iv.1 tl rp l, tl, pts, ⟨by rw [l.2.2.2.2.2.1]; exact c1, by rw [l.2.2.2.2.2.2.1]; exact c2⟩, lw⟩
theorem LF_GK {S S' : AS} (l : LF S S') : GK S S' := fun k j h1 h2 _ => by rw [l.2.2.2.2.2.2.2 k (by omega)]
theorem LW_SW {ns nc nf nt nk na : Nat} {S m : AS} (h : LW ns nc nf nt nk na S m) (lr : LR S) (mf : MF m) : SW ns nc nf nt nk S m := by
  obtain ⟨⟨z1, z2, z3, z4, z5, z6⟩, ⟨now, aud, key, hlp⟩, flo, ⟨fac, wrg, kn⟩, ⟨att, ast, ash⟩, ⟨sp, usd, liv, ssh⟩, ⟨cod, cfa, fam, num, god⟩, tok, out, ⟨srv, tol⟩, con⟩ := h
  exact ⟨lr, mf, ⟨z1, z3, z4⟩, ⟨z2.2.2, z5.2.2⟩, now, tok, fam, cod, sp, srv⟩
theorem LW_EW {ns nc nf nt nk na : Nat} {S m : AS} (h : LW ns nc nf nt nk na S m) : EW ns nf S m S m := by
  obtain ⟨⟨z1, z2, z3, z4, z5, z6⟩, ⟨now, aud, key, hlp⟩, flo, ⟨fac, wrg, kn⟩, ⟨att, ast, ash⟩, ⟨sp, usd, liv, ssh⟩, ⟨cod, cfa, fam, num, god⟩, tok, out, ⟨srv, tol⟩, con⟩ := h
  exact EW_rf aud god tol liv
/-- behind the ends the relation holds again -/
theorem LW_ends {ns nc nf nt nk na : Nat} {S m S' m' : AS} (h : LW ns nc nf nt nk na S m) (e : EW ns nf S m S' m') : LW ns nc nf nt nk na S' m' := by
  obtain ⟨-, o, ⟨-, -, om⟩, aud, god, tol, liv⟩ := e
  exact LWa_ends h (fun k j h1 h2 h3 => o k j (by omega) (by omega) (by omega) (by omega)) (fun k j h1 h2 h3 h4 => om k j (by omega) (by omega) (by omega) (by omega) (by omega) (by omega) (by omega)) aud god tol liv
section
variable {n r : Nat} {T : Nat → Nat} {S : AS} {ns : Nat}
theorem ses_pre {Q : Int32 × AS → Prop} {kind y : Int32} (lr : LR S) (z : lSz 1 30 14 ns S S) (sp : lSp ns S S) (lv : lLiv ns S S) (hk : ¬ kind = 0) (H : ∀ s, s ≤ ns → ∀ x13 y0 : Int32, ((s < ns ∧ x13 = 1) ∨ (s = ns ∧ x13 = 0)) → ((y0 = 1 ∧ s < ns ∧ sI S 89 s = 1) ∨ (y0 = 0 ∧ (s < ns → sI S 89 s = 0))) → Ho (f_W_sessions_B180 S (some 4) kind y (some 127) (some 129) (some 133) (some 134) (some 135) (some 136) (some 137) (some 139) (Int32.ofNat s) x13 y0) Q) : Ho (f_W_sessions S (some 4) kind y (some 127) (some 129) (some 133) (some 134) (some 135) (some 136) (some 137) (some 138) (some 139)) Q := by
  obtain ⟨r127, -, -, -, -, -, r133, -⟩ := lr
  have n14 := z.2.2
  unfold f_W_sessions
  refine r_ifF hk (o_some 5 rfl (by decide) (by decide) (fun v _ => ?_))
  have go : ∀ s, s ≤ ns → Ho (f_W_sessions_B139 S (some 4) kind y (some 127) (some 129) (some 133) (some 134) (some 135) (some 136) (some 137) (some 139) (Int32.ofNat s)) Q := fun s hs => by
    unfold f_W_sessions_B139
    refine o_aIe r127 (n := 1) rfl (by decide) z.1 ?_
    by_cases c : s < ns
    · refine r_ifF (fun q => by have := (oleq (a := ns) (b := s) (by omega) (by omega)).mp q; omega) ?_
      unfold f_W_sessions_B154
      refine r_ifF one0 ?_
      obtain ⟨-, -, o, o1', o2⟩ := sp s c
      rcases lv s c with ⟨l1, l2⟩ | ⟨l1, l2⟩
      · exact o_aIe r133 (n := 4 * s + 3) (wix 4 s 3) (by omega) (l2.trans o2) (r_ifF (fun q => by have := (oleq (a := 100) (b := o) (by omega) (by omega)).mp q; omega) (H s hs 1 1 (Or.inl ⟨c, rfl⟩) (Or.inl ⟨rfl, c, l1⟩)))
      · refine o_aIe (v := Int32.ofNat (o + 100)) r133 (n := 4 * s + 3) (wix 4 s 3) (by omega) (l2.trans (by rw [o2]; exact wadd o 100)) (r_ifT ((oleq (a := 100) (b := o + 100) (by omega) (by omega)).mpr (by omega)) ?_)
        unfold f_W_sessions_B179
        exact H s hs 1 0 (Or.inl ⟨c, rfl⟩) (Or.inr ⟨rfl, fun _ => l1⟩)
    · refine r_ifT ((oleq (a := ns) (b := s) (by omega) (by omega)).mpr (by omega)) ?_
      unfold f_W_sessions_B154
      refine r_ifT rfl ?_
      unfold f_W_sessions_B179
      exact H s hs 0 0 (Or.inr ⟨by omega, rfl⟩) (Or.inr ⟨rfl, fun h => absurd h c⟩)
  by_cases c : Int32.ofNat v = 0
  · exact r_ifT c (o_aIe r127 (n := 1) rfl (by decide) z.1 (o_some (ns + 1) (o1 ns) (by omega) (by omega) (fun w hw => go w (by omega))))
  · refine r_ifF c (o_aIe r127 (n := 1) rfl (by decide) z.1 ?_)
    by_cases c2 : ns = 0
    · exact r_ifT (by rw [c2]; decide) (go 0 (by omega))
    · exact r_ifF (fun q => c2 (by have := (oleq (a := ns) (b := 0) (by omega) (by omega)).mp q; omega)) (o_aIe r127 (n := 1) rfl (by decide) z.1 (o_some ns rfl (by omega) (by omega) (fun w hw => go w (by omega))))
theorem ses_pre2 {Q : Int32 × AS → Prop} {kind y : Int32} (lr : LR S) (z : lSz 1 30 14 ns S S) (sp : lSp ns S S) (lv : lLiv ns S S) (hk : ¬ kind = 0) (hk1 : ¬ kind = 1) (H : ∀ s, s ≤ ns → ∀ x13 y0 : Int32, ((s < ns ∧ x13 = 1) ∨ (s = ns ∧ x13 = 0)) → ((y0 = 1 ∧ s < ns ∧ sI S 89 s = 1 ∧ sI S 88 s = -1) ∨ (y0 = 0 ∧ (s < ns → sI S 89 s = 0 ∨ ¬ sI S 88 s = -1))) → Ho (f_W_sessions_B264 S (some 4) kind y (some 127) (some 129) (some 133) (some 134) (Int32.ofNat s) x13 y0) Q) : Ho (f_W_sessions S (some 4) kind y (some 127) (some 129) (some 133) (some 134) (some 135) (some 136) (some 137) (some 138) (some 139)) Q := by
  refine ses_pre lr z sp lv hk (fun s hs x13 y0 h1 h2 => ?_)
  obtain ⟨r127, -, -, -, -, -, r133, -⟩ := lr
  have n14 := z.2.2
  unfold f_W_sessions_B180
  refine r_ifF hk1 ?_
  rcases h2 with ⟨e, c, l1⟩ | ⟨e, l0⟩
  · rw [e]
    refine r_ifF one0 ?_
    obtain ⟨-, -, o, o1', o2⟩ := sp s c
    have l2 : sI S 133 (4 * s + 3) = sI S 88 s + 1 := by
      rcases lv s c with ⟨-, l2⟩ | ⟨l0, -⟩
      · exact l2
      · rw [l1] at l0
        exact absurd l0 (by decide)
    refine o_aIe r133 (n := 4 * s + 3) (wix 4 s 3) (by omega) l2 ?_
    by_cases d : sI S 88 s = -1
    · exact r_ifT (by rw [d]; decide) (H s hs _ _ h1 (Or.inl ⟨rfl, c, l1, d⟩))
    · refine r_ifF (fun q => d (m1_of q)) ?_
      unfold f_W_sessions_B263
      exact H s hs _ _ h1 (Or.inr ⟨rfl, fun _ => Or.inr d⟩)
  · refine r_ifT e ?_
    unfold f_W_sessions_B263
    exact H s hs _ _ h1 (Or.inr ⟨rfl, fun h => Or.inl (l0 h)⟩)
theorem p_helper {m : AS} {p : Nat} (hmf : MF m) (p3 : p < 3) (h01 : q01 (sI m 65 p)) : Hp (f_M_helper m (some 57) (Int32.ofNat p)) (fun q => q.1 = ng (sI m 65 p) ∧ sI q.2 57 82 = 0 ∧ sI q.2 65 p = ng (sI m 65 p) ∧ ∀ k j, ¬ (k = 57 ∧ j = 82) → ¬ (k = 65 ∧ j = p) → sI q.2 k j = sI m k j) := by
  unfold f_M_helper
  refine p_of (st_b2 (q_six m _)) ?_
  rw [if_pos (in5 p3)]
  refine p_of st_rv (p_b2 p_may (fun v m' q => ?_))
  rw [if_neg one0] at q
  obtain ⟨q1, q2⟩ := Prod.mk.inj q
  rw [q1]
  obtain ⟨m1, e1⟩ : ∃ m1, m1 = wI m 57 82 0 := ⟨_, rfl⟩
  rw [q2, ← e1]
  have hm1 : MF m1 := by rw [e1]; exact MF_e hmf rfl
  have o : ∀ k j, ¬ (k = 57 ∧ j = 82) → sI m1 k j = sI m k j := fun k j z => by rw [e1, ti_sI_ne z]
  have fin : ∀ b : Int32, b = ng (sI m 65 p) → Hp (f_M_helper_B32 m1 (some 57) (Int32.ofNat p) (some 65) (Int32.ofNat p) b) (fun q => q.1 = ng (sI m 65 p) ∧ sI q.2 57 82 = 0 ∧ sI q.2 65 p = ng (sI m 65 p) ∧ ∀ k j, ¬ (k = 57 ∧ j = 82) → ¬ (k = 65 ∧ j = p) → sI q.2 k j = sI m k j) := fun b eb => by
    unfold f_M_helper_B32
    refine p_of (st_bZe (oc (by omega))) (p_of (st_gRe (v := some 65) (hm1 8 65 rfl)) (p_of (st_aIe (oc (by omega)) (ti_sI_eq _ _ _ _)) (p_of st_z (p_ret ⟨eb, ?_, (ti_sI_eq _ _ _ _).trans eb, fun k j z1 z2 => ?_⟩))))
    · show sI (wI m1 65 p b) 57 82 = 0
      rw [ti_sI_ne (by omega), e1, ti_sI_eq]
    · show sI (wI m1 65 p b) k j = _
      rw [ti_sI_ne z2, o k j z1]
  refine p_of (st_F one0) (p_of (st_gRe (hm1 8 65 rfl)) (p_of (st_gRe (hm1 8 65 rfl)) (p_of (st_aIe (oc (by omega)) (o 65 p (by omega))) ?_)))
  unfold ng
  rcases h01 with e | e
  · exact p_of (st_T e) (fin 1 (by rw [e]; rfl))
  · exact p_of (st_F (by rw [e]; decide)) (fin 0 (by rw [e]; rfl))
theorem l_helper (L : L54 n r T S) (hn : n ≤ 500) {y : Int32} : Ho (f_W_sessions S (some 4) (3 : Int32) y (some 127) (some 129) (some 133) (some 134) (some 135) (some 136) (some 137) (some 138) (some 139)) (G54 n r) := by
  obtain ⟨iv, rp, tl, pts, -, ns, nc, nf, nt, nk, na, lw⟩ := id L
  have lr := TL_LR iv.1 tl
  have hlp : lHlp S S := lw.2.1.2.2.2
  obtain ⟨-, -, -, -, -, ⟨sp, -, lv, -⟩, -⟩ := id lw
  refine ses_pre2 lr lw.1.1 sp lv (by decide) (by decide) (fun s hs x13 y0 _ _ => ?_)
  obtain ⟨r127, -⟩ := lr
  unfold f_W_sessions_B264
  refine r_ifF (by decide) (o_some 3 rfl (by decide) (by decide) (fun p p3 => r_ifT rfl ?_))
  refine o_aI r127 (n := 13) rfl (by decide) (o_bI r127 (n := 13) rfl (by decide) ?_)
  obtain ⟨Sa, ea⟩ : ∃ Sa, Sa = wI S 127 13 (sI S 127 13 ^^^ ((1 : Int32) <<< (Int32.ofNat p &&& 31))) := ⟨_, rfl⟩
  rw [← ea]
  have la : LF S Sa := by rw [ea]; exact LF_w (LF_rf S) (by decide)
  have oa : ∀ k j, ¬ (k = 127 ∧ j = 13) → sI Sa k j = sI S k j := fun k j q => by rw [ea, ti_sI_ne q]
  have a1 : sI Sa 127 13 = sI S 127 13 ^^^ ((1 : Int32) <<< (Int32.ofNat p &&& 31)) := by rw [ea, ti_sI_eq]
  obtain ⟨c, v, S1, S2, T1, e1, e2, g, an⟩ := tg_helper (a0 := Int32.ofNat p) (LF_IV iv tl la) (by omega) (LF_RPF iv.1 tl rp la)
  have bh := PK_BH L la g (by decide +kernel) (by decide +kernel) (by decide +kernel)
  obtain ⟨-, -, -, -, kS, kS1, kG, mf⟩ := id bh
  have m1 : ∀ k j, 57 ≤ k → k < 126 → ¬ (k = 57 ∧ (100 ≤ j ∨ j = 82)) → sI S1 k j = sI S k j := fun k j h1 h2 h3 => (kG k j h1 h2 h3).trans (oa k j (by omega))
  have s2 : ∀ k j, 127 ≤ k → k < 141 → sI S2 k j = sI Sa k j := fun k j h1 h2 => by rw [kS k h1 h2]
  obtain ⟨b1, b2, b3⟩ := hlp p p3
  obtain ⟨v1, v82, v65, o⟩ := p_helper mf p3 (by rw [m1 65 p (by omega) (by omega) (by omega)]; exact b2) _ e2
  rw [m1 65 p (by omega) (by omega) (by omega)] at v1 v65
  have v1 : v = ng (sI S 65 p) := v1
  have v65 : sI S2 65 p = ng (sI S 65 p) := v65
  have o : ∀ k j, ¬ (k = 57 ∧ j = 82) → ¬ (k = 65 ∧ j = p) → sI S2 k j = sI S1 k j := o
  have m2 : ∀ k j, 57 ≤ k → k < 126 → ¬ (k = 57 ∧ (100 ≤ j ∨ j = 82)) → ¬ (k = 65 ∧ j = p) → sI S2 k j = sI S k j := fun k j h1 h2 h3 h4 => (o k j (by omega) h4).trans (m1 k j h1 h2 h3)
  have new : ∀ q, q < 3 → bt (sI S2 127 13) q = (bt (sI S 127 13) q != decide (q = p)) := fun q q3 => by rw [s2 _ _ (by omega) (by omega), a1, bt_xor, bt_shl (by omega)]
  have ngb : ng (sI S 65 p) = bi (!bt (sI S 127 13) p) := by
    unfold ng bi
    rcases b2 with e | e
    · rw [e, if_pos rfl]
      cases h : bt (sI S 127 13) p with
      | false => rfl
      | true =>
        have := b1.mp h
        rw [e] at this
        exact absurd this (by decide)
    · rw [e, if_neg one0, b1.mpr e]
      rfl
  have LL : L54 (n + 1) (r + 1) T1 S2 := BH_L bh (lPN_e pts (fun j => m2 73 j (by omega) (by omega) (by omega) (by omega)) (m2 57 0 (by omega) (by omega) (by omega) (by omega))) ⟨ns, nc, nf, nt, nk, na, LWa_helper lw (fun k j h1 h2 h3 => (s2 k j h1 h2).trans (oa k j h3)) (fun k j h1 h2 h3 h4 => m2 k j h1 h2 h3 (fun z => h4 z.1)) (fun q q3 => by
    rw [new q q3, m2 64 q (by omega) (by omega) (by omega) (by omega)]
    obtain ⟨d1, d2, d3⟩ := hlp q q3
    by_cases e : q = p
    · subst e
      rw [v65, ngb, decide_eq_true rfl]
      unfold bi q01
      cases bt (sI S 127 13) q <;> exact ⟨by decide, by decide, d3⟩
    · rw [m2 65 q (by omega) (by omega) (by omega) (by omega), decide_eq_false e, Bool.bne_false]
      exact ⟨d1, d2, d3⟩)⟩
  refine o_b2 e1 (o_aI (TL_LR LL.1.1 LL.2.2.1).1 (n := 13) rfl (by decide) ?_)
  rw [bitv _ (by omega)]
  refine o_fin ?_ LL
  rw [ANc_0 an (by decide) v82, v1, ngb, new p p3, decide_eq_true rfl]
  cases bt (sI S 127 13) p <;> rfl
theorem p_signOut {m : AS} {s : Nat} (hmf : MF m) (h30 : sI m 57 30 = Int32.ofNat ns) (n14 : ns ≤ 14) (hs : s ≤ ns) (h01 : s < ns → q01 (sI m 89 s)) : Hp (f_M_signOut m (some 57) (Int32.ofNat s)) (fun q => (s = ns → sI q.2 57 82 = Int32.ofNat 1 ∧ GK m q.2) ∧ (s < ns → sI m 89 s = 0 → sI q.2 57 82 = Int32.ofNat 2 ∧ GK m q.2) ∧ (s < ns → sI m 89 s = 1 → f_M_endSession (wI m 57 82 0) (some 57) (Int32.ofNat s) = some q)) := by
  unfold f_M_signOut
  refine p_of st_rv (p_b2 (p_isSes h30 (by omega) (by omega)) (fun v m' q => ?_))
  obtain ⟨q1, q2⟩ := Prod.mk.inj q
  rw [q2]
  have bad : ∀ y1 : Int32, (y1 = 0 → s = ns) → (y1 ≠ 0 → s < ns ∧ sI m 89 s = 0) → Hp (f_M_signOut_B25 m (some 57) (Int32.ofNat s) (some 57) y1) (fun q => (s = ns → sI q.2 57 82 = Int32.ofNat 1 ∧ GK m q.2) ∧ (s < ns → sI m 89 s = 0 → sI q.2 57 82 = Int32.ofNat 2 ∧ GK m q.2) ∧ (s < ns → sI m 89 s = 1 → f_M_endSession (wI m 57 82 0) (some 57) (Int32.ofNat s) = some q)) := fun y1 h0 h1 => by
    unfold f_M_signOut_B25 f_M_signOut_B26
    refine p_of st_rv (p_b2 p_mayB (fun v m' q => ?_))
    by_cases c : y1 = 0
    · rw [if_pos c] at q
      obtain ⟨q1, q2⟩ := Prod.mk.inj q
      rw [q1, q2]
      have := h0 c
      exact p_of (st_T rfl) (p_ret ⟨fun _ => ⟨ti_sI_eq _ _ _ _, GK_82 _ _⟩, fun z => absurd z (by omega), fun z => absurd z (by omega)⟩)
    · rw [if_neg c, if_pos rfl] at q
      obtain ⟨q1, q2⟩ := Prod.mk.inj q
      rw [q1, q2]
      obtain ⟨d1, d2⟩ := h1 c
      exact p_of (st_T rfl) (p_ret ⟨fun z => absurd z (by omega), fun _ _ => ⟨ti_sI_eq _ _ _ _, GK_82 _ _⟩, fun _ z => absurd (d2.symm.trans z) (by decide)⟩)
  by_cases c : s < ns
  · rw [if_pos c] at q1
    rw [q1]
    refine p_of (st_F one0) (p_of (st_gRe (hmf 35 89 rfl)) (p_of (st_aIe (oc (by omega)) rfl) ?_))
    rcases h01 c with e | e
    · exact p_of (st_T e) (bad 1 (fun z => absurd z one0) (fun _ => ⟨c, e⟩))
    · refine p_of (st_F (by rw [e]; decide)) ?_
      unfold f_M_signOut_B26
      refine p_of st_rv (p_b2 p_mayB (fun v m' q => ?_))
      rw [if_neg one0, if_neg one0] at q
      obtain ⟨q1, q2⟩ := Prod.mk.inj q
      rw [q1, q2]
      refine p_of (st_F one0) (p_of st_rv (fun a ha => ⟨fun z => absurd z (by omega), fun _ z => absurd (e.symm.trans z) (by decide), fun _ _ => ?_⟩))
      cases h : f_M_endSession (wI m 57 82 0) (some 57) (Int32.ofNat s) with
      | none => rw [h] at ha; cases ha
      | some b => rw [h] at ha; exact ha
  · rw [if_neg c] at q1
    rw [q1]
    exact p_of (st_T rfl) (bad 0 (fun _ => by omega) (fun z => absurd rfl z))
theorem l_signOut (L : L54 n r T S) (hn : n ≤ 500) {y : Int32} : Ho (f_W_sessions S (some 4) (1 : Int32) y (some 127) (some 129) (some 133) (some 134) (some 135) (some 136) (some 137) (some 138) (some 139)) (G54 n r) := by
  obtain ⟨iv, rp, tl, pts, -, ns, nc, nf, nt, nk, na, lw⟩ := id L
  have lr := TL_LR iv.1 tl
  obtain ⟨-, -, -, -, -, ⟨sp, -, lv, -⟩, -⟩ := id lw
  refine ses_pre lr lw.1.1 sp lv (by decide) (fun s hs x13 y0 hx hy => ?_)
  unfold f_W_sessions_B180
  refine r_ifT rfl ?_
  obtain ⟨c, v, S1, S2, T1, e1, e2, g, an⟩ := tg_signOut (a0 := Int32.ofNat s) iv (by omega) rp
  have bh := PK_BH L (LF_rf S) g (by decide +kernel) (by decide +kernel) (by decide +kernel)
  obtain ⟨iv2, -, tl2, -, kS, kS1, kG, mf⟩ := id bh
  have h01 : s < ns → q01 (sI S1 89 s) := fun h => by
    rw [kG 89 s (by omega) (by omega) (by omega)]
    rcases lv s h with ⟨e, -⟩ | ⟨e, -⟩
    · exact Or.inr e
    · exact Or.inl e
  obtain ⟨pa, pb, pc⟩ := p_signOut mf ((kG 57 30 (by omega) (by omega) (by omega)).trans lw.1.1.2.1) lw.1.1.2.2 hs h01 _ e2
  refine o_b2 e1 ?_
  have no : ∀ k : Int32, c = k → GK S1 S2 → Ho (f_W_sessions_B233 S2 c k) (G54 n r) := fun k hk gk2 => by
    have gk := GK_tr kG gk2
    unfold f_W_sessions_B233
    exact o_fin hk (BH_L bh (lPN_e pts (fun j => gk 73 j (by omega) (by omega) (by omega)) (gk 57 0 (by omega) (by omega) (by omega))) ⟨ns, nc, nf, nt, nk, na, LW_cong2 lw kS gk⟩)
  rcases hx with ⟨hx, ex⟩ | ⟨hx, ex⟩
  · refine r_ifF (by rw [ex]; decide) ?_
    rcases hy with ⟨ey, -, l1⟩ | ⟨ey, l0⟩
    · refine r_ifF (by rw [ey]; decide) ?_
      have e3 := pc hx (by rw [kG 89 s (by omega) (by omega) (by omega)]; exact l1)
      obtain ⟨m1, em⟩ : ∃ m1, m1 = wI S1 57 82 0 := ⟨_, rfl⟩
      rw [← em] at e3
      have mf1 : MF m1 := by rw [em]; exact MF_e mf rfl
      have gk1 : GK S m1 := GK_tr kG (by rw [em]; exact GK_82 _ _)
      have lw1 : LW ns nc nf nt nk na S2 m1 := LW_cong2 lw kS gk1
      obtain ⟨a, ea, a1, ew⟩ := g_eS (LW_SW lw1 (TL_LR iv2.1 tl2) mf1) (LW_EW lw1) hx (by rw [gk1 89 s (by omega) (by omega) (by omega)]; exact l1) _ e3
      have a1 : a.1 = v := a1
      have lw2 := LW_ends lw1 ew
      have l2 : LF S2 a.2 := ew.1
      have lw3 : LW ns nc nf nt nk na a.2 a.2 := LW_cong2 lw2 (fun _ _ _ => rfl) (LF_GK l2)
      have om := ew.2.2.1.2.2
      have v82 : sI S2 57 82 = 0 := (om 57 82 (by omega) (by omega) (by omega) (by omega) (by omega) (by omega) (by omega)).trans (by rw [em, ti_sI_eq])
      have n73 : ∀ j, sI a.2 73 j = sI S 73 j := fun j => by
        rw [LF_GK l2 73 j (by omega) (by omega) (by omega)]
        exact (om 73 j (by omega) (by omega) (by omega) (by omega) (by omega) (by omega) (by omega)).trans (gk1 73 j (by omega) (by omega) (by omega))
      have n0 : sI a.2 57 0 = sI S 57 0 := by
        rw [LF_GK l2 57 0 (by omega) (by omega) (by omega)]
        exact (om 57 0 (by omega) (by omega) (by omega) (by omega) (by omega) (by omega) (by omega)).trans (gk1 57 0 (by omega) (by omega) (by omega))
      refine o_b2 ea ?_
      unfold f_W_sessions_B233
      exact o_fin (by rw [ANc_0 an (by decide) v82, a1]) (BH_LF bh l2 (lPN_e pts n73 n0) ⟨ns, nc, nf, nt, nk, na, lw3⟩)
    · refine r_ifT (by rw [ey]) ?_
      obtain ⟨t, gk⟩ := pb hx (by rw [kG 89 s (by omega) (by omega) (by omega)]; exact l0 hx)
      exact no _ (ANc_k an (by decide) 1 rfl t) gk
  · refine r_ifT (by rw [ex]) ?_
    obtain ⟨t, gk⟩ := pa hx
    exact no _ (ANc_k an (by decide) 0 rfl t) gk
end
