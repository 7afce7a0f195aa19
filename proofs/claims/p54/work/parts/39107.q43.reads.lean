/-! ===== what the law asks between its calls ===== -/
/-- from S on, reads alone -/
def RD (n r : Nat) (S S' : AS) : Prop := (∃ T, L54 n r T S') ∧ LK S S' ∧ GK S S'
theorem LK_tr {S S1 S2 : AS} (h : LK S S1) (g : LK S1 S2) : LK S S2 := fun k a b => (g k a b).trans (h k a b)
theorem L54_up2 {n r r' : Nat} {T : Nat → Nat} {S : AS} (h : L54 n r T S) (hr : r ≤ r') : L54 n r' T S := by
  obtain ⟨h1, h2, h3, h4, ⟨h5, h6⟩, h7⟩ := h
  exact ⟨h1, h2, h3, h4, ⟨by omega, by omega⟩, h7⟩
theorem RD.lr {n r : Nat} {S S' : AS} (R : RD n r S S') : LR S' := by
  obtain ⟨⟨T, L⟩, -⟩ := R
  exact TL_LR L.1.1 L.2.2.1
theorem RD.e {n r k j : Nat} {S S' : AS} (R : RD n r S S') (h : 127 ≤ k ∧ k < 141) : sI S' k j = sI S k j := congrFun (R.2.1 k h.1 h.2) j
theorem Ph_GK {S S' : AS} (g : GK S S') : Ph S' = Ph S := by
  unfold Ph
  rw [g 57 77 (by omega) (by omega) (by omega), g 57 30 (by omega) (by omega) (by omega), g 57 46 (by omega) (by omega) (by omega), g 57 62 (by omega) (by omega) (by omega), show sI S' 89 = sI S 89 from funext fun j => g 89 j (by omega) (by omega) (by omega), show sI S' 103 = sI S 103 from funext fun j => g 103 j (by omega) (by omega) (by omega)]
theorem rd_step {n r : Nat} {S S' : AS} {W : Option (Int32 × AS)} {M : AS → Option (Int32 × AS)} (C : Int32 → Int32 → Int32 → Prop) {wM : List Nat} {w : Int32} (R : RD n r S S') (tg : ∀ T, IV n T S' → RPF T S' → ∃ c v S1 S2 T1, W = some (c, S2) ∧ M S1 = some (v, S2) ∧ PKg n T [] wM S' S1 T1 S2 ∧ C c v (sI S2 57 82)) (hw : wM.all (fun z => !lw.contains z) = true) (p : ∀ S1, MF S1 → GK S S1 → Hp (M S1) (fun q => GK S1 q.2 ∧ ∀ c, C c q.1 (sI q.2 57 82) → c = w)) : ∃ S2, W = some (w, S2) ∧ RD n (r + 1) S S2 := by
  obtain ⟨⟨T, L⟩, lk, gk⟩ := R
  obtain ⟨iv, rp, tl, pts, -, ns, nc, nf, nt, nk, na, lwx⟩ := id L
  obtain ⟨c, v, S1, S2, T1, e1, e2, g, an⟩ := tg T iv rp
  have bh := PK_BH L (LF_rf S') g (by decide +kernel) hw (fun z hz => by cases hz)
  obtain ⟨iv2, rp2, tl2, cs, kS, -, kG, mf⟩ := id bh
  obtain ⟨g2, hc⟩ := p S1 mf (GK_tr gk kG) _ e2
  have gg : GK S' S2 := GK_tr kG g2
  have hc := hc c an
  subst hc
  refine ⟨S2, e1, ⟨T1, ⟨iv2.1, iv2.2.1, by rw [Ph_GK gg]; exact iv.2.2.1, iv2.2.2.2⟩, rp2, tl2, ⟨lPts_e pts.1 (fun j => gg 73 j (by omega) (by omega) (by omega)), by rw [gg 57 0 (by omega) (by omega) (by omega)]; exact pts.2⟩, cs, ns, nc, nf, nt, nk, na, LW_cong2 lwx kS gg⟩, LK_tr lk kS, GK_tr gk gg⟩
theorem o_rd {α : Type} {n r : Nat} {S : AS} {W : Option (Int32 × AS)} {w : Int32} {F : Int32 → AS → Option α} {Q : α → Prop} (h : ∃ S2, W = some (w, S2) ∧ RD n r S S2) (H : ∀ S2, RD n r S S2 → Ho (F w S2) Q) : Ho (kr_b2 W F) Q := by
  obtain ⟨S2, e, R⟩ := h
  rw [e]
  exact H S2 R
theorem o_ra {α : Type} {n r k l j : Nat} {S S' : AS} {i v : Int32} {F : Int32 → Option α} {Q : α → Prop} (R : RD n r S S') (h : 127 ≤ k ∧ k < 141) (rw' : Rw S' k l) (hi : i = Int32.ofNat j) (hn : j < l) (e : sI S k j = v) (g : Ho (F v) Q) : Ho ((aI S' 40 (some k) i).bind F) Q := o_aIe rw' hi hn ((R.e h).trans e) g
/-- one that must be there is asked of -/
theorem p_ex {m : AS} {X : Option (Int32 × AS)} {n i : Nat} {F : AS → Option (Int32 × AS)} {w : Int32} (φ : Int32 → Int32) (hX : Hp X (fun q => q = (if i < n then 1 else 0, m))) (H : i < n → Hp (F (wI m 57 82 0)) (fun q => q.2 = wI m 57 82 0 ∧ φ q.1 = w)) : Hp (kr_b2 X fun v3 S2 => (kr_rv S2 39 (some 57)).bind fun _ => kr_b2 (f_M_may S2 (some 57) v3) fun v6 S5 => if v6 = 0 then some ((0 : Int32), S5) else F S5) (fun q => GK m q.2 ∧ ∀ c, ANc [-1001] c (φ q.1) (sI q.2 57 82) → c = if i < n then w else (-1001 : Int32)) := by
  refine p_b2 hX (fun v S' q => ?_)
  obtain ⟨q1, q2⟩ := Prod.mk.inj q
  rw [q1, q2]
  refine p_of st_rv (p_b2 p_may (fun v m' q => ?_))
  obtain ⟨q1, q2⟩ := Prod.mk.inj q
  rw [q1, q2]
  by_cases c : i < n
  · rw [if_pos c, if_pos c, show (if (1 : Int32) = 0 then (1 : Int32) else 0) = 0 from rfl]
    refine p_of (st_F one0) (p_is (fun q h => ?_))
    obtain ⟨e1, e2⟩ := H c q h
    rw [e1, ← e2]
    exact ⟨GK_82 m 0, fun c h => ANc_0 h (by decide) (ti_sI_eq _ _ _ _)⟩
  · rw [if_neg c, if_neg c, show (if (0 : Int32) = 0 then (1 : Int32) else 0) = 1 from rfl]
    exact p_of (st_T rfl) (p_ret ⟨GK_82 m 1, fun c h => ANc_k h (by decide) 0 rfl (ti_sI_eq _ _ _ _)⟩)
/-! each read -/
theorem pk_sum {n : Nat} {T : Nat → Nat} {S : AS} (hI : IV n T S) (hn : n ≤ 600) (hr : RPF T S) : ∃ r S1 v S2 T1, f_K_sum S (some 4) = some (r, S1) ∧ f_M_sum S1 (some 57) = some (v, S2) ∧ PKg n T [] kw_M4 S S1 T1 S2 ∧ r = v := by
  have q1 : Tx T 1 (some 4) := ⟨4, rfl, hI.1.t9.2.2.2.2.1, by decide⟩
  have q57 : Tx T 100 (some 57) := ⟨57, rfl, hI.1.t9.1, by decide⟩
  obtain ⟨⟨r, S1⟩, e1, T1, g1⟩ : Ho (f_K_sum S (some 4)) (fun q => PW T [] S 10 700 q.2) := kk_S hI.1 (t_K_sum hI.1 q1)
  have g1 : Rl T (99999 :: []) S 10 700 T1 S1 := g1
  have f1 : FT S1 := FT_fr hI.2.2.2.1 g1 (by decide +kernel)
  have i1 := IV_K hI g1 q57 (by decide +kernel)
  obtain ⟨⟨v, S2⟩, e2, g2, m2⟩ := mm_sum g1.1 (q57.up g1.ty) i1.1 (by have := i1.2; omega)
  have g2 : Rl T1 kw_M4 S1 1 0 T1 S2 := g2
  have iv : IV (n + 1) T1 S2 := IV_M hI g1 i1.2 f1 g2 m2 (by decide +kernel)
  obtain ⟨⟨f, m, rr, dr⟩, t1, h⟩ := hr
  have hT : TV T S := ⟨hI.1, t1⟩
  have t1' : T1 1 = 52 := (g1.ty 1 (by rw [t1]; decide)).trans t1
  have h1 := FR_K hT h g1 (by decide +kernel)
  have an : r = v := by
    have ax := h1.AU.2 rfl
    have hs : sI S 5 3 = sI S1 57 81 := (ax.2 (Ph_77 g1.1 i1.2 hn)).1
    have a : Hp (f_K_sum S (some 4)) (fun q => q.1 = sI S 5 3) := by
      unfold f_K_sum
      exact p_of (st_gRe ((K4F_of hT.1).1 1 5 rfl)) (p_of st_gI (p_ret rfl))
    have b : Hp (f_M_sum S1 (some 57)) (fun q => q.1 = sI S1 57 81) := by
      unfold f_M_sum
      exact p_of st_pI (p_of (st_gIe (ti_sI_ne (by omega))) (p_ret rfl))
    exact (a _ e1).trans (hs.trans (b _ e2).symm)
  have f12 : FR S1 S2 := FA_x_audits hT g1.1 h1 (Kp_of g1 (by decide +kernel)) (Kp_of g2 (by decide +kernel))
  exact ⟨r, S1, v, S2, T1, e1, e2, ⟨g1, g2, g_f_M_sum _ _ (GF_rf S1) _ e2, iv, ⟨f, m, rr, DR_fr (DR_fr dr g1 (by decide +kernel)) g2 (by decide +kernel)⟩, t1', FR_M ⟨g1.1, t1'⟩ g2.1 f12 g2 (by decide +kernel)⟩, an⟩
theorem tg_sum {n : Nat} {T : Nat → Nat} {S : AS} {a0 : Int32} (hI : IV n T S) (hn : n ≤ 600) (hr : RPF T S) : ∃ c v S1 S2 T1, f_W_noneg S (some 4) (5 : Int32) a0 = some (c, S2) ∧ f_M_sum S1 (some 57) = some (v, S2) ∧ PKg n T [] kw_M4 S S1 T1 S2 ∧ c = v := by
  obtain ⟨r, S1, v, S2, T1, e1, e2, g, an⟩ := pk_sum hI hn hr
  have k4 := tg_k4 hI.1
  have eg : gm S1 S2 = S2 := g.2.2.1.symm
  have eM : gg_W_none S1 (5 : Int32) a0 = S2 := by
    unfold gg_W_none
    rw [if_neg (by decide), if_neg (by decide), if_neg (by decide), if_neg (by decide), if_neg (by decide), if_pos rfl, e2]
    exact eg
  have eW : ∀ c, f_W_none S (some 4) (5 : Int32) a0 = some (c, S1) → f_W_noneg S (some 4) (5 : Int32) a0 = some (c, S2) := fun c h => by
    unfold f_W_noneg
    rw [h]
    exact congrArg (fun z => some (c, z)) eM
  have e0 : f_W_none S (some 4) (5 : Int32) a0 = some (r, S1) := by
    unfold f_W_none
    rw [if_neg (by decide), if_neg (by decide), if_neg (by decide), if_neg (by decide), if_neg (by decide), if_pos rfl, k4, Option.bind_some, e1]
    rfl
  exact ⟨r, v, S1, S2, T1, eW _ e0, e2, g, an⟩
theorem nnc {n : Nat} (h : n ≤ 2000) : (Int32.ofNat n).toNatClampNeg = n := by
  have a : 0 ≤ (Int32.ofNat n).toInt := by
    rw [oiq (by omega)]
    omega
  have b := natI a
  rw [oiq (by omega)] at b
  omega
theorem p_tof {S m : AS} (k5 : K4F S) {N : Nat} (hN : N ≤ 1024) (rows : ∀ i : Nat, i < N → (∃ k nu, k < 7 ∧ nu < 61 ∧ sI S 6 i = (1000 : Int32) * Int32.ofNat k + Int32.ofNat nu ∧ sI m 123 i = Int32.ofNat k ∧ sI m 124 i = Int32.ofNat nu) ∧ sI S 7 i = sI m 125 i) : ∀ (k i fu : Nat), i + k = N → Hp (f_Audit_totalOfFirst_L5 fu S (some 5) (Int32.ofNat N) (fS m i) (Int32.ofNat i)) (fun q => q = (fS m N, S))
  | _, _, 0, _ => p_0
  | k, i, fu + 1, hk => by
    unfold f_Audit_totalOfFirst_L5 f_Audit_totalOfFirst_C5
    by_cases hi : i < N
    · refine p_of (st_F (fun q => by have := (oleq (a := N) (b := i) (by omega) (by omega)).mp q; omega)) (p_of st_rv (p_b2 p_tw (fun v S' e => ?_)))
      obtain ⟨e1, e2⟩ := e
      have e1 : S' = S := e1
      have e2 := e2 k5.2.1 k5.2.2.1 (by rw [oiq (by omega)]; omega) (by rw [oiq (by omega)]; omega)
      have e2 : v = ams (fS m i) (sI S 6 (Int32.ofNat i).toNatClampNeg / (1000 : Int32)) (sI S 6 (Int32.ofNat i).toNatClampNeg - sI S 6 (Int32.ofNat i).toNatClampNeg / (1000 : Int32) * (1000 : Int32)) (sI S 7 (Int32.ofNat i).toNatClampNeg) := e2
      obtain ⟨⟨kd, nu, h1, h2, h3, h4, h5⟩, h6⟩ := rows i hi
      rw [nnc (by omega), h3, (k1000d kd h1 nu h2).2, (k1000d kd h1 nu h2).1, ← h4, ← h5, h6] at e2
      rw [e1, e2]
      refine p_of st_val ?_
      rw [o1]
      exact p_tof k5 hN rows (k - 1) (i + 1) fu (by omega)
    · have ei : i = N := by omega
      rw [ei]
      exact p_of (st_T ((oleq (a := N) (b := N) (by omega) (by omega)).mpr (Nat.le_refl _))) (p_ret rfl)
theorem p_sna {m : AS} (hmf : MF m) {a : Int32} : Hp (f_M_sumAnew m (some 57) a) (fun q => GK m q.2) := by
  have lp : ∀ (fu : Nat) (M : AS) (x i : Int32), Hp (f_M_sumAnew_L23 fu M (some 57) a x i) (fun q => q.2 = M) := fun fu => by
    induction fu with
    | zero => exact fun M x i => p_0
    | succ fu ih =>
      intro M x i
      unfold f_M_sumAnew_L23 f_M_sumAnew_C23
      refine p_if (fun _ => p_ret rfl) (fun _ => ?_)
      refine p_is (fun q h => ?_)
      obtain ⟨v0, h0, h⟩ := kr_ob h
      obtain ⟨v1, h1, h⟩ := kr_ob h
      obtain ⟨v2, h2, h⟩ := kr_ob h
      obtain ⟨v3, h3, h⟩ := kr_ob h
      obtain ⟨v4, h4, h⟩ := kr_ob h
      obtain ⟨v5, h5, h⟩ := kr_ob h
      exact ih M _ _ q h
  unfold f_M_sumAnew
  refine p_of st_gI (p_of (st_b2 (q_isIn m _ _ _)) (p_of st_rv (p_b2 p_may (fun v m' q => ?_))))
  obtain ⟨q1, q2⟩ := Prod.mk.inj q
  rw [q2]
  refine p_if (fun _ => p_ret (GK_82 m _)) (fun _ => p_is (fun q h => ?_))
  rw [lp _ _ _ _ q h]
  exact GK_82 m _
theorem pk_sumAnew {n : Nat} {T : Nat → Nat} {S : AS} (hI : IV n T S) (hn : n ≤ 600) (hr : RPF T S) : ∃ S1 v S2 T1, f_K_sumAnew S (some 4) (sI S 57 77) = some (.inl (sI S 57 81), S1) ∧ f_M_sumAnew S1 (some 57) (sI S 57 77) = some (v, S2) ∧ PKg n T [] kw_M4 S S1 T1 S2 := by
  have q1 : Tx T 1 (some 4) := ⟨4, rfl, hI.1.t9.2.2.2.2.1, by decide⟩
  have q57 : Tx T 100 (some 57) := ⟨57, rfl, hI.1.t9.1, by decide⟩
  obtain ⟨⟨r, S1⟩, e1, T1, g1⟩ : Ho (f_K_sumAnew S (some 4) (sI S 57 77)) (fun q => PW T [] S 10 700 q.2) := kk_T hI.1 (t_K_sumAnew hI.1 q1)
  have g1 : Rl T (99999 :: []) S 10 700 T1 S1 := g1
  have f1 : FT S1 := FT_fr hI.2.2.2.1 g1 (by decide +kernel)
  have i1 := IV_K hI g1 q57 (by decide +kernel)
  obtain ⟨⟨v, S2⟩, e2, g2, m2⟩ := mm_sumAnew (a1 := sI S 57 77) g1.1 (q57.up g1.ty) i1.1 (by have := i1.2; omega)
  have g2 : Rl T1 kw_M4 S1 1 0 T1 S2 := g2
  have iv : IV (n + 1) T1 S2 := IV_M hI g1 i1.2 f1 g2 m2 (by decide +kernel)
  obtain ⟨⟨f, m, rr, dr⟩, t1, h⟩ := hr
  have hT : TV T S := ⟨hI.1, t1⟩
  have t1' : T1 1 = 52 := (g1.ty 1 (by rw [t1]; decide)).trans t1
  have h1 := FR_K hT h g1 (by decide +kernel)
  have an : r = .inl (sI S 57 81) := by
    have p77 := Ph_77 hI.1 hI.2.2.1 hn
    have ax := (h.AU.2 rfl).2 p77
    obtain ⟨-, b, rows⟩ := ax
    obtain ⟨c1, -, c3, -⟩ := h.AU.1
    obtain ⟨N, eN⟩ : ∃ N, N = (sI S 57 77).toInt.toNat := ⟨_, rfl⟩
    have n1 : N ≤ 1024 := by omega
    have e77 : sI S 57 77 = Int32.ofNat N := Int32.toInt_inj.mp (by rw [oiq (by omega)]; omega)
    have e52 : (sI S 5 2).toInt = (N : Int) := by rw [c3]; omega
    rw [← eN] at b
    have a : Hp (f_K_sumAnew S (some 4) (sI S 57 77)) (fun q => q = (.inl (sI S 57 81), S)) := by
      rw [e77, b]
      unfold f_K_sumAnew
      refine p_of (st_gRe ((K4F_of hT.1).1 1 5 rfl)) (p_of st_gI (p_bx p_rI (fun v S' e => ?_) (fun v S' e => ?_)))
      · rcases e with ⟨-, -, e⟩ | ⟨-, e⟩
        · cases e
          refine p_of (st_gRe ((K4F_of hT.1).1 1 5 rfl)) (p_of st_rv (p_b2 (p_tof (K4F_of hT.1) n1 (fun i hi => rows i (by omega)) N 0 kr_FU (Nat.zero_add N)) (fun v S' q => ?_)))
          obtain ⟨q1, q2⟩ := Prod.mk.inj q
          rw [q1, q2]
          exact p_ret rfl
        · cases e
      · rcases e with ⟨-, -, e⟩ | ⟨z, e⟩
        · cases e
        · refine absurd ⟨?_, ?_⟩ z
          · rw [oiq (by omega)]
            omega
          · rw [oiq (by omega), Int32.toInt_add, e52, show (1 : Int32).toInt = 1 from by decide, bm (by omega) (by omega)]
            omega
    exact (Prod.mk.inj (a _ e1)).1
  rw [an] at e1
  have f12 : FR S1 S2 := FA_x_audits hT g1.1 h1 (Kp_of g1 (by decide +kernel)) (Kp_of g2 (by decide +kernel))
  exact ⟨S1, v, S2, T1, e1, e2, ⟨g1, g2, g_f_M_sumAnew _ _ _ (GF_rf S1) _ e2, iv, ⟨f, m, rr, DR_fr (DR_fr dr g1 (by decide +kernel)) g2 (by decide +kernel)⟩, t1', FR_M ⟨g1.1, t1'⟩ g2.1 f12 g2 (by decide +kernel)⟩⟩
theorem tg_sumAnew {n : Nat} {T : Nat → Nat} {S : AS} (hI : IV n T S) (hn : n ≤ 600) (hr : RPF T S) : ∃ c v S1 S2 T1, f_W_oneg S (some 4) (17 : Int32) (sI S 57 77) = some (c, S2) ∧ f_M_sumAnew S1 (some 57) (sI S 57 77) = some (v, S2) ∧ PKg n T [] kw_M4 S S1 T1 S2 ∧ c = sI S 57 81 := by
  obtain ⟨S1, v, S2, T1, e1, e2, g⟩ := pk_sumAnew hI hn hr
  have k4 := tg_k4 hI.1
  have eg : gm S1 S2 = S2 := g.2.2.1.symm
  have eM : gg_W_one S1 (17 : Int32) (sI S 57 77) = S2 := by
    unfold gg_W_one
    rw [if_neg (by decide), if_neg (by decide), if_neg (by decide), if_neg (by decide), if_neg (by decide), if_neg (by decide), if_neg (by decide), if_neg (by decide), if_neg (by decide), if_neg (by decide), if_neg (by decide), if_neg (by decide), if_neg (by decide), if_neg (by decide), if_neg (by decide), if_neg (by decide), if_neg (by decide), if_pos rfl, e2]
    exact eg
  have eW : ∀ c, f_W_one S (some 4) (17 : Int32) (sI S 57 77) = some (c, S1) → f_W_oneg S (some 4) (17 : Int32) (sI S 57 77) = some (c, S2) := fun c h => by
    unfold f_W_oneg
    rw [h]
    exact congrArg (fun z => some (c, z)) eM
  have e0 : f_W_one S (some 4) (17 : Int32) (sI S 57 77) = some (sI S 57 81, S1) := by
    unfold f_W_one
    rw [if_neg (by decide), if_neg (by decide), if_neg (by decide), if_neg (by decide), if_neg (by decide), if_neg (by decide), if_neg (by decide), if_neg (by decide), if_neg (by decide), if_neg (by decide), if_neg (by decide), if_neg (by decide), if_neg (by decide), if_neg (by decide), if_neg (by decide), if_neg (by decide), if_neg (by decide), if_pos rfl, k4, Option.bind_some, e1]
    rfl
  exact ⟨_, v, S1, S2, T1, eW _ e0, e2, g, rfl⟩
