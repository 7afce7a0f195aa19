/-! ===== redeeming ===== -/
theorem x_what {S : AS} {co cl au sc : Nat} (r135 : Rw S 135 60) (hco : co < 10) (h1 : sI S 135 (6 * co + 1) = Int32.ofNat cl) (h2 : sI S 135 (6 * co + 2) = Int32.ofNat au) (h3 : sI S 135 (6 * co + 3) = Int32.ofNat sc) : f_W_what S (some 135) (Int32.ofNat co) = some (Int32.ofNat (cl + 10 * au + 100 * 0 + 1000 * sc), S) := by
  unfold f_W_what
  rw [Rw_aI (i := (6 : Int32) * Int32.ofNat co + (1 : Int32)) r135 (n := 6 * co + 1) (wix 6 co 1) (by omega), Option.bind_some, Rw_aI (i := (6 : Int32) * Int32.ofNat co + (2 : Int32)) r135 (n := 6 * co + 2) (wix 6 co 2) (by omega), Option.bind_some, Rw_aI (i := (6 : Int32) * Int32.ofNat co + (3 : Int32)) r135 (n := 6 * co + 3) (wix 6 co 3) (by omega), Option.bind_some, h1, h2, h3]
  rw [show (10 : Int32) * Int32.ofNat au = Int32.ofNat (10 * au) from wmul 10 au, show (1000 : Int32) * Int32.ofNat sc = Int32.ofNat (1000 * sc) from wmul 1000 sc, wadd, wadd]
  rfl
theorem cmp5 {u n : Int32} (hu : mi u) (hn : mi n) : (u + (5 : Int32) < n) ↔ ((5 : Int32) < n - u) := by
  obtain ⟨a1, a2⟩ := hu
  obtain ⟨b1, b2⟩ := hn
  rw [Int32.lt_iff_toInt_lt, Int32.lt_iff_toInt_lt, Int32.toInt_add, Int32.toInt_sub, show (5 : Int32).toInt = 5 from by decide, bm (by omega) (by omega), bm (by omega) (by omega)]
  omega
/-- a family made by the reference -/
def MK (m : AS) (co nf nt au : Nat) (cl sc : Int32) (q : Int32 × AS) : Prop := q.1 = Int32.ofNat nf ∧ ∃ m1 m2, m1 = wI (wI (wI (wI (wI (wI (wI m 57 82 0) 99 nf (Int32.ofNat co)) 100 nf 0) 101 nf (sI m 57 0)) 103 nf 1) 98 co (Int32.ofNat nf)) 57 46 (Int32.ofNat (nf + 1)) ∧ AWM m1 m2 (2 : Int32) (Int32.ofNat nf) ∧ TKM m2 q.2 nf nt au cl sc 0 (sI m 57 0 + 10)
def RDQ (m : AS) (co se nc nf nt au : Nat) (cl sc : Int32) (q : Int32 × AS) : Prop := (co = nc → sI q.2 57 82 = Int32.ofNat 1 ∧ GK m q.2) ∧ (co < nc → ¬ sI m 98 co = -1 → ∃ m', f_M_endFamily (wI m 57 82 0) (some 57) (sI m 98 co) = some m' ∧ q = (-1, m')) ∧ (co < nc → sI m 98 co = -1 → ((5 : Int32) < sI m 57 0 - sI m 97 co ∨ sI m 89 se = 0) → q.1 = -1 ∧ sI q.2 57 82 = 0 ∧ GK m q.2) ∧ (co < nc → sI m 98 co = -1 → ¬ (5 : Int32) < sI m 57 0 - sI m 97 co → sI m 89 se = 1 → MK m co nf nt au cl sc q)
theorem p_redeem {m : AS} {co se nc nf nt au : Nat} {cl sc : Int32} (hmf : MF m) (h39 : sI m 57 39 = Int32.ofNat nc) (n10 : nc ≤ 10) (h46 : sI m 57 46 = Int32.ofNat nf) (f10 : nf ≤ 10) (h52 : sI m 57 52 = Int32.ofNat nt) (t20 : nt ≤ 20) (hco : co ≤ nc) (s14 : se < 14) (h93 : co < nc → sI m 93 co = Int32.ofNat se) (h01 : q01 (sI m 89 se)) (e94 : co < nc → sI m 94 co = cl) (e95 : co < nc → sI m 95 co = Int32.ofNat au) (e96 : co < nc → sI m 96 co = sc) : Hp (f_M_redeem m (some 57) (Int32.ofNat co)) (RDQ m co se nc nf nt au cl sc) := by
  have ic : (Int32.ofNat co).toNatClampNeg = co := oc (by omega)
  have if' : (Int32.ofNat nf).toNatClampNeg = nf := oc (by omega)
  unfold f_M_redeem
  refine p_of (st_gIe h39) (p_of (st_b2 (q_isIn m _ _ _)) ?_)
  by_cases c : co < nc
  · rw [if_pos ((isN (by omega) (by omega)).mpr c)]
    refine p_of (st_F one0) (p_of (st_gRe (hmf 45 98 rfl)) (p_of (st_aIe ic rfl) ?_))
    obtain ⟨m1, e1⟩ : ∃ m1, m1 = wI m 57 82 0 := ⟨_, rfl⟩
    have hm1 : MF m1 := by rw [e1]; exact MF_e hmf rfl
    have o : ∀ k j, ¬ (k = 57 ∧ j = 82) → sI m1 k j = sI m k j := fun k j z => by rw [e1, ti_sI_ne z]
    -- nothing is made
    have not : (sI m 98 co = -1 → (5 : Int32) < sI m 57 0 - sI m 97 co ∨ sI m 89 se = 0) → Hp (f_M_redeem_B59 m (some 57) (Int32.ofNat co) (1 : Int32)) (RDQ m co se nc nf nt au cl sc) := fun hz => by
      unfold f_M_redeem_B59 f_M_redeem_B60
      refine p_of (st_T rfl) ?_
      unfold f_M_redeem_B77 f_M_redeem_B82
      refine p_of st_rv (p_b2 p_mayB (fun x m' q => ?_))
      rw [if_neg one0, if_neg one0] at q
      obtain ⟨q1, q2⟩ := Prod.mk.inj q
      rw [q1, q2, ← e1]
      refine p_of (st_F one0) (p_of (st_T rfl) (p_of (st_gRe (hm1 45 98 rfl)) (p_of (st_aIe ic (o 98 co (by omega))) ?_)))
      by_cases d : sI m 98 co = -1
      · refine p_of (st_T d) (p_ret ⟨fun z => absurd z (by omega), fun _ z => absurd d z, fun _ _ _ => ⟨rfl, by rw [e1]; exact ti_sI_eq _ _ _ _, by rw [e1]; exact GK_82 _ _⟩, fun _ _ z1 z2 => ?_⟩)
        rcases hz d with z | z
        · exact absurd z z1
        · exact absurd (z.symm.trans z2) (by decide)
      · refine p_of (st_F d) (p_of (st_gRe (hm1 45 98 rfl)) (p_of (st_aIe ic (o 98 co (by omega))) (p_of st_rv (p_is (fun a ha => ?_)))))
        obtain ⟨m', h1, h2⟩ := bd_inv ha
        cases h2
        exact ⟨fun z => absurd z (by omega), fun _ _ => ⟨m', by rw [← e1]; exact h1, rfl⟩, fun _ z => absurd z d, fun _ z => absurd z d⟩
    by_cases d : sI m 98 co = -1
    · refine p_of (st_T d) (p_of (st_gIe rfl) (p_of (st_gRe (hmf 44 97 rfl)) (p_of (st_aIe ic rfl) ?_)))
      by_cases e : (5 : Int32) < sI m 57 0 - sI m 97 co
      · exact p_of (st_T e) (not (fun _ => Or.inl e))
      · refine p_of (st_F e) (p_of (st_gRe (hmf 35 89 rfl)) (p_of (st_gRe (hmf 40 93 rfl)) (p_of (st_aIe ic (h93 c)) (p_of (st_aIe (oc (by omega)) rfl) ?_))))
        rcases h01 with g | g
        · exact p_of (st_T g) (not (fun _ => Or.inr g))
        · refine p_of (st_F (by rw [g]; decide)) ?_
          unfold f_M_redeem_B60
          refine p_of (st_F one0) (p_of (st_gIe h52) (p_of (st_F (fun z => by have := (oleq (a := 200) (b := nt) (by omega) (by omega)).mp z; omega)) ?_))
          unfold f_M_redeem_B77 f_M_redeem_B82
          refine p_of st_rv (p_b2 p_mayB (fun x m' q => ?_))
          rw [if_neg one0, if_neg one0] at q
          obtain ⟨q1, q2⟩ := Prod.mk.inj q
          rw [q1, q2, ← e1]
          refine p_of (st_F one0) (p_of (st_F one0) (p_of (st_gIe ((o 57 46 (by omega)).trans h46)) (p_of (st_gRe (hm1 47 99 rfl)) (p_of (st_bIe if') ?_))))
          refine p_of (st_gRe (v := some 100) (hm1 48 100 rfl)) (p_of (st_bIe if') (p_of (st_gRe (v := some 101) (hm1 49 101 rfl)) (p_of (st_gIe (v := sI m 57 0) (by rw [ti_sI_ne (by omega), ti_sI_ne (by omega)]; exact o 57 0 (by omega))) (p_of (st_bIe if') ?_))))
          refine p_of (st_gRe (v := some 103) (hm1 51 103 rfl)) (p_of (st_bZe if') (p_of (st_gRe (v := some 98) (hm1 45 98 rfl)) (p_of (st_bIe ic) ?_)))
          refine p_of (st_gIe (v := Int32.ofNat nf) (by rw [ti_sI_ne (by omega), ti_sI_ne (by omega), ti_sI_ne (by omega), ti_sI_ne (by omega), ti_sI_ne (by omega)]; exact (o 57 46 (by omega)).trans h46)) (p_of st_pI (p_of st_rv ?_))
          rw [o1]
          obtain ⟨m2, e2⟩ : ∃ m2, m2 = wI (wI (wI (wI (wI (wI m1 99 nf (Int32.ofNat co)) 100 nf 0) 101 nf (sI m 57 0)) 103 nf 1) 98 co (Int32.ofNat nf)) 57 46 (Int32.ofNat (nf + 1)) := ⟨_, rfl⟩
          rw [← e2]
          have hm2 : MF m2 := by rw [e2]; exact MF_e hm1 rfl
          have o2 : ∀ k j, ¬ (k = 57 ∧ (j = 82 ∨ j = 46)) → ¬ (k = 98 ∧ j = co) → ¬ (99 ≤ k ∧ k ≤ 103 ∧ j = nf) → sI m2 k j = sI m k j := fun k j y1 y2 y3 => by
            rw [e2, ti_sI_ne (by omega), ti_sI_ne (by omega), ti_sI_ne (by omega), ti_sI_ne (by omega), ti_sI_ne (by omega), ti_sI_ne (by omega)]
            exact o k j (by omega)
          refine p_bd (p_mw hm2) (fun m3 aw => p_of st_rv ?_)
          have o3 : ∀ k j, ¬ (k = 57 ∧ (j = 82 ∨ j = 46 ∨ j = 77 ∨ j = 81)) → ¬ (k = 98 ∧ j = co) → ¬ (99 ≤ k ∧ k ≤ 103 ∧ j = nf) → k ≠ 123 → k ≠ 124 → k ≠ 125 → sI m3 k j = sI m k j := fun k j y1 y2 y3 y4 y5 y6 => by
            rw [aw.1.2.2 k j y4 y5 y6 (by omega)]
            exact o2 k j (by omega) y2 y3
          have e99 : sI m3 99 nf = Int32.ofNat co := by
            rw [aw.1.2.2 _ _ (by omega) (by omega) (by omega) (by omega), e2, ti_sI_ne (by omega), ti_sI_ne (by omega), ti_sI_ne (by omega), ti_sI_ne (by omega), ti_sI_ne (by omega), ti_sI_eq]
          refine p_bd (p_ftM (m := m3) (f := nf) (c := co) (n := nt) (to := au) (frm := cl) (sc := sc) (MF_e hm2 aw.1.1) (by omega) (by omega) (by omega) ((o3 57 52 (by omega) (by omega) (by omega) (by omega) (by omega) (by omega)).trans h52) e99 ((o3 94 co (by omega) (by omega) (by omega) (by omega) (by omega) (by omega)).trans (e94 c)) ((o3 95 co (by omega) (by omega) (by omega) (by omega) (by omega) (by omega)).trans (e95 c)) ((o3 96 co (by omega) (by omega) (by omega) (by omega) (by omega) (by omega)).trans (e96 c))) (fun m4 tm => p_ret ⟨fun z => absurd z (by omega), fun _ z => absurd d z, fun _ _ z => ?_, fun _ _ _ _ => ⟨rfl, m2, m3, by rw [e2, e1], aw, ?_⟩⟩)
          · rcases z with z | z
            · exact absurd z e
            · exact absurd (g.symm.trans z) (by decide)
          · rw [o3 57 0 (by omega) (by omega) (by omega) (by omega) (by omega) (by omega)] at tm
            exact tm
    · exact p_of (st_F d) (not (fun z => absurd z d))
  · rw [if_neg (fun z => c ((isN (by omega) (by omega)).mp z))]
    refine p_of (st_T rfl) ?_
    unfold f_M_redeem_B59 f_M_redeem_B60
    refine p_of (st_T rfl) ?_
    unfold f_M_redeem_B77 f_M_redeem_B82
    refine p_of st_rv (p_b2 p_mayB (fun x m' q => ?_))
    rw [if_pos rfl] at q
    obtain ⟨q1, q2⟩ := Prod.mk.inj q
    rw [q1, q2]
    exact p_of (st_T rfl) (p_ret ⟨fun _ => ⟨ti_sI_eq _ _ _ _, GK_82 _ _⟩, fun z => absurd z c, fun z => absurd z c, fun z => absurd z c⟩)
theorem p_redeem_none {m : AS} {co nc : Nat} (hmf : MF m) (h39 : sI m 57 39 = Int32.ofNat nc) (n10 : nc ≤ 10) (hco : co = nc) : Hp (f_M_redeem m (some 57) (Int32.ofNat co)) (fun q => sI q.2 57 82 = Int32.ofNat 1 ∧ GK m q.2) := by
  unfold f_M_redeem
  refine p_of (st_gIe h39) (p_of (st_b2 (q_isIn m _ _ _)) ?_)
  rw [if_neg (c := (0 : Int32) ≤ Int32.ofNat co ∧ Int32.ofNat co ≤ Int32.ofNat nc - 1) (fun z => by have := (isN (by omega) (by omega)).mp z; omega)]
  refine p_of (st_T rfl) ?_
  unfold f_M_redeem_B59 f_M_redeem_B60
  refine p_of (st_T rfl) ?_
  unfold f_M_redeem_B77 f_M_redeem_B82
  refine p_of st_rv (p_b2 p_mayB (fun x m' q => ?_))
  rw [if_pos rfl] at q
  obtain ⟨q1, q2⟩ := Prod.mk.inj q
  rw [q1, q2]
  exact p_of (st_T rfl) (p_ret ⟨ti_sI_eq _ _ _ _, GK_82 _ _⟩)
section
variable {n r : Nat} {T : Nat → Nat} {S : AS}
theorem l_redeem (L : L54 n r T S) (hn : n ≤ 500) {y : Int32} : Ho (f_W_grants S (some 4) (4 : Int32) y (some 127) (some 133) (some 134) (some 135) (some 136) (some 137) (some 139) (some 140)) (G54 n r) := by
  obtain ⟨iv, rp, tl, pts, -, ns, nc, nf, nt, nk, na, lw⟩ := id L
  have lr := TL_LR iv.1 tl
  obtain ⟨⟨z1, z2, z3, z4, -⟩, ⟨now, aud, key, -⟩, -, -, -, ⟨sp, usd, lv, ssh⟩, ⟨cod, cfa, fam, num, god⟩, tok, -, ⟨-, tol⟩, -⟩ := id lw
  have n14 := z1.2.2
  have nc10 := z2.2.2
  have nf10 := z3.2.2
  have nt20 := z4.2.2
  obtain ⟨r127, -, -, -, -, -, r133, -, r135, r136, r137, -⟩ := id lr
  unfold f_W_grants
  refine o_some 4 rfl (by decide) (by decide) (fun _ _ => o_some 16 rfl (by decide) (by decide) (fun _ _ => r_ifF (by decide) (r_ifF (by decide) (r_ifF (by decide) (r_ifF (by decide) (o_some 4 rfl (by decide) (by decide) (fun v _ => ?_)))))))
  have go : ∀ co, co ≤ nc → Ho (f_W_grants_B719 S (some 4) (some 127) (some 133) (some 135) (some 136) (some 137) (some 139) (Int32.ofNat co)) (G54 n r) := fun co hco => by
    -- what stands in the code's row
    obtain ⟨se, cl, au, sc, s14, cl4, au4, sc16, hd⟩ : ∃ se cl au sc, se < 14 ∧ cl < 4 ∧ au < 4 ∧ sc < 16 ∧ (co < nc → se < ns ∧ (sI S 135 (6 * co) = Int32.ofNat se ∧ sI S 93 co = Int32.ofNat se) ∧ (sI S 135 (6 * co + 1) = Int32.ofNat cl ∧ sI S 94 co = Int32.ofNat cl) ∧ (sI S 135 (6 * co + 2) = Int32.ofNat au ∧ sI S 95 co = Int32.ofNat au) ∧ (sI S 135 (6 * co + 3) = Int32.ofNat sc ∧ sI S 96 co = Int32.ofNat sc) ∧ sI S 135 (6 * co + 4) = sI S 97 co ∧ mi (sI S 97 co)) := by
      by_cases c : co < nc
      · obtain ⟨⟨se, a1, a2, a3⟩, ⟨cl, b1, b2, b3⟩, ⟨au, c1, c2, c3⟩, ⟨sc, d1, d2, d3⟩, e1, e2⟩ := cod co c
        exact ⟨se, cl, au, sc, by omega, b1, c1, d1, fun _ => ⟨a1, ⟨a2, a3⟩, ⟨b2, b3⟩, ⟨c2, c3⟩, ⟨d2, d3⟩, e1, e2⟩⟩
      · exact ⟨0, 0, 0, 0, by decide, by decide, by decide, by decide, fun h => absurd h c⟩
    have prd : ∀ M q, MF M → GK S M → (co < nc → q01 (sI M 89 se)) → q01 (sI M 89 se) → f_M_redeem M (some 57) (Int32.ofNat co) = some q → RDQ M co se nc nf nt au (Int32.ofNat cl) (Int32.ofNat sc) q := fun M q mf gk _ h01 h =>
      p_redeem mf ((gk 57 39 (by omega) (by omega) (by omega)).trans z2.2.1) nc10 ((gk 57 46 (by omega) (by omega) (by omega)).trans z3.2.1) nf10 ((gk 57 52 (by omega) (by omega) (by omega)).trans z4.2.1) nt20 hco s14 (fun h => (gk 93 co (by omega) (by omega) (by omega)).trans (hd h).2.1.2) h01 (fun h => (gk 94 co (by omega) (by omega) (by omega)).trans (hd h).2.2.1.2) (fun h => (gk 95 co (by omega) (by omega) (by omega)).trans (hd h).2.2.2.1.2) (fun h => (gk 96 co (by omega) (by omega) (by omega)).trans (hd h).2.2.2.2.1.2) _ h
    unfold f_W_grants_B719
    refine o_aIe r127 (n := 2) rfl (by decide) z2.1 ?_
    by_cases c : co < nc
    · obtain ⟨se', ⟨d0, m93⟩, ⟨d1, m94⟩, ⟨d2, m95⟩, ⟨d3, m96⟩, d4, mi97⟩ := hd c
      have q89 : ∀ M, GK S M → q01 (sI M 89 se) := fun M gk => by rw [gk 89 se (by omega) (by omega) (by omega)]; exact q01_liv lv se'
      have prd' : ∀ M q, MF M → GK S M → f_M_redeem M (some 57) (Int32.ofNat co) = some q → RDQ M co se nc nf nt au (Int32.ofNat cl) (Int32.ofNat sc) q := fun M q mf gk h => prd M q mf gk (fun _ => q89 M gk) (q89 M gk) h
      refine r_ifF (fun q => by have := (oleq (a := nc) (b := co) (by omega) (by omega)).mp q; omega) ?_
      unfold f_W_grants_B734
      refine r_ifF one0 ?_
      rcases cfa co c with ⟨w5, m98⟩ | ⟨f, hf, w5, m98⟩
      · -- not redeemed yet
        refine o_aIe r135 (n := 6 * co + 5) (wix 6 co 5) (by omega) w5 (r_ifT rfl (o_aIe r135 (n := 6 * co + 4) (wix 6 co 4) (by omega) d4 (o_aIe r127 (n := 0) rfl (by decide) now.1 ?_)))
        -- too old, or its session ended: nothing is made, nothing ended
        have no : ((5 : Int32) < sI S 57 0 - sI S 97 co ∨ sI S 89 se = 0) → Ho (f_W_grants_B796 S (some 4) (some 127) (some 135) (some 136) (some 137) (some 139) (Int32.ofNat co) (1 : Int32)) (G54 n r) := fun hz => by
          unfold f_W_grants_B796 f_W_grants_B797
          refine r_ifT rfl ?_
          unfold f_W_grants_B814
          refine r_ifT rfl (r_ifF one0 (o_aIe r135 (n := 6 * co + 5) (wix 6 co 5) (by omega) w5 (r_ifT (by decide) ?_)))
          unfold f_W_grants_B962
          obtain ⟨c', v, S1, S2, T1, e1, e2, g, an⟩ := tg_redeem (a0 := Int32.ofNat co) iv (by omega) rp
          have bh := PK_BH L (LF_rf S) g (by decide +kernel) (by decide +kernel) (by decide +kernel)
          obtain ⟨-, -, -, -, kS, kS1, kG, mf⟩ := id bh
          obtain ⟨v1, v82, gk2⟩ := (prd' S1 _ mf kG e2).2.2.1 c ((kG 98 co (by omega) (by omega) (by omega)).trans m98) (by
            rw [kG 57 0 (by omega) (by omega) (by omega), kG 97 co (by omega) (by omega) (by omega), kG 89 se (by omega) (by omega) (by omega)]
            exact hz)
          have v1 : v = -1 := v1
          have v82 : sI S2 57 82 = 0 := v82
          have gk : GK S S2 := GK_tr kG gk2
          refine o_b2 e1 (r_ifF one0 (r_ifT rfl ?_))
          unfold f_W_grants_B995
          exact o_fin (by rw [ANc_0 an (by decide) v82, v1]) (BH_L bh (lPN_e pts (fun j => gk 73 j (by omega) (by omega) (by omega)) (gk 57 0 (by omega) (by omega) (by omega))) ⟨ns, nc, nf, nt, nk, na, LW_cong2 lw kS gk⟩)
        by_cases old : (5 : Int32) < sI S 57 0 - sI S 97 co
        · exact r_ifT ((cmp5 mi97 now.2).mpr old) (no (Or.inl old))
        · refine r_ifF (fun q => old ((cmp5 mi97 now.2).mp q)) (o_aIe r135 (n := 6 * co) (wmul 6 co) (by omega) d0 ?_)
          obtain ⟨-, -, o, oo, o2⟩ := sp se se'
          rcases lv se se' with ⟨l1, l2⟩ | ⟨l1, l2⟩
          · refine o_aIe r133 (n := 4 * se + 3) (wix 4 se 3) (by omega) (l2.trans o2) (r_ifF (fun q => by have := (oleq (a := 100) (b := o) (by omega) (by omega)).mp q; omega) ?_)
            unfold f_W_grants_B797
            refine r_ifF one0 (o_aIe r127 (n := 4) rfl (by decide) z4.1 ?_)
            by_cases t20 : nt = 20
            · exact r_ifT (by rw [t20]; rfl) (G54_no L)
            · refine r_ifF (fun q => t20 (oinjq (a := nt) (b := 20) (by omega) (by omega) q)) ?_
              have f9 : nf < nc := by
                have := iv.2.1.2.2.2
                unfold Gf at this
                rw [z3.2.1, z2.2.1, oiq (by omega), oiq (by omega)] at this
                have := cnm_pos (f := sI S 98) (n := 60) m98 (by omega)
                omega
              unfold f_W_grants_B814
              refine r_ifF one0 ?_
              -- the family's row
              have e3 : sI S 127 3 = Int32.ofNat nf := z3.1
              refine o_aIe r127 (n := 3) rfl (by decide) e3 (o_bI r136 (n := 5 * nf) (wmul 5 nf) (by omega) ?_)
              refine o_aIe r127.w (n := 3) rfl (by decide) (by rw [ti_sI_ne (by omega)]; exact e3) (o_bI r136.w (n := 5 * nf + 1) (wix 5 nf 1) (by omega) ?_)
              refine o_aIe r127.w.w (n := 3) rfl (by decide) (by rw [ti_sI_ne (by omega), ti_sI_ne (by omega)]; exact e3) (o_aIe (v := sI S 127 0) r127.w.w (n := 0) rfl (by decide) (by rw [ti_sI_ne (by omega), ti_sI_ne (by omega)]) (o_bI r136.w.w (n := 5 * nf + 2) (wix 5 nf 2) (by omega) ?_))
              refine o_aIe r127.w.w.w (n := 3) rfl (by decide) (by rw [ti_sI_ne (by omega), ti_sI_ne (by omega), ti_sI_ne (by omega)]; exact e3) (o_bI r136.w.w.w (n := 5 * nf + 4) (wix 5 nf 4) (by omega) ?_)
              refine o_aIe (v := Int32.ofNat nf) r127.w.w.w.w (n := 3) rfl (by decide) (by rw [ti_sI_ne (by omega), ti_sI_ne (by omega), ti_sI_ne (by omega), ti_sI_ne (by omega)]; exact e3) (o_bI r135.w.w.w.w (n := 6 * co + 5) (wix 6 co 5) (by omega) ?_)
              rw [o1]
              obtain ⟨Sf, ef⟩ : ∃ Sf, Sf = wI (wI (wI (wI (wI S 136 (5 * nf) (Int32.ofNat co)) 136 (5 * nf + 1) 0) 136 (5 * nf + 2) (sI S 127 0)) 136 (5 * nf + 4) 1) 135 (6 * co + 5) (Int32.ofNat (nf + 1)) := ⟨_, rfl⟩
              rw [← ef]
              have lf : LF S Sf := by rw [ef]; exact LF_w (LF_w (LF_w (LF_w (LF_w (LF_rf S) (by decide)) (by decide)) (by decide)) (by decide)) (by decide)
              have of : ∀ k j, ¬ (k = 136 ∧ 5 * nf ≤ j ∧ j < 5 * nf + 5) → ¬ (k = 135 ∧ j = 6 * co + 5) → sI Sf k j = sI S k j := fun k j y1 y2 => by
                rw [ef, ti_sI_ne (by omega), ti_sI_ne (by omega), ti_sI_ne (by omega), ti_sI_ne (by omega), ti_sI_ne (by omega)]
              have w0 : sI Sf 136 (5 * nf) = Int32.ofNat co := by rw [ef, ti_sI_ne (by omega), ti_sI_ne (by omega), ti_sI_ne (by omega), ti_sI_ne (by omega), ti_sI_eq]
              have w1 : sI Sf 136 (5 * nf + 1) = 0 := by rw [ef, ti_sI_ne (by omega), ti_sI_ne (by omega), ti_sI_ne (by omega), ti_sI_eq]
              have w2 : sI Sf 136 (5 * nf + 2) = sI S 127 0 := by rw [ef, ti_sI_ne (by omega), ti_sI_ne (by omega), ti_sI_eq]
              have w4 : sI Sf 136 (5 * nf + 4) = 1 := by rw [ef, ti_sI_ne (by omega), ti_sI_eq]
              have w5' : sI Sf 135 (6 * co + 5) = Int32.ofNat (nf + 1) := by rw [ef, ti_sI_eq]
              refine o_aIe (lf.Rw r127) (n := 3) rfl (by decide) ((of 127 3 (by omega) (by omega)).trans e3) (o_bd (x_writes (lf.Rw r127)) ?_)
              obtain ⟨Sg, eg⟩ : ∃ Sg, Sg = wI (wI Sf 127 9 (sI Sf 127 9 + 1)) 127 10 (ams (sI Sf 127 10) 2 (Int32.ofNat nf) (sI Sf 127 0)) := ⟨_, rfl⟩
              rw [← eg]
              have lg : LF S Sg := by rw [eg]; exact LF_w (LF_w lf (by decide)) (by decide)
              have og : ∀ k j, ¬ (k = 127 ∧ (j = 9 ∨ j = 10)) → sI Sg k j = sI Sf k j := fun k j y1 => by rw [eg, ti_sI_ne (by omega), ti_sI_ne (by omega)]
              have g9 : sI Sg 127 9 = sI S 127 9 + 1 := by rw [eg, ti_sI_ne (by omega), ti_sI_eq, of 127 9 (by omega) (by omega)]
              have g10 : sI Sg 127 10 = ams (sI S 127 10) 2 (Int32.ofNat nf) (sI S 127 0) := by rw [eg, ti_sI_eq, of 127 10 (by omega) (by omega), of 127 0 (by omega) (by omega)]
              refine o_aIe (lg.Rw r127) (n := 3) rfl (by decide) ((og 127 3 (by omega)).trans ((of 127 3 (by omega) (by omega)).trans e3)) ?_
              refine o_b2 (x_what (lg.Rw r135) (by omega) ((og 135 _ (by omega)).trans ((of 135 _ (by omega) (by omega)).trans d1)) ((og 135 _ (by omega)).trans ((of 135 _ (by omega) (by omega)).trans d2)) ((og 135 _ (by omega)).trans ((of 135 _ (by omega) (by omega)).trans d3))) ?_
              refine o_aIe (v := sI S 57 0) (lg.Rw r127) (n := 0) rfl (by decide) ((og 127 0 (by omega)).trans ((of 127 0 (by omega) (by omega)).trans now.1)) ?_
              have c4 : sI Sg 127 4 = Int32.ofNat nt := (og 127 4 (by omega)).trans ((of 127 4 (by omega) (by omega)).trans z4.1)
              refine r_b2 (x_makes (n := nt) (f := nf) (lg.LR lr) (by omega) (by omega) c4) (fun x Sh q => ?_)
              obtain ⟨-, tk⟩ := q
              have tk : TKW nt nf (Int32.ofNat (cl + 10 * au + 100 * 0 + 1000 * sc)) (sI S 57 0 + 10) Sg Sh := tk
              have lh : LF S Sh := LF_tr lg tk.1
              have oh := tk.2.1
              have h3 : sI Sh 127 3 = Int32.ofNat nf := by
                rw [oh 127 3 (by omega) (by omega) (by omega), og 127 3 (by omega), of 127 3 (by omega) (by omega)]
                exact e3
              refine o_aIe (lh.Rw r127) (n := 3) rfl (by decide) h3 (o_bI (lh.Rw r127) (n := 3) rfl (by decide) ?_)
              rw [o1]
              obtain ⟨Sa, ea⟩ : ∃ Sa, Sa = wI Sh 127 3 (Int32.ofNat (nf + 1)) := ⟨_, rfl⟩
              rw [← ea]
              have la : LF S Sa := by rw [ea]; exact LF_w lh (by decide)
              have oa : ∀ k j, ¬ (k = 127 ∧ j = 3) → sI Sa k j = sI Sh k j := fun k j q => by rw [ea, ti_sI_ne q]
              have a3 : sI Sa 127 3 = Int32.ofNat (nf + 1) := by rw [ea, ti_sI_eq]
              unfold f_W_grants_B962
              obtain ⟨c', v, S1, S2, T1, e1, e2, g, an⟩ := tg_redeem (a0 := Int32.ofNat co) (LF_IV iv tl la) (by omega) (LF_RPF iv.1 tl rp la)
              have bh := PK_BH L la g (by decide +kernel) (by decide +kernel) (by decide +kernel)
              obtain ⟨-, -, -, -, kS, kS1, kG, mf⟩ := id bh
              have gk0 : GK S S1 := GK_tr (LF_GK la) kG
              obtain ⟨v1, m1, m2, em1, aw, tm⟩ := (prd' S1 _ mf gk0 e2).2.2.2 c ((gk0 98 co (by omega) (by omega) (by omega)).trans m98) (by
                rw [gk0 57 0 (by omega) (by omega) (by omega), gk0 97 co (by omega) (by omega) (by omega)]
                exact old) ((gk0 89 se (by omega) (by omega) (by omega)).trans l1)
              have v1 : v = Int32.ofNat nf := v1
              rw [gk0 57 0 (by omega) (by omega) (by omega)] at em1 tm
              have tm : TKM m2 S2 nf nt au (Int32.ofNat cl) (Int32.ofNat sc) 0 (sI S 57 0 + 10) := tm
              -- the reference's places
              have om1 : ∀ k j, 57 ≤ k → k < 126 → ¬ (k = 57 ∧ (100 ≤ j ∨ j = 82)) → ¬ (k = 57 ∧ j = 46) → ¬ (k = 98 ∧ j = co) → ¬ (99 ≤ k ∧ k ≤ 103 ∧ k ≠ 102 ∧ j = nf) → sI m1 k j = sI S k j := fun k j h1 h2 h3 h4 h5 h6 => by
                rw [em1, ti_sI_ne (by omega), ti_sI_ne (by omega), ti_sI_ne (by omega), ti_sI_ne (by omega), ti_sI_ne (by omega), ti_sI_ne (by omega), ti_sI_ne (by omega)]
                exact gk0 k j h1 h2 h3
              have om2 : ∀ k j, ¬ (k = 57 ∧ (j = 77 ∨ j = 81)) → k ≠ 123 → k ≠ 124 → k ≠ 125 → sI m2 k j = sI m1 k j := fun k j h1 h2 h3 h4 => aw.1.2.2 k j h2 h3 h4 h1
              have om3 : ∀ k j, ¬ (104 ≤ k ∧ k ≤ 110 ∧ j = nt) → ¬ (k = 102 ∧ j = nf) → ¬ (k = 57 ∧ j = 52) → sI S2 k j = sI m2 k j := fun k j h1 h2 h3 => tm.1.2.2 k j (by omega) h2 h3
              have m99 : sI m1 99 nf = Int32.ofNat co := by rw [em1, ti_sI_ne (by omega), ti_sI_ne (by omega), ti_sI_ne (by omega), ti_sI_ne (by omega), ti_sI_ne (by omega), ti_sI_eq]
              have m100 : sI m1 100 nf = 0 := by rw [em1, ti_sI_ne (by omega), ti_sI_ne (by omega), ti_sI_ne (by omega), ti_sI_ne (by omega), ti_sI_eq]
              have m101 : sI m1 101 nf = sI S 57 0 := by rw [em1, ti_sI_ne (by omega), ti_sI_ne (by omega), ti_sI_ne (by omega), ti_sI_eq]
              have m103 : sI m1 103 nf = 1 := by rw [em1, ti_sI_ne (by omega), ti_sI_ne (by omega), ti_sI_eq]
              have m98' : sI m1 98 co = Int32.ofNat nf := by rw [em1, ti_sI_ne (by omega), ti_sI_eq]
              have m46 : sI m1 57 46 = Int32.ofNat (nf + 1) := by rw [em1, ti_sI_eq]
              have v82 : sI S2 57 82 = 0 := by rw [om3 57 82 (by omega) (by omega) (by omega), om2 57 82 (by omega) (by omega) (by omega) (by omega), em1, ti_sI_ne (by omega), ti_sI_ne (by omega), ti_sI_ne (by omega), ti_sI_ne (by omega), ti_sI_ne (by omega), ti_sI_ne (by omega), ti_sI_eq]
              have oM : ∀ k j, 57 ≤ k → k < 126 → ¬ (k = 57 ∧ (100 ≤ j ∨ j = 82)) → ¬ ((k = 57 ∧ (j = 46 ∨ j = 52 ∨ j = 77 ∨ j = 81)) ∨ (k = 98 ∧ j = co) ∨ (99 ≤ k ∧ k ≤ 103 ∧ j = nf) ∨ (104 ≤ k ∧ k ≤ 110 ∧ j = nt) ∨ (123 ≤ k ∧ k ≤ 126)) → sI S2 k j = sI S k j := fun k j h1 h2 h3 h4 => by
                rw [om3 k j (by omega) (by omega) (by omega), om2 k j (by omega) (by omega) (by omega) (by omega)]
                exact om1 k j h1 h2 h3 (by omega) (by omega) (by omega)
              have s2 : ∀ k j, 127 ≤ k → k < 141 → sI S2 k j = sI Sa k j := fun k j h1 h2 => by rw [kS k h1 h2]
              have oW : ∀ k j, 127 ≤ k → k < 141 → ¬ ((k = 127 ∧ (j = 3 ∨ j = 4 ∨ j = 9 ∨ j = 10)) ∨ (k = 135 ∧ j = 6 * co + 5) ∨ (k = 136 ∧ 5 * nf ≤ j ∧ j < 5 * nf + 5) ∨ (k = 137 ∧ 3 * nt ≤ j ∧ j < 3 * nt + 3)) → sI S2 k j = sI S k j := fun k j h1 h2 h3 => by
                rw [s2 k j h1 h2, oa k j (by omega), oh k j (by omega) (by omega) (by omega), og k j (by omega)]
                exact of k j (by omega) (by omega)
              have n10 : (sI S 57 0 + 10).toInt = (sI S 57 0).toInt + 10 := by
                have := now.2
                rw [Int32.toInt_add, show (10 : Int32).toInt = 10 from by decide, bm (by have := this.1; omega) (by have := this.2; omega)]
              -- the tokens' rows
              have keyg : lKey nk Sg m2 := lKey_fr key ((og 127 6 (by omega)).trans (of 127 6 (by omega) (by omega))) ((og 127 7 (by omega)).trans (of 127 7 (by omega) (by omega))) ((og 127 8 (by omega)).trans (of 127 8 (by omega) (by omega))) ((om2 57 61 (by omega) (by omega) (by omega) (by omega)).trans (om1 57 61 (by omega) (by omega) (by omega) (by omega) (by omega) (by omega))) ((om2 57 62 (by omega) (by omega) (by omega) (by omega)).trans (om1 57 62 (by omega) (by omega) (by omega) (by omega) (by omega) (by omega))) ((om2 57 63 (by omega) (by omega) (by omega) (by omega)).trans (om1 57 63 (by omega) (by omega) (by omega) (by omega) (by omega) (by omega))) ((om2 57 0 (by omega) (by omega) (by omega) (by omega)).trans (om1 57 0 (by omega) (by omega) (by omega) (by omega) (by omega) (by omega)))
              have fm : ∀ k, 104 ≤ k → k ≤ 110 → sI m2 k = sI S k := fun k h1 h2 => funext fun j => (om2 k j (by omega) (by omega) (by omega) (by omega)).trans (om1 k j (by omega) (by omega) (by omega) (by omega) (by omega) (by omega))
              have tokg : lTok (nf + 1) nk nt Sg m2 := lTok_mono (lTok_fr tok (funext fun j => (og 137 j (by omega)).trans (of 137 j (by omega) (by omega))) (fm 104 (by omega) (by omega)) (fm 105 (by omega) (by omega)) (fm 106 (by omega) (by omega)) (fm 107 (by omega) (by omega)) (fm 108 (by omega) (by omega)) (fm 109 (by omega) (by omega)) (fm 110 (by omega) (by omega))) (by omega) (Nat.le_refl _)
              obtain ⟨t1, t2, t3⟩ := tok_new (nf := nf + 1) (nk := nk) tk tm (by omega) cl4 au4 (by decide) sc16 (by rw [n10]; have := now.2.1; omega) (by rw [n10]; have := now.2.2; omega) (by omega) keyg tokg (fun i hi => by
                by_cases e : i = nf
                · rw [e, og 136 _ (by omega), og 136 _ (by omega), w1, w2, om2 100 _ (by omega) (by omega) (by omega) (by omega), om2 101 _ (by omega) (by omega) (by omega) (by omega), m100, m101, now.1]
                  exact ⟨⟨0, by omega, rfl, rfl⟩, ⟨rfl, now.2⟩, fun z => absurd rfl z⟩
                · obtain ⟨n1, n2, n3⟩ := num i (by omega)
                  rw [og 136 _ (by omega), of 136 _ (by omega) (by omega), og 136 _ (by omega), of 136 _ (by omega) (by omega), og 136 _ (by omega), of 136 _ (by omega) (by omega), om2 100 _ (by omega) (by omega) (by omega) (by omega), om1 100 i (by omega) (by omega) (by omega) (by omega) (by omega) (by omega), om2 101 _ (by omega) (by omega) (by omega) (by omega), om1 101 i (by omega) (by omega) (by omega) (by omega) (by omega) (by omega), om2 102 _ (by omega) (by omega) (by omega) (by omega), om1 102 i (by omega) (by omega) (by omega) (by omega) (by omega) (by omega)]
                  exact ⟨sV_mono n1 (by omega), n2, fun _ => n3⟩)
              have st : ∀ k, 127 ≤ k → k < 141 → k ≠ 127 → sI S2 k = sI Sh k := fun k h1 h2 h3 => funext fun j => (s2 k j h1 h2).trans (oa k j (by omega))
              have a103 : sI S2 103 = sI m1 103 := funext fun j => (om3 103 j (by omega) (by omega) (by omega)).trans (om2 103 j (by omega) (by omega) (by omega) (by omega))
              have LL : L54 (n + 1) (r + 1) T1 S2 := BH_L bh (lPN_e pts (fun j => oM 73 j (by omega) (by omega) (by omega) (by omega)) (oM 57 0 (by omega) (by omega) (by omega) (by omega))) ⟨ns, nc, nf + 1, nt + 1, nk, na, LWa_redeem lw (fun k j h1 h2 h3 => oW k j h1 h2 (by omega)) (fun k j h1 h2 h3 h4 => oM k j h1 h2 h3 (by omega)) (by omega) (by omega)
                ⟨(s2 127 3 (by omega) (by omega)).trans a3, (om3 57 46 (by omega) (by omega) (by omega)).trans ((om2 57 46 (by omega) (by omega) (by omega) (by omega)).trans m46), by omega⟩
                (lSz_fr t1 ((s2 127 4 (by omega) (by omega)).trans (oa 127 4 (by omega))) rfl)
                ⟨?_, ?_⟩ (fun k hk => ?_) (fun i hi => ?_)
                (lNum_fr t3 (fun j _ => by rw [st 136 (by omega) (by omega) (by omega)]) rfl rfl rfl)
                (fun i hi => ?_)
                (lTok_fr t2 (st 137 (by omega) (by omega) (by omega)) rfl rfl rfl rfl rfl rfl rfl)
                (fun s hs => ?_)⟩
              · refine o_b2 e1 (r_ifF one0 (r_ifF one0 (o_aIe (v := Int32.ofNat (nf + 1)) (TL_LR LL.1.1 LL.2.2.1).1 (n := 3) rfl (by decide) ((s2 127 3 (by omega) (by omega)).trans a3) ?_)))
                rw [qsub1]
                unfold f_W_grants_B995
                exact o_fin (by rw [ANc_0 an (by decide) v82, v1]) LL
              · rw [s2 127 9 (by omega) (by omega), oa 127 9 (by omega), oh 127 9 (by omega) (by omega) (by omega), g9, om3 57 77 (by omega) (by omega) (by omega), aw.2.2.2.1, om1 57 77 (by omega) (by omega) (by omega) (by omega) (by omega) (by omega), aud.1]
              · rw [s2 127 10 (by omega) (by omega), oa 127 10 (by omega), oh 127 10 (by omega) (by omega) (by omega), g10, om3 57 81 (by omega) (by omega) (by omega), aw.2.2.2.2.2.2.2.2.2, om1 57 81 (by omega) (by omega) (by omega) (by omega) (by omega) (by omega), om1 57 0 (by omega) (by omega) (by omega) (by omega) (by omega) (by omega), aud.2, now.1]
              · by_cases e : k = co
                · rw [e, st 135 (by omega) (by omega) (by omega), oh 135 _ (by omega) (by omega) (by omega), og 135 _ (by omega), w5', om3 98 co (by omega) (by omega) (by omega), om2 98 co (by omega) (by omega) (by omega) (by omega), m98']
                  exact Or.inr ⟨nf, by omega, rfl, rfl⟩
                · rw [oW 135 _ (by omega) (by omega) (by omega), oM 98 k (by omega) (by omega) (by omega) (by omega)]
                  rcases cfa k hk with h | ⟨f, h1, h2⟩
                  · exact Or.inl h
                  · exact Or.inr ⟨f, by omega, h2⟩
              · by_cases e : i = nf
                · rw [e, st 136 (by omega) (by omega) (by omega), oh 136 _ (by omega) (by omega) (by omega), og 136 _ (by omega), w0, om3 99 nf (by omega) (by omega) (by omega), om2 99 nf (by omega) (by omega) (by omega) (by omega), m99]
                  exact ⟨co, c, rfl, rfl⟩
                · rw [oW 136 _ (by omega) (by omega) (by omega), oM 99 i (by omega) (by omega) (by omega) (by omega)]
                  exact fam i (by omega)
              · by_cases e : i = nf
                · rw [e, st 136 (by omega) (by omega) (by omega), oh 136 _ (by omega) (by omega) (by omega), og 136 _ (by omega), w4, a103, m103]
                  exact ⟨rfl, Or.inr rfl⟩
                · rw [oW 136 _ (by omega) (by omega) (by omega), oM 103 i (by omega) (by omega) (by omega) (by omega)]
                  exact god i (by omega)
              · obtain ⟨x1, x2, x3⟩ := tol s hs
                rw [oW 139 _ (by omega) (by omega) (by omega)]
                have e116 : ∀ j, sI S2 116 j = sI S 116 j := fun j => oM 116 j (by omega) (by omega) (by omega) (by omega)
                refine ⟨fun f hf => by rw [e116]; exact x1 f hf, fun f h1 h2 => by rw [e116]; exact x2 f (by omega) h2, fun f h1 h2 => ?_⟩
                rw [e116]
                by_cases e : f = nf
                · rw [e]
                  exact x2 nf (Nat.le_refl _) (by omega)
                · rw [oM 103 f (by omega) (by omega) (by omega) (by omega)] at h2
                  exact x3 f (by omega) h2
          · refine o_aIe (v := Int32.ofNat (o + 100)) r133 (n := 4 * se + 3) (wix 4 se 3) (by omega) (l2.trans (by rw [o2]; exact wadd o 100)) (r_ifT ((oleq (a := 100) (b := o + 100) (by omega) (by omega)).mpr (by omega)) (no (Or.inr l1)))
      · -- redeemed once: the family ends
        have nz : ¬ Int32.ofNat (f + 1) = 0 := fun q => by have := oinjq (a := f + 1) (b := 0) (by omega) (by omega) q; omega
        refine o_aIe r135 (n := 6 * co + 5) (wix 6 co 5) (by omega) w5 (r_ifF nz ?_)
        unfold f_W_grants_B796 f_W_grants_B797
        refine r_ifT rfl ?_
        unfold f_W_grants_B814
        refine r_ifT rfl (r_ifF one0 (o_aIe r135 (n := 6 * co + 5) (wix 6 co 5) (by omega) w5 (r_ifF (fun q => by have := (oleq (a := f + 1) (b := 0) (by omega) (by omega)).mp q; omega) (o_aIe r135 (n := 6 * co + 5) (wix 6 co 5) (by omega) w5 ?_))))
        rw [qsub1]
        have n98 : ∀ M, GK S M → ¬ sI M 98 co = -1 := fun M gk q => by
          rw [gk 98 co (by omega) (by omega) (by omega), m98] at q
          have := congrArg Int32.toInt q
          rw [oiq (by omega), show (-1 : Int32).toInt = -1 from by decide] at this
          omega
        have run : ∀ M q, MF M → GK S M → f_M_redeem M (some 57) (Int32.ofNat co) = some q → ∃ Sa, f_W_endFamily S (some 127) (some 136) (some 137) (some 139) (Int32.ofNat f) = some Sa ∧ q.1 = -1 ∧ EW ns nf S (wI M 57 82 0) Sa q.2 ∧ LW ns nc nf nt nk na S (wI M 57 82 0) := fun M q mf gk h => by
          obtain ⟨m', h1, h2⟩ := (prd' M q mf gk h).2.1 c (n98 M gk)
          rw [gk 98 co (by omega) (by omega) (by omega), m98] at h1
          have lw1 : LW ns nc nf nt nk na S (wI M 57 82 0) := LW_cong2 lw (fun _ _ _ => rfl) (GK_tr gk (GK_82 _ _))
          obtain ⟨Sa, ea, ew, -⟩ := g_eF (LW_SW lw1 lr (MF_e mf rfl)) (LW_EW lw1) hf _ h1
          rw [h2]
          exact ⟨Sa, ea, rfl, ew, lw1⟩
        obtain ⟨q0, e0, -⟩ := mm_redeem (a1 := Int32.ofNat co) iv.1 (x57 iv) iv.2.1 (by have := iv.2.2.1; omega)
        obtain ⟨Sa, ea, -, ew0, -⟩ := run S q0 (MF_of iv.1) (GK_rf S) e0
        have la : LF S Sa := ew0.1
        refine o_bd ea ?_
        unfold f_W_grants_B962
        obtain ⟨c', v, S1, S2, T1, e1, e2, g, an⟩ := tg_redeem (a0 := Int32.ofNat co) (LF_IV iv tl la) (by omega) (LF_RPF iv.1 tl rp la)
        have bh := PK_BH L la g (by decide +kernel) (by decide +kernel) (by decide +kernel)
        obtain ⟨-, -, -, -, kS, kS1, kG, mf⟩ := id bh
        have gk0 : GK S S1 := GK_tr (LF_GK la) kG
        obtain ⟨Sa', ea', v1, ew, lw1⟩ := run S1 _ mf gk0 e2
        rw [ea] at ea'
        cases ea'
        have v1 : v = -1 := v1
        have ew : EW ns nf S (wI S1 57 82 0) Sa S2 := ew
        have om := ew.2.2.1.2.2
        have lw2 := LW_ends lw1 ew
        have g0 : ∀ k j, k = 73 ∨ (k = 57 ∧ j = 0) → sI S2 k j = sI S k j := fun k j h => by
          rw [om k j (by omega) (by omega) (by omega) (by omega) (by omega) (by omega) (by omega), ti_sI_ne (by omega)]
          exact gk0 k j (by omega) (by omega) (by omega)
        have v82 : sI S2 57 82 = 0 := by rw [om 57 82 (by omega) (by omega) (by omega) (by omega) (by omega) (by omega) (by omega), ti_sI_eq]
        refine o_b2 e1 (r_ifF one0 (r_ifT rfl ?_))
        unfold f_W_grants_B995
        exact o_fin (by rw [ANc_0 an (by decide) v82, v1]) (BH_L bh (lPN_e pts (fun j => g0 73 j (Or.inl rfl)) (g0 57 0 (Or.inr ⟨rfl, rfl⟩))) ⟨ns, nc, nf, nt, nk, na, LW_cong2 lw2 kS (GK_rf _)⟩)
    · -- no such code
      refine r_ifT ((oleq (a := nc) (b := co) (by omega) (by omega)).mpr (by omega)) ?_
      unfold f_W_grants_B734
      refine r_ifT rfl ?_
      unfold f_W_grants_B796 f_W_grants_B797
      refine r_ifT rfl ?_
      unfold f_W_grants_B814
      refine r_ifT rfl (r_ifT rfl ?_)
      unfold f_W_grants_B962
      obtain ⟨c', v, S1, S2, T1, e1, e2, g, an⟩ := tg_redeem (a0 := Int32.ofNat co) iv (by omega) rp
      have bh := PK_BH L (LF_rf S) g (by decide +kernel) (by decide +kernel) (by decide +kernel)
      obtain ⟨-, -, -, -, kS, kS1, kG, mf⟩ := id bh
      obtain ⟨t, gk2⟩ := p_redeem_none mf ((kG 57 39 (by omega) (by omega) (by omega)).trans z2.2.1) nc10 (show co = nc by omega) _ e2
      have gk : GK S S2 := GK_tr kG gk2
      refine o_b2 e1 (r_ifT rfl ?_)
      unfold f_W_grants_B995
      exact o_fin (ANc_k an (by decide) 0 rfl t) (BH_L bh (lPN_e pts (fun j => gk 73 j (by omega) (by omega) (by omega)) (gk 57 0 (by omega) (by omega) (by omega))) ⟨ns, nc, nf, nt, nk, na, LW_cong2 lw kS gk⟩)
  by_cases c : Int32.ofNat v = 0
  · exact r_ifT c (o_aIe r127 (n := 2) rfl (by decide) z2.1 (o_some (nc + 1) (o1 nc) (by omega) (by omega) (fun w hw => go w (by omega))))
  · refine r_ifF c (o_aIe r127 (n := 2) rfl (by decide) z2.1 ?_)
    by_cases c2 : nc = 0
    · exact r_ifT (by rw [c2]; decide) (go 0 (by omega))
    · exact r_ifF (fun q => c2 (by have := (oleq (a := nc) (b := 0) (by omega) (by omega)).mp q; omega)) (o_aIe r127 (n := 2) rfl (by decide) z2.1 (o_some nc rfl (by omega) (by omega) (fun w hw => go w (by omega))))
end
