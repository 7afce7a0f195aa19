/-! ===== publish: the law's case ===== -/
theorem x_W_publish {T : Nat → Nat} {S : AS} {f n : Nat} {r : Nat → Nat} (hT : TI T S) (hx : Tx T 1 (some 4)) (h : DR T S f n r) (hsr : SR S) : Ho (f_W_publish S (some 4) (some 126)) (fun q => (¬ PK S n ∧ q = (1, wX S)) ∨ (PK S n ∧ q.1 = 0 ∧ NEW S q.2 ∧ sJ q.2 126 0 = (sI S 17 2).toInt64)) := by
  obtain ⟨K4, -⟩ := DR_K hT h
  unfold f_W_publish
  rw [ti_rv K4, Option.bind_some]
  obtain ⟨⟨v, S2⟩, hq, p, T', g, -⟩ := ho_and (x_K_publish hT hx h hsr) (t_K_publish hT hx)
  have g : Rl T kw_K44 S 7 380 T' S2 := g
  rw [hq]
  rcases p with ⟨np, e⟩ | ⟨yp, e, new⟩
  · obtain ⟨e1, e2⟩ := Prod.mk.inj e
    rw [e1, e2, bh_r]
    exact r_ifT rfl (r_some (Or.inl ⟨np, rfl⟩))
  · have e : v = .inl (sI S 17 2) := e
    have e6 := g.1.t9.2.2.2.2.2
    rw [e, bh_l, bJ_K (Tx.K g.1 e6 (by decide)) ((g.1.t1 126 (by rw [e6]; decide)).2.2.2 1 (by rw [e6]; rfl)), Option.bind_some]
    have new : NEW S S2 := new
    exact r_some (Or.inr ⟨yp, rfl, new, sJ_wJ S2 _⟩)
theorem c_publish {X : Nat → Int32} {L : Nat} {k : AS → Option Nat → Option Nat → Option Nat → Int32 → Option (Int32 × AS)} {Q : Int32 × AS → Prop} {n : Nat} {S : AS} {x : Int32} (hL : L ≤ 3072) (h0 : 0 ≤ x.toInt) (h6 : x.toInt + 6 ≤ (L : Int)) (hn : n ≤ 600) (hw : LW n S) (hk : ∀ S', LW (n + 1) S' → Ho (k S' (some 4) (some 57) (some 126) (x + 6)) Q) : Ho (f_W_law_B457 X L k S (some 4) (some 57) (some 126) x) Q := by
  obtain ⟨T, hI, t1, t2, t3, ⟨f, m, r, hr⟩, hv⟩ := hw
  unfold f_W_law_B457
  refine r_b2 (ho_and (w_publish hI.1 t1 t3) (x_W_publish hI.1 t1 hr hI.2.1.1)) (fun v53 S1 p => ?_)
  obtain ⟨⟨T1, g1⟩, p⟩ := p
  have g1 : Rl T (99999 :: kw_K44) S 10 700 T1 S1 := g1
  have f1 := FT_fr hI.2.2.2.1 g1 (by decide +kernel)
  have i1 := IV_K hI g1 t2 (by decide +kernel)
  obtain ⟨k57, kk⟩ := k_keeps hI.1 g1 t2 (by decide +kernel)
  have e66 : sI S1 66 = sI S 66 := funext fun i => kk 10 110 66 rfl rfl (by decide) (by decide) (by decide) i
  have e67 : sI S1 67 = sI S 67 := funext fun i => kk 11 111 67 rfl rfl (by decide) (by decide) (by decide) i
  have e70 : sI S1 70 = sI S 70 := funext fun i => kk 14 114 70 rfl rfl (by decide) (by decide) (by decide) i
  have e71 : sI S1 71 = sI S 71 := funext fun i => kk 15 115 71 rfl rfl (by decide) (by decide) (by decide) i
  have hm := hr.2.2.1
  have hs8 : (sI S1 66 8).toInt = (m : Int) := by
    rw [e66, hr.2.2.2.2.1]
    exact (gl2 m (by omega)).1
  obtain ⟨v, hv1, hv8⟩ := fld hI.1 t2 (j := 9) (b := 8) rfl
  have hv1 : sI S 57 9 = Int32.ofNat v := ofNat_of hv1
  have hPK : PK S m ↔ PUB S1 m := by
    unfold PK PUB nxin rnk te nx
    rw [e67, e70, e71, k57 9 (by decide), show sI S 17 2 = sI S 57 9 from hv]
  refine r_rv g1.1 (t2.up g1.ty) rfl ?_
  refine r_b2 (ho_and (mm_publish g1.1 (t2.up g1.ty) i1.1 (by have := i1.2; omega)) (t_M_publish g1.1 (t2.up g1.ty) i1.1.1 hm hs8 ((k57 9 (by decide)).trans hv1) hv8)) (fun v56 S2 p2 => ?_)
  obtain ⟨⟨g2, m2⟩, -, p2⟩ := p2
  have g2 : Rl T1 (10082 :: kw_pub) S1 1 0 T1 S2 := g2
  have rp : RP T1 S2 := by
    rcases p with ⟨np, e⟩ | ⟨yp, -, new, -⟩
    · have e : S1 = wX S := (Prod.mk.inj e).2
      rcases p2 with ⟨yp2, -⟩ | ⟨np2, e2⟩
      · exact absurd (hPK.mpr yp2) np
      · have e2 : S2 = wI S1 57 82 1 := (Prod.mk.inj e2).2
        have d : DR T1 S1 f m r := by
          rw [e]
          exact DR_X (DR_T hr g1.ty)
        have d2 := DR_fr d (thr_Rl g1.1 (t2.up g1.ty) 1) (by decide +kernel)
        have v1 : VL S1 := by
          rw [e]
          exact hv
        have v2 := VL_fr v1 (thr_Rl g1.1 (t2.up g1.ty) 1) (by decide +kernel) (by decide +kernel)
        rw [← e2] at d2 v2
        exact ⟨⟨f, m, r, d2⟩, v2⟩
    · rcases p2 with ⟨yp2, -, hp⟩ | ⟨np2, e2⟩
      · obtain ⟨n17, f', r', a1, a2, a3, a4⟩ := new
        have n17 : sI S1 17 2 = sI S 17 2 + 1 := n17
        have a1 : sR S1 4 5 = some f' := a1
        have a2 : sI S1 f' 5 = 0 := a2
        have a3 : ∀ j, j < 5 → sR S1 f' j = some (r' j) := a3
        have hp : PUBS (wI S1 57 82 0) S2 v m := hp
        have t57 := g1.1.t9.1
        have t4 := g1.1.t9.2.2.2.2.1
        have tf : T1 f' = 40 := by
          obtain ⟨a, b, c, -⟩ := g1.1.t2 4 5 40 (by rw [t4]; rfl)
          rw [a1] at b
          cases b
          exact c
        have tr : ∀ j, j < 5 → T1 (r' j) = 41 := fun j hj => by
          have q : ft 40 j = some 41 := by
            match j, hj with
            | 0, _ => rfl
            | 1, _ => rfl
            | 2, _ => rfl
            | 3, _ => rfl
            | 4, _ => rfl
          obtain ⟨a, b, c, -⟩ := g1.1.t2 f' j 41 (by rw [tf]; exact q)
          rw [a3 j hj] at b
          cases b
          exact c
        have n57 : f' ≠ 57 := fun q => by
          rw [q, t57] at tf
          cases tf
        have n66 : ∀ q, 66 ≤ q → q ≤ 71 → f' ≠ q := fun q h1 h2 e => by
          have hq : T1 q = 44 + q := by
            have : q = 66 ∨ q = 67 ∨ q = 68 ∨ q = 69 ∨ q = 70 ∨ q = 71 := by omega
            rcases this with rfl | rfl | rfl | rfl | rfl | rfl
            · exact (md_ty g1.1 (j := 10) rfl rfl).1
            · exact (md_ty g1.1 (j := 11) rfl rfl).1
            · exact (md_ty g1.1 (j := 12) rfl rfl).1
            · exact (md_ty g1.1 (j := 13) rfl rfl).1
            · exact (md_ty g1.1 (j := 14) rfl rfl).1
            · exact (md_ty g1.1 (j := 15) rfl rfl).1
          rw [← e, tf] at hq
          omega
        have hI2 : ∀ p i, p ≠ 57 → (∀ q, 66 ≤ q → q ≤ 71 → p ≠ q) → sI S2 p i = sI S1 p i := fun p i h1 h2 => by
          rw [hp p i, if_neg (fun q => h1 q.1), if_neg (fun q => h2 66 (by decide) (by decide) q.1), if_neg (fun q => h2 66 (by decide) (by decide) q.1), if_neg (fun q => h2 p (by omega) (by omega) rfl), ti_sI_ne (fun q => h1 q.1)]
        refine ⟨⟨f', 0, r', ?_, tf, by omega, ?_, ?_, fun j hj => ⟨?_, tr j hj⟩, a4, fun j i _ h => absurd h (Nat.not_lt_zero _)⟩, ?_⟩
        · rw [g2.fR 4 5 (by rw [t4]; decide) (by rw [t4]; decide +kernel)]
          exact a1
        · rw [hI2 f' 5 n57 n66]
          exact a2
        · rw [hp 66 8, if_neg (by decide), if_pos ⟨rfl, rfl⟩]
          rfl
        · rw [g2.fR f' j (by rw [tf]; decide) (by
            rw [tf]
            match j, hj with
            | 0, _ => decide +kernel
            | 1, _ => decide +kernel
            | 2, _ => decide +kernel
            | 3, _ => decide +kernel
            | 4, _ => decide +kernel)]
          exact a3 j hj
        · show sI S2 17 2 = sI S2 57 9
          rw [hI2 17 2 (by decide) (fun q h1 h2 => by omega), n17, show sI S 17 2 = sI S 57 9 from hv, hv1, hp 57 9, if_pos ⟨rfl, rfl⟩, nat1]
      · exact absurd (hPK.mp yp) np2
  have fin : Ho (f_W_law_B2025 X L k S2 (some 4) (some 57) (some 126) x) Q := hk _ (LW_M hI t1 t2 t3 g1 i1.2 f1 g2 m2 rp (by decide +kernel))
  refine r_rv g2.1 (t2.up g1.ty) rfl ?_
  rw [x_thrown g2.1, b2_s]
  rcases p with ⟨np, e⟩ | ⟨yp, c0, new, j0⟩
  · obtain ⟨c1, e⟩ := Prod.mk.inj e
    rcases p2 with ⟨yp2, -⟩ | ⟨np2, e2⟩
    · exact absurd (hPK.mpr yp2) np
    · have e2 : S2 = wI S1 57 82 1 := (Prod.mk.inj e2).2
      refine r_ifT ?_ (r_ifF ?_ fin)
      · rw [c1, e2, ti_sI_eq]
      · rw [c1]; decide
  · rcases p2 with ⟨yp2, e56, hp⟩ | ⟨np2, e2⟩
    · have hp : PUBS (wI S1 57 82 0) S2 v m := hp
      have e56 : v56 = Int32.ofNat v := e56
      have j0 : sJ S1 126 0 = (sI S 17 2).toInt64 := j0
      refine r_ifT ?_ (r_ifT c0 ?_)
      · have c0 : v53 = 0 := c0
        rw [c0, hp 57 82, if_neg (by decide), if_neg (by decide), if_neg (fun q => absurd q.1 (by decide)), if_neg (fun q => absurd q.1.1 (by decide)), ti_sI_eq]
      · rw [x_aJ g2.1, Option.bind_some]
        refine r_ifT ?_ fin
        rw [g2.fJ 126 0 (by rw [g2.1.t9.2.2.2.2.2]; decide) (by decide +kernel), j0, e56, show sI S 17 2 = sI S 57 9 from hv, hv1]
        exact lg_rf _
    · exact absurd (hPK.mp yp) np2
