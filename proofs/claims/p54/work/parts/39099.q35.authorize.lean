/-! ===== authorizing ===== -/
theorem q01_liv {S m : AS} {ns : Nat} (lv : lLiv ns S m) {s : Nat} (h : s < ns) : q01 (sI m 89 s) := by
  rcases lv s h with ⟨e, -⟩ | ⟨e, -⟩
  · exact Or.inr e
  · exact Or.inl e
def cons (m : AS) (sc w cl : Nat) : Int32 := Int32.ofNat sc &&& ((sI m 91 (4 * w + cl) ||| sI m 91 (24 + cl)) ^^^ (-1 : Int32))
/-- what an authorization leaves -/
def AZ (m : AS) (s w cl au sc nc : Nat) (q : Int32 × AS) : Prop := sI q.2 57 82 = 0 ∧ sI q.2 87 s = sI m 57 0 ∧
  ((¬ cons m sc w cl = 0 ∧ q.1 = -3 ∧ ∀ k j, ¬ (k = 57 ∧ j = 82) → ¬ (k = 87 ∧ j = s) → sI q.2 k j = sI m k j) ∨
   (cons m sc w cl = 0 ∧ ¬ sI m 92 au ≤ LVL (shB (sI m 57 0) (sI m 90 (3 * s))) (shB (sI m 57 0) (sI m 90 (3 * s + 1))) (shB (sI m 57 0) (sI m 90 (3 * s + 2))) ∧ q.1 = -2 ∧ ∀ k j, ¬ (k = 57 ∧ j = 82) → ¬ (k = 87 ∧ j = s) → sI q.2 k j = sI m k j) ∨
   (cons m sc w cl = 0 ∧ sI m 92 au ≤ LVL (shB (sI m 57 0) (sI m 90 (3 * s))) (shB (sI m 57 0) (sI m 90 (3 * s + 1))) (shB (sI m 57 0) (sI m 90 (3 * s + 2))) ∧ q.1 = Int32.ofNat nc ∧ (∀ k j, ¬ (k = 57 ∧ (j = 82 ∨ j = 39)) → ¬ (k = 87 ∧ j = s) → ¬ (93 ≤ k ∧ k ≤ 98 ∧ j = nc) → sI q.2 k j = sI m k j) ∧
     sI q.2 93 nc = Int32.ofNat s ∧ sI q.2 94 nc = Int32.ofNat cl ∧ sI q.2 95 nc = Int32.ofNat au ∧ sI q.2 96 nc = Int32.ofNat sc ∧ sI q.2 97 nc = sI m 57 0 ∧ sI q.2 98 nc = -1 ∧ sI q.2 57 39 = Int32.ofNat (nc + 1)))
theorem p_authorize {m : AS} {ns nc s cl au sc w : Nat} (hmf : MF m) (h30 : sI m 57 30 = Int32.ofNat ns) (n14 : ns ≤ 14) (h39 : sI m 57 39 = Int32.ofNat nc) (n10 : nc ≤ 10) (hs : s ≤ ns) (c4 : cl < 4) (a4 : au < 4) (s16 : sc < 16) (h01 : s < ns → q01 (sI m 89 s)) (w3 : w < 3) (h85 : s < ns → sI m 85 s = Int32.ofNat w) : Hp (f_M_authorize m (some 57) (Int32.ofNat s) (Int32.ofNat cl) (Int32.ofNat au) (Int32.ofNat sc)) (fun q => (s = ns → sI q.2 57 82 = Int32.ofNat 1 ∧ GK m q.2) ∧ (s < ns → sc = 0 → sI q.2 57 82 = Int32.ofNat 2 ∧ GK m q.2) ∧ (s < ns → 0 < sc → sI m 89 s = 0 → sI q.2 57 82 = Int32.ofNat 3 ∧ GK m q.2) ∧ (s < ns → 0 < sc → sI m 89 s = 1 → AZ m s w cl au sc nc q)) := by
  have in1 : ((1 : Int32) ≤ Int32.ofNat sc ∧ Int32.ofNat sc ≤ (15 : Int32)) ↔ 0 < sc := ⟨fun h => by have := (oleq (a := 1) (b := sc) (by omega) (by omega)).mp h.1; omega, fun h => ⟨(oleq (a := 1) (by omega) (by omega)).mpr h, (in15 s16).2⟩⟩
  -- refused
  have bad : ∀ y1 y2 : Int32, (y1 = 0 → s = ns) → (y1 ≠ 0 → s < ns ∧ (sc = 0 ∨ sI m 89 s = 0)) → (y2 = if 0 < sc then 1 else 0) → Hp (f_M_authorize_B67 m (some 57) (Int32.ofNat s) (Int32.ofNat cl) (Int32.ofNat au) (Int32.ofNat sc) (some 57) y1 y2) (fun q => (s = ns → sI q.2 57 82 = Int32.ofNat 1 ∧ GK m q.2) ∧ (s < ns → sc = 0 → sI q.2 57 82 = Int32.ofNat 2 ∧ GK m q.2) ∧ (s < ns → 0 < sc → sI m 89 s = 0 → sI q.2 57 82 = Int32.ofNat 3 ∧ GK m q.2) ∧ (s < ns → 0 < sc → sI m 89 s = 1 → AZ m s w cl au sc nc q)) := fun y1 y2 h0 h1 hy => by
    unfold f_M_authorize_B67 f_M_authorize_B68
    refine p_of st_rv (p_b2 p_mayA (fun x m' q => ?_))
    by_cases c : y1 = 0
    · rw [if_pos c] at q
      obtain ⟨q1, q2⟩ := Prod.mk.inj q
      rw [q1, q2]
      have := h0 c
      exact p_of (st_T rfl) (p_ret ⟨fun _ => ⟨ti_sI_eq _ _ _ _, GK_82 _ _⟩, fun z => absurd z (by omega), fun z => absurd z (by omega), fun z => absurd z (by omega)⟩)
    · obtain ⟨d1, d2⟩ := h1 c
      by_cases e : 0 < sc
      · rw [if_neg c, hy, if_pos e, if_neg one0, if_pos rfl] at q
        obtain ⟨q1, q2⟩ := Prod.mk.inj q
        rw [q1, q2]
        have l0 := d2.resolve_left (by omega)
        exact p_of (st_T rfl) (p_ret ⟨fun z => absurd z (by omega), fun _ z => absurd z (by omega), fun _ _ _ => ⟨ti_sI_eq _ _ _ _, GK_82 _ _⟩, fun _ _ z => absurd (l0.symm.trans z) (by decide)⟩)
      · rw [if_neg c, hy, if_neg e, if_pos rfl] at q
        obtain ⟨q1, q2⟩ := Prod.mk.inj q
        rw [q1, q2]
        exact p_of (st_T rfl) (p_ret ⟨fun z => absurd z (by omega), fun _ _ => ⟨ti_sI_eq _ _ _ _, GK_82 _ _⟩, fun _ z => absurd z e, fun _ z => absurd z e⟩)
  have v42 : ∀ x : Int32, x = (if (1 : Int32) ≤ Int32.ofNat sc ∧ Int32.ofNat sc ≤ (15 : Int32) then 1 else 0) → x = if 0 < sc then 1 else 0 := fun x hx => by
    rw [hx]
    by_cases e : 0 < sc
    · rw [if_pos (in1.mpr e), if_pos e]
    · rw [if_neg (fun z => e (in1.mp z)), if_neg e]
  unfold f_M_authorize
  refine p_of st_rv (p_b2 (p_isSes h30 (by omega) (by omega)) (fun x m' q => ?_))
  obtain ⟨q1, q2⟩ := Prod.mk.inj q
  rw [q2]
  by_cases c : s < ns
  · rw [if_pos c] at q1
    rw [q1]
    refine p_of (st_F one0) (p_of (st_b2 (q_ser m _)) ?_)
    rw [if_pos (in3 c4)]
    refine p_of (st_F one0) (p_of (st_b2 (q_ser m _)) ?_)
    rw [if_pos (in3 a4)]
    refine p_of (st_F one0) ?_
    unfold f_M_authorize_B27
    refine p_of (st_b2 (q_isIn m _ _ _)) (p_of (st_F one0) (p_of (st_gRe (hmf 35 89 rfl)) (p_of (st_aIe (oc (by omega)) rfl) ?_)))
    rcases h01 c with e | e
    · exact p_of (st_T e) (bad _ _ (fun z => absurd z one0) (fun _ => ⟨c, Or.inr e⟩) (v42 _ rfl))
    · refine p_of (st_F (by rw [e]; decide)) (p_of (st_gIe h39) (p_of (st_F (fun z => by have := (oleq (a := 60) (b := nc) (by omega) (by omega)).mp z; omega)) ?_))
      by_cases d : 0 < sc
      · rw [if_pos (in1.mpr d)]
        unfold f_M_authorize_B68
        refine p_of st_rv (p_b2 p_mayA (fun x m' q => ?_))
        rw [if_neg one0, if_neg one0, if_neg one0] at q
        obtain ⟨q1, q2⟩ := Prod.mk.inj q
        rw [q1]
        obtain ⟨m1, e1⟩ : ∃ m1, m1 = wI m 57 82 0 := ⟨_, rfl⟩
        rw [q2, ← e1]
        have hm1 : MF m1 := by rw [e1]; exact MF_e hmf rfl
        have o : ∀ k j, ¬ (k = 57 ∧ j = 82) → sI m1 k j = sI m k j := fun k j z => by rw [e1, ti_sI_ne z]
        refine p_of (st_F one0) (p_of (st_gRe (hm1 33 87 rfl)) (p_of (st_gIe (o 57 0 (by omega))) (p_of (st_bIe (oc (by omega))) ?_)))
        obtain ⟨m2, e2⟩ : ∃ m2, m2 = wI m1 87 s (sI m 57 0) := ⟨_, rfl⟩
        rw [← e2]
        have hm2 : MF m2 := by rw [e2]; exact MF_e hm1 rfl
        have o2 : ∀ k j, ¬ (k = 57 ∧ j = 82) → ¬ (k = 87 ∧ j = s) → sI m2 k j = sI m k j := fun k j z1 z2 => by rw [e2, ti_sI_ne z2, o k j z1]
        have m82 : sI m2 57 82 = 0 := by rw [e2, ti_sI_ne (by omega), e1, ti_sI_eq]
        have m87 : sI m2 87 s = sI m 57 0 := by rw [e2, ti_sI_eq]
        have ixc : ((4 : Int32) * Int32.ofNat w + Int32.ofNat cl).toNatClampNeg = 4 * w + cl := by
          rw [show (4 : Int32) * Int32.ofNat w + Int32.ofNat cl = Int32.ofNat (4 * w + cl) from wix 4 w cl]
          exact oc (by omega)
        have ixa : ((24 : Int32) + Int32.ofNat cl).toNatClampNeg = 24 + cl := by
          rw [show (24 : Int32) + Int32.ofNat cl = Int32.ofNat (24 + cl) from wadd 24 cl]
          exact oc (by omega)
        refine p_of (st_gRe (hm2 37 91 rfl)) (p_of (st_gRe (hm2 31 85 rfl)) (p_of (st_aIe (oc (by omega)) ((o2 85 s (by omega) (by omega)).trans (h85 c))) (p_of (st_aIe ixc (o2 91 _ (by omega) (by omega))) (p_of (st_gRe (hm2 37 91 rfl)) (p_of (st_aIe ixa (o2 91 _ (by omega) (by omega))) (p_of st_val ?_))))))
        have r1 : ∀ q, AZ m s w cl au sc nc q → (s = ns → sI q.2 57 82 = Int32.ofNat 1 ∧ GK m q.2) ∧ (s < ns → sc = 0 → sI q.2 57 82 = Int32.ofNat 2 ∧ GK m q.2) ∧ (s < ns → 0 < sc → sI m 89 s = 0 → sI q.2 57 82 = Int32.ofNat 3 ∧ GK m q.2) ∧ (s < ns → 0 < sc → sI m 89 s = 1 → AZ m s w cl au sc nc q) := fun q h => ⟨fun z => absurd z (by omega), fun _ z => absurd z (by omega), fun _ _ z => absurd (e.symm.trans z) (by decide), fun _ _ _ => h⟩
        by_cases f : cons m sc w cl = 0
        · refine p_of (st_T f) (p_of st_rv (p_b2 (p_levelNow hm2 (by omega)) (fun v m' q => ?_)))
          obtain ⟨q1, q2⟩ := Prod.mk.inj q
          rw [q1, q2, o2 57 0 (by omega) (by omega), o2 90 _ (by omega) (by omega), o2 90 _ (by omega) (by omega), o2 90 _ (by omega) (by omega)]
          refine p_of (st_gRe (hm2 38 92 rfl)) (p_of (st_aIe (oc (by omega)) (o2 92 au (by omega) (by omega))) ?_)
          by_cases l : sI m 92 au ≤ LVL (shB (sI m 57 0) (sI m 90 (3 * s))) (shB (sI m 57 0) (sI m 90 (3 * s + 1))) (shB (sI m 57 0) (sI m 90 (3 * s + 2)))
          · have ic : (Int32.ofNat nc).toNatClampNeg = nc := oc (by omega)
            have m39 : sI m2 57 39 = Int32.ofNat nc := (o2 57 39 (by omega) (by omega)).trans h39
            refine p_of (st_T l) (p_of (st_gRe (hm2 40 93 rfl)) (p_of (st_gIe m39) (p_of (st_bIe ic) ?_)))
            refine p_of (st_gRe (v := some 94) (hm2 41 94 rfl)) (p_of (st_gIe (v := Int32.ofNat nc) (by rw [ti_sI_ne (by omega)]; exact m39)) (p_of (st_bIe ic) ?_))
            refine p_of (st_gRe (v := some 95) (hm2 42 95 rfl)) (p_of (st_gIe (v := Int32.ofNat nc) (by rw [ti_sI_ne (by omega), ti_sI_ne (by omega)]; exact m39)) (p_of (st_bIe ic) ?_))
            refine p_of (st_gRe (v := some 96) (hm2 43 96 rfl)) (p_of (st_gIe (v := Int32.ofNat nc) (by rw [ti_sI_ne (by omega), ti_sI_ne (by omega), ti_sI_ne (by omega)]; exact m39)) (p_of (st_bIe ic) ?_))
            refine p_of (st_gRe (v := some 97) (hm2 44 97 rfl)) (p_of (st_gIe (v := Int32.ofNat nc) (by rw [ti_sI_ne (by omega), ti_sI_ne (by omega), ti_sI_ne (by omega), ti_sI_ne (by omega)]; exact m39)) (p_of (st_gIe (v := sI m 57 0) (by rw [ti_sI_ne (by omega), ti_sI_ne (by omega), ti_sI_ne (by omega), ti_sI_ne (by omega)]; exact o2 57 0 (by omega) (by omega))) (p_of (st_bIe ic) ?_)))
            refine p_of (st_gRe (v := some 98) (hm2 45 98 rfl)) (p_of (st_gIe (v := Int32.ofNat nc) (by rw [ti_sI_ne (by omega), ti_sI_ne (by omega), ti_sI_ne (by omega), ti_sI_ne (by omega), ti_sI_ne (by omega)]; exact m39)) (p_of (st_bIe ic) ?_))
            refine p_of (st_gIe (v := Int32.ofNat nc) (by rw [ti_sI_ne (by omega), ti_sI_ne (by omega), ti_sI_ne (by omega), ti_sI_ne (by omega), ti_sI_ne (by omega), ti_sI_ne (by omega)]; exact m39)) (p_of st_pI (p_of (st_gIe (v := Int32.ofNat (nc + 1)) (by rw [ti_sI_eq]; exact o1 nc)) (p_ret (r1 _ ?_))))
            rw [qsub1]
            refine ⟨?_, ?_, Or.inr (Or.inr ⟨f, l, rfl, fun k j z1 z2 z3 => ?_, ?_, ?_, ?_, ?_, ?_, ?_, ?_⟩)⟩
            · show sI (wI _ 57 39 _) 57 82 = 0
              rw [ti_sI_ne (by omega), ti_sI_ne (by omega), ti_sI_ne (by omega), ti_sI_ne (by omega), ti_sI_ne (by omega), ti_sI_ne (by omega), ti_sI_ne (by omega)]
              exact m82
            · show sI (wI _ 57 39 _) 87 s = _
              rw [ti_sI_ne (by omega), ti_sI_ne (by omega), ti_sI_ne (by omega), ti_sI_ne (by omega), ti_sI_ne (by omega), ti_sI_ne (by omega), ti_sI_ne (by omega)]
              exact m87
            · show sI (wI _ 57 39 _) k j = _
              rw [ti_sI_ne (by omega), ti_sI_ne (by omega), ti_sI_ne (by omega), ti_sI_ne (by omega), ti_sI_ne (by omega), ti_sI_ne (by omega), ti_sI_ne (by omega)]
              exact o2 k j (by omega) z2
            · show sI (wI _ 57 39 _) 93 nc = _
              rw [ti_sI_ne (by omega), ti_sI_ne (by omega), ti_sI_ne (by omega), ti_sI_ne (by omega), ti_sI_ne (by omega), ti_sI_ne (by omega), ti_sI_eq]
            · show sI (wI _ 57 39 _) 94 nc = _
              rw [ti_sI_ne (by omega), ti_sI_ne (by omega), ti_sI_ne (by omega), ti_sI_ne (by omega), ti_sI_ne (by omega), ti_sI_eq]
            · show sI (wI _ 57 39 _) 95 nc = _
              rw [ti_sI_ne (by omega), ti_sI_ne (by omega), ti_sI_ne (by omega), ti_sI_ne (by omega), ti_sI_eq]
            · show sI (wI _ 57 39 _) 96 nc = _
              rw [ti_sI_ne (by omega), ti_sI_ne (by omega), ti_sI_ne (by omega), ti_sI_eq]
            · show sI (wI _ 57 39 _) 97 nc = _
              rw [ti_sI_ne (by omega), ti_sI_ne (by omega), ti_sI_eq]
            · show sI (wI _ 57 39 _) 98 nc = _
              rw [ti_sI_ne (by omega), ti_sI_eq]
            · show sI (wI _ 57 39 _) 57 39 = _
              rw [ti_sI_eq]
              exact o1 nc
          · exact p_of (st_F l) (p_ret (r1 _ ⟨m82, m87, Or.inr (Or.inl ⟨f, l, rfl, o2⟩)⟩))
        · exact p_of (st_F f) (p_ret (r1 _ ⟨m82, m87, Or.inl ⟨f, rfl, o2⟩⟩))
      · rw [if_neg (fun z => d (in1.mp z))]
        have := bad 1 0 (fun z => absurd z one0) (fun _ => ⟨c, Or.inl (by omega)⟩) (by rw [if_neg d])
        unfold f_M_authorize_B67 at this
        -- with no scope the number of codes is no matter
        unfold f_M_authorize_B68 at this ⊢
        refine p_of st_rv (p_b2 p_mayA (fun x m' q => ?_))
        rw [if_neg one0, if_pos rfl] at q
        obtain ⟨q1, q2⟩ := Prod.mk.inj q
        rw [q1, q2]
        exact p_of (st_T rfl) (p_ret ⟨fun z => absurd z (by omega), fun _ _ => ⟨ti_sI_eq _ _ _ _, GK_82 _ _⟩, fun _ z => absurd z d, fun _ z => absurd z d⟩)
  · rw [if_neg c] at q1
    rw [q1]
    refine p_of (st_T rfl) ?_
    unfold f_M_authorize_B26 f_M_authorize_B27
    exact p_of (st_b2 (q_isIn m _ _ _)) (p_of (st_T rfl) (bad _ _ (fun _ => by omega) (fun z => absurd rfl z) (v42 _ rfl)))
theorem cons16 : ∀ sc, sc < 16 → ∀ a, a < 16 → ∀ b, b < 16 → ((Int32.ofNat sc &&& ((Int32.ofNat a ||| Int32.ofNat b) ^^^ (-1 : Int32))) ≤ 0 ↔ (Int32.ofNat sc &&& ((Int32.ofNat a ||| Int32.ofNat b) ^^^ (-1 : Int32))) = 0) := by decide +kernel
section
variable {n r : Nat} {T : Nat → Nat} {S : AS}
theorem l_authorize (L : L54 n r T S) (hn : n ≤ 500) {y : Int32} : Ho (f_W_grants S (some 4) (3 : Int32) y (some 127) (some 133) (some 134) (some 135) (some 136) (some 137) (some 139) (some 140)) (G54 n r) := by
  obtain ⟨iv, rp, tl, pts, -, ns, nc, nf, nt, nk, na, lw⟩ := id L
  have lr := TL_LR iv.1 tl
  obtain ⟨⟨z1, z2, -⟩, ⟨now, -⟩, -, -, -, ⟨sp, usd, lv, ssh⟩, ⟨cod, cfa, -⟩, -, -, -, con⟩ := id lw
  have n14 := z1.2.2
  have nc10 := z2.2.2
  obtain ⟨r127, -, -, -, -, -, r133, r134, r135, -, -, -, -, r140⟩ := id lr
  unfold f_W_grants
  refine o_some 4 rfl (by decide) (by decide) (fun cl c4 => o_some 16 rfl (by decide) (by decide) (fun sc s16 => r_ifF (by decide) (r_ifF (by decide) (r_ifF (by decide) (r_ifT rfl (o_some 5 rfl (by decide) (by decide) (fun v _ => ?_)))))))
  have go : ∀ s, s ≤ ns → Ho (f_W_grants_B369 S (some 4) y (some 127) (some 133) (some 134) (some 135) (some 140) (Int32.ofNat cl) (Int32.ofNat sc) (Int32.ofNat s)) (G54 n r) := fun s hs => by
    unfold f_W_grants_B369
    refine o_some 4 rfl (by decide) (by decide) (fun au a4 => o_aIe r127 (n := 1) rfl (by decide) z1.1 ?_)
    obtain ⟨w, w3, sp1, sp2⟩ : ∃ w, w < 3 ∧ (s < ns → sI S 133 (4 * s) = Int32.ofNat w) ∧ (s < ns → sI S 85 s = Int32.ofNat w) := by
      by_cases c : s < ns
      · obtain ⟨⟨w, w3, a, b⟩, -⟩ := sp s c
        exact ⟨w, w3, fun _ => a, fun _ => b⟩
      · exact ⟨0, by decide, fun h => absurd h c, fun h => absurd h c⟩
    have paz : ∀ M q, MF M → GK S M → f_M_authorize M (some 57) (Int32.ofNat s) (Int32.ofNat cl) (Int32.ofNat au) (Int32.ofNat sc) = some q → (s = ns → sI q.2 57 82 = Int32.ofNat 1 ∧ GK M q.2) ∧ (s < ns → sc = 0 → sI q.2 57 82 = Int32.ofNat 2 ∧ GK M q.2) ∧ (s < ns → 0 < sc → sI M 89 s = 0 → sI q.2 57 82 = Int32.ofNat 3 ∧ GK M q.2) ∧ (s < ns → 0 < sc → sI M 89 s = 1 → AZ M s w cl au sc nc q) := fun M q mf gk h =>
      p_authorize mf ((gk 57 30 (by omega) (by omega) (by omega)).trans z1.2.1) n14 ((gk 57 39 (by omega) (by omega) (by omega)).trans z2.2.1) nc10 hs c4 a4 s16 (fun h => by rw [gk 89 s (by omega) (by omega) (by omega)]; exact q01_liv lv h) w3 (fun h => by rw [gk 85 s (by omega) (by omega) (by omega)]; exact sp2 h) _ h
    -- refused
    have no : ∀ (x15 k : Int32) (i : Nat), ([(-1001 : Int32), -1002, -1003] : List Int32)[i]? = some k → (∀ M q, MF M → GK S M → f_M_authorize M (some 57) (Int32.ofNat s) (Int32.ofNat cl) (Int32.ofNat au) (Int32.ofNat sc) = some q → sI q.2 57 82 = Int32.ofNat (i + 1) ∧ GK M q.2) → Ho (f_W_grants_B476 S (some 4) (some 127) (some 133) (some 134) (some 135) (some 140) (Int32.ofNat cl) (Int32.ofNat sc) (Int32.ofNat s) (Int32.ofNat au) 0 k) (G54 n r) := fun x15 k i hi hm => by
      unfold f_W_grants_B476
      refine r_ifT rfl ?_
      unfold f_W_grants_B561
      refine r_ifT rfl ?_
      unfold f_W_grants_B654
      obtain ⟨c, v, S1, S2, T1, e1, e2, g, an⟩ := tg_authorize (a0 := Int32.ofNat s) (a1 := Int32.ofNat cl) (a2 := Int32.ofNat au) (a3 := Int32.ofNat sc) iv (by omega) rp
      have bh := PK_BH L (LF_rf S) g (by decide +kernel) (by decide +kernel) (by decide +kernel)
      obtain ⟨-, -, -, -, kS, kS1, kG, mf⟩ := id bh
      obtain ⟨t, gk2⟩ := hm S1 _ mf kG e2
      have gk := GK_tr kG gk2
      exact o_b2 e1 (o_fin (ANc_k an (by decide) i hi t) (BH_L bh (lPN_e pts (fun j => gk 73 j (by omega) (by omega) (by omega)) (gk 57 0 (by omega) (by omega) (by omega))) ⟨ns, nc, nf, nt, nk, na, LW_cong2 lw kS gk⟩))
    by_cases hlt : s < ns
    · refine r_ifF (fun q => by have := (oleq (a := ns) (b := s) (by omega) (by omega)).mp q; omega) ?_
      unfold f_W_grants_B394
      refine r_ifF one0 ?_
      by_cases hsc : sc = 0
      · refine r_ifT (by rw [hsc]; decide) ?_
        unfold f_W_grants_B424 f_W_grants_B425
        refine r_ifT rfl ?_
        unfold f_W_grants_B442
        exact r_ifF one0 (r_ifT (by rw [hsc]; rfl) (no 0 _ 1 rfl (fun M q mf gk h => (paz M q mf gk h).2.1 hlt hsc)))
      · have nsc : ¬ Int32.ofNat sc = 0 := fun q => hsc (oinjq (a := sc) (b := 0) (by omega) (by omega) q)
        refine r_ifF (fun q => by have := (oleq (a := sc) (b := 0) (by omega) (by omega)).mp q; omega) ?_
        obtain ⟨-, -, o, o1', o2⟩ := sp s hlt
        rcases lv s hlt with ⟨l1, l2⟩ | ⟨l1, l2⟩
        · refine o_aIe r133 (n := 4 * s + 3) (wix 4 s 3) (by omega) (l2.trans o2) (r_ifF (fun q => by have := (oleq (a := 100) (b := o) (by omega) (by omega)).mp q; omega) ?_)
          unfold f_W_grants_B425
          refine r_ifF one0 (o_aIe r127 (n := 2) rfl (by decide) z2.1 ?_)
          by_cases n10 : nc = 10
          · exact r_ifT (by rw [n10]; rfl) (G54_no L)
          · refine r_ifF (fun q => n10 (oinjq (a := nc) (b := 10) (by omega) (by omega) q)) ?_
            unfold f_W_grants_B442
            refine r_ifF one0 (r_ifF nsc (r_ifF one0 ?_))
            unfold f_W_grants_B476
            refine r_ifF one0 (o_aI r127 (n := 0) rfl (by decide) (o_bI r133 (n := 4 * s + 2) (wix 4 s 2) (by omega) ?_))
            obtain ⟨Sb, eb⟩ : ∃ Sb, Sb = wI S 133 (4 * s + 2) (sI S 127 0) := ⟨_, rfl⟩
            rw [← eb]
            have lb : LF S Sb := by rw [eb]; exact LF_w (LF_rf S) (by decide)
            have ob : ∀ k j, ¬ (k = 133 ∧ j = 4 * s + 2) → sI Sb k j = sI S k j := fun k j q => by rw [eb, ti_sI_ne q]
            obtain ⟨x1, x2, x3⟩ := con cl c4
            obtain ⟨va, va16, a1, a2⟩ := x1 w w3
            obtain ⟨vb, vb16, b1, b2⟩ := x2
            obtain ⟨vn, vn7, n1, n2⟩ := (con au a4).2.2
            refine o_aIe (lb.Rw r133) (n := 4 * s) (wmul 4 s) (by omega) ((ob 133 _ (by omega)).trans (sp1 hlt)) ?_
            refine o_aIe (lb.Rw r140) (n := 4 * w + cl) (wix 4 w cl) (by omega) ((ob 140 _ (by omega)).trans a1) (o_aIe (lb.Rw r140) (n := 12 + cl) (wadd 12 cl) (by omega) ((ob 140 _ (by omega)).trans b1) ?_)
            have ec : cons S sc w cl = Int32.ofNat sc &&& ((Int32.ofNat va ||| Int32.ofNat vb) ^^^ (-1 : Int32)) := by
              unfold cons
              rw [a2, b2]
            have hle : (Int32.ofNat sc &&& ((Int32.ofNat va ||| Int32.ofNat vb) ^^^ (-1 : Int32))) ≤ 0 ↔ cons S sc w cl = 0 := by
              rw [ec]
              exact cons16 sc s16 va va16 vb vb16
            have consG : ∀ M, GK S M → cons M sc w cl = cons S sc w cl := fun M gk => by
              unfold cons
              rw [gk 91 _ (by omega) (by omega) (by omega), gk 91 _ (by omega) (by omega) (by omega)]
            -- the call from any rows of the law that stand behind it
            have call : ∀ (Sa : AS) (k : Int32), LF S Sa → (∀ c v S1 S2 T1, BH n r T1 Sa S1 S2 → GK S S1 → AZ S1 s w cl au sc nc (v, S2) → ANc [-1001, -1002, -1003] c v (sI S2 57 82) → c = k ∧ ∃ ns nc nf nt nk na, LW ns nc nf nt nk na S2 S2) → Ho (f_W_grants_B654 Sa (some 4) (Int32.ofNat cl) (Int32.ofNat sc) (Int32.ofNat s) (Int32.ofNat au) k) (G54 n r) := fun Sa k la H => by
              unfold f_W_grants_B654
              obtain ⟨c, v, S1, S2, T1, e1, e2, g, an⟩ := tg_authorize (a0 := Int32.ofNat s) (a1 := Int32.ofNat cl) (a2 := Int32.ofNat au) (a3 := Int32.ofNat sc) (LF_IV iv tl la) (by omega) (LF_RPF iv.1 tl rp la)
              have bh := PK_BH L la g (by decide +kernel) (by decide +kernel) (by decide +kernel)
              obtain ⟨-, -, -, -, kS, kS1, kG, mf⟩ := id bh
              have gk0 : GK S S1 := GK_tr (LF_GK la) kG
              have az := (paz S1 _ mf gk0 e2).2.2.2 hlt (by omega) ((gk0 89 s (by omega) (by omega) (by omega)).trans l1)
              obtain ⟨h1, h2⟩ := H c v S1 S2 T1 bh gk0 az an
              have fr : ∀ k j, k = 73 ∨ (k = 57 ∧ j = 0) → sI S2 k j = sI S k j := fun k j hk => by
                refine Eq.trans ?_ (gk0 k j (by omega) (by omega) (by omega))
                rcases az.2.2 with ⟨-, -, h⟩ | ⟨-, -, -, h⟩ | ⟨-, -, -, h, -⟩
                · exact h k j (by omega) (by omega)
                · exact h k j (by omega) (by omega)
                · exact h k j (by omega) (by omega) (by omega)
              exact o_b2 e1 (o_fin h1 (BH_L bh (lPN_e pts (fun j => fr 73 j (Or.inl rfl)) (fr 57 0 (Or.inr ⟨rfl, rfl⟩))) h2))
            -- refused, but used
            have low : ∀ k : Int32, k < 0 → (∀ M v m2, GK S M → AZ M s w cl au sc nc (v, m2) → v = k ∧ ∀ k j, ¬ (k = 57 ∧ j = 82) → ¬ (k = 87 ∧ j = s) → sI m2 k j = sI M k j) → Ho (f_W_grants_B559 Sb (some 4) (some 127) (some 135) (Int32.ofNat cl) (Int32.ofNat sc) (Int32.ofNat s) (Int32.ofNat au) (1 : Int32) k) (G54 n r) := fun k hk hz => by
              unfold f_W_grants_B559 f_W_grants_B561
              refine r_ifF one0 (r_ifT hk (call Sb k lb (fun c v S1 S2 T1 bh gk0 az an => ?_)))
              obtain ⟨-, -, -, -, kS, -⟩ := id bh
              obtain ⟨h1, h2⟩ := hz S1 v S2 gk0 az
              have v82 : sI S2 57 82 = 0 := az.1
              refine ⟨(ANc_0 an (by decide) v82).trans h1, ns, nc, nf, nt, nk, na, LWa_used lw (fun k j h3 h4 h5 => by rw [kS k h3 h4]; exact ob k j (by omega)) (fun k j h3 h4 h5 h6 => (h2 k j (by omega) (by omega)).trans (gk0 k j h3 h4 h5)) (fun j hj => ?_)⟩
              by_cases e : j = s
              · have e87 : sI S2 87 s = sI S1 57 0 := az.2.1
                rw [e, kS 133 (by omega) (by omega), eb, ti_sI_eq, e87, gk0 57 0 (by omega) (by omega) (by omega), now.1]
                exact ⟨rfl, now.2⟩
              · rw [kS 133 (by omega) (by omega), ob 133 _ (by omega), h2 87 j (by omega) (by omega), gk0 87 j (by omega) (by omega) (by omega)]
                exact usd j hj
            have lvG : ∀ M, GK S M → (sI M 92 au ≤ LVL (shB (sI M 57 0) (sI M 90 (3 * s))) (shB (sI M 57 0) (sI M 90 (3 * s + 1))) (shB (sI M 57 0) (sI M 90 (3 * s + 2))) ↔ sI S 92 au ≤ LVL (shB (sI S 57 0) (sI S 90 (3 * s))) (shB (sI S 57 0) (sI S 90 (3 * s + 1))) (shB (sI S 57 0) (sI S 90 (3 * s + 2)))) := fun M gk => by
              rw [gk 92 au (by omega) (by omega) (by omega), gk 57 0 (by omega) (by omega) (by omega), gk 90 _ (by omega) (by omega) (by omega), gk 90 _ (by omega) (by omega) (by omega), gk 90 _ (by omega) (by omega) (by omega)]
            by_cases hc : cons S sc w cl = 0
            · refine r_ifT (hle.mpr hc) (o_b2 (x_levelOf (lb.Rw r127) (lb.Rw r134) (by omega) (fun g g3 => by
                rw [ob 134 _ (by omega)]
                obtain ⟨h1, h2⟩ := ssh s hlt g g3
                rw [h1]
                exact h2)) ?_)
              rw [ob 127 0 (by omega), ob 134 _ (by omega), ob 134 _ (by omega), ob 134 _ (by omega), lvl_eq now ssh hlt]
              refine o_aIe (lb.Rw r140) (n := 16 + au) (wadd 16 au) (by omega) ((ob 140 _ (by omega)).trans (n1.trans n2.symm)) ?_
              by_cases hl : sI S 92 au ≤ LVL (shB (sI S 57 0) (sI S 90 (3 * s))) (shB (sI S 57 0) (sI S 90 (3 * s + 1))) (shB (sI S 57 0) (sI S 90 (3 * s + 2)))
              · refine r_ifT hl (o_aIe (lb.Rw r127) (n := 2) rfl (by decide) ((ob 127 2 (by omega)).trans z2.1) ?_)
                unfold f_W_grants_B559 f_W_grants_B561
                refine r_ifF one0 (r_ifF (fun q => by
                  have := Int32.lt_iff_toInt_lt.mp q
                  rw [oiq (by omega), show (0 : Int32).toInt = 0 from by decide] at this
                  omega) ?_)
                have c2 : ∀ X, LF S X → (∀ j, j ≠ 2 → sI X 127 j = sI S 127 j) → sI X 127 2 = Int32.ofNat nc → True := fun _ _ _ _ => trivial
                have rb := lb.Rw r127
                have rd := lb.Rw r135
                have e2 : sI Sb 127 2 = Int32.ofNat nc := (ob 127 2 (by omega)).trans z2.1
                refine o_aIe rb (n := 2) rfl (by decide) e2 (o_bI rd (n := 6 * nc) (wmul 6 nc) (by omega) ?_)
                refine o_aIe rb.w (n := 2) rfl (by decide) (by rw [ti_sI_ne (by omega)]; exact e2) (o_bI rd.w (n := 6 * nc + 1) (wix 6 nc 1) (by omega) ?_)
                refine o_aIe rb.w.w (n := 2) rfl (by decide) (by rw [ti_sI_ne (by omega), ti_sI_ne (by omega)]; exact e2) (o_bI rd.w.w (n := 6 * nc + 2) (wix 6 nc 2) (by omega) ?_)
                refine o_aIe rb.w.w.w (n := 2) rfl (by decide) (by rw [ti_sI_ne (by omega), ti_sI_ne (by omega), ti_sI_ne (by omega)]; exact e2) (o_bI rd.w.w.w (n := 6 * nc + 3) (wix 6 nc 3) (by omega) ?_)
                refine o_aIe rb.w.w.w.w (n := 2) rfl (by decide) (by rw [ti_sI_ne (by omega), ti_sI_ne (by omega), ti_sI_ne (by omega), ti_sI_ne (by omega)]; exact e2) (o_aIe (v := sI S 127 0) rb.w.w.w.w (n := 0) rfl (by decide) (by rw [ti_sI_ne (by omega), ti_sI_ne (by omega), ti_sI_ne (by omega), ti_sI_ne (by omega)]; exact ob 127 0 (by omega)) (o_bI rd.w.w.w.w (n := 6 * nc + 4) (wix 6 nc 4) (by omega) ?_))
                refine o_aIe rb.w.w.w.w.w (n := 2) rfl (by decide) (by rw [ti_sI_ne (by omega), ti_sI_ne (by omega), ti_sI_ne (by omega), ti_sI_ne (by omega), ti_sI_ne (by omega)]; exact e2) (o_bI rd.w.w.w.w.w (n := 6 * nc + 5) (wix 6 nc 5) (by omega) ?_)
                refine o_aIe (v := Int32.ofNat nc) rb.w.w.w.w.w.w (n := 2) rfl (by decide) (by rw [ti_sI_ne (by omega), ti_sI_ne (by omega), ti_sI_ne (by omega), ti_sI_ne (by omega), ti_sI_ne (by omega), ti_sI_ne (by omega)]; exact e2) (o_bI rb.w.w.w.w.w.w (n := 2) rfl (by decide) ?_)
                rw [o1]
                obtain ⟨Sa, ea⟩ : ∃ Sa, Sa = wI (wI (wI (wI (wI (wI (wI Sb 135 (6 * nc) (Int32.ofNat s)) 135 (6 * nc + 1) (Int32.ofNat cl)) 135 (6 * nc + 2) (Int32.ofNat au)) 135 (6 * nc + 3) (Int32.ofNat sc)) 135 (6 * nc + 4) (sI S 127 0)) 135 (6 * nc + 5) 0) 127 2 (Int32.ofNat (nc + 1)) := ⟨_, rfl⟩
                rw [← ea]
                have la : LF S Sa := by
                  rw [ea]
                  exact LF_w (LF_w (LF_w (LF_w (LF_w (LF_w (LF_w lb (by decide)) (by decide)) (by decide)) (by decide)) (by decide)) (by decide)) (by decide)
                have oa : ∀ k j, ¬ (k = 127 ∧ j = 2) → ¬ (k = 133 ∧ j = 4 * s + 2) → ¬ (k = 135 ∧ 6 * nc ≤ j ∧ j < 6 * nc + 6) → sI Sa k j = sI S k j := fun k j y1 y2 y3 => by
                  rw [ea, ti_sI_ne y1, ti_sI_ne (by omega), ti_sI_ne (by omega), ti_sI_ne (by omega), ti_sI_ne (by omega), ti_sI_ne (by omega), ti_sI_ne (by omega)]
                  exact ob k j y2
                have w87 : sI Sa 133 (4 * s + 2) = sI S 127 0 := by
                  rw [ea, ti_sI_ne (by omega), ti_sI_ne (by omega), ti_sI_ne (by omega), ti_sI_ne (by omega), ti_sI_ne (by omega), ti_sI_ne (by omega), ti_sI_ne (by omega), eb, ti_sI_eq]
                have d0 : sI Sa 135 (6 * nc) = Int32.ofNat s := by rw [ea, ti_sI_ne (by omega), ti_sI_ne (by omega), ti_sI_ne (by omega), ti_sI_ne (by omega), ti_sI_ne (by omega), ti_sI_ne (by omega), ti_sI_eq]
                have d1 : sI Sa 135 (6 * nc + 1) = Int32.ofNat cl := by rw [ea, ti_sI_ne (by omega), ti_sI_ne (by omega), ti_sI_ne (by omega), ti_sI_ne (by omega), ti_sI_ne (by omega), ti_sI_eq]
                have d2 : sI Sa 135 (6 * nc + 2) = Int32.ofNat au := by rw [ea, ti_sI_ne (by omega), ti_sI_ne (by omega), ti_sI_ne (by omega), ti_sI_ne (by omega), ti_sI_eq]
                have d3 : sI Sa 135 (6 * nc + 3) = Int32.ofNat sc := by rw [ea, ti_sI_ne (by omega), ti_sI_ne (by omega), ti_sI_ne (by omega), ti_sI_eq]
                have d4 : sI Sa 135 (6 * nc + 4) = sI S 127 0 := by rw [ea, ti_sI_ne (by omega), ti_sI_ne (by omega), ti_sI_eq]
                have d5 : sI Sa 135 (6 * nc + 5) = 0 := by rw [ea, ti_sI_ne (by omega), ti_sI_eq]
                have c2 : sI Sa 127 2 = Int32.ofNat (nc + 1) := by rw [ea, ti_sI_eq]
                refine call Sa _ la (fun c v S1 S2 T1 bh gk0 az an => ?_)
                obtain ⟨-, -, -, -, kS, -⟩ := id bh
                have v82 : sI S2 57 82 = 0 := az.1
                have e87 : sI S2 87 s = sI S1 57 0 := az.2.1
                rcases az.2.2 with ⟨h, -⟩ | ⟨-, h, -⟩ | ⟨-, -, hv, om, m93, m94, m95, m96, m97, m98, m39⟩
                · exact absurd ((consG S1 gk0).trans hc) h
                · exact absurd ((lvG S1 gk0).mpr hl) h
                · have hv : v = Int32.ofNat nc := hv
                  have s2 : ∀ k j, 127 ≤ k → k < 141 → sI S2 k j = sI Sa k j := fun k j h1 h2 => by rw [kS k h1 h2]
                  have oW : ∀ k j, 127 ≤ k → k < 141 → ¬ (k = 127 ∧ j = 2) → ¬ (k = 133 ∧ j = 4 * s + 2) → ¬ (k = 135 ∧ 6 * nc ≤ j ∧ j < 6 * nc + 6) → sI S2 k j = sI S k j := fun k j h1 h2 h3 h4 h5 => (s2 k j h1 h2).trans (oa k j h3 h4 h5)
                  have oM : ∀ k j, 57 ≤ k → k < 126 → ¬ (k = 57 ∧ (100 ≤ j ∨ j = 82)) → ¬ (k = 57 ∧ j = 39) → ¬ (k = 87 ∧ j = s) → ¬ (93 ≤ k ∧ k ≤ 98 ∧ j = nc) → sI S2 k j = sI S k j := fun k j h1 h2 h3 h4 h5 h6 => (om k j (by omega) h5 h6).trans (gk0 k j h1 h2 h3)
                  have n0 : sI S1 57 0 = sI S 57 0 := gk0 57 0 (by omega) (by omega) (by omega)
                  refine ⟨(ANc_0 an (by decide) v82).trans hv, ns, nc + 1, nf, nt, nk, na, LWa_authorize lw (fun k j h1 h2 h3 => oW k j h1 h2 (by omega) (by omega) (by omega)) (fun k j h1 h2 h3 h4 => oM k j h1 h2 h3 (by omega) (by omega) (by omega)) (by omega) ⟨(s2 127 2 (by omega) (by omega)).trans c2, m39, by omega⟩ (fun j hj => ?_) (fun k hk => ?_) (fun k hk => ?_)⟩
                  · by_cases e : j = s
                    · rw [e, s2 133 _ (by omega) (by omega), w87, e87, n0, now.1]
                      exact ⟨rfl, now.2⟩
                    · rw [oW 133 _ (by omega) (by omega) (by omega) (by omega) (by omega), oM 87 j (by omega) (by omega) (by omega) (by omega) (by omega) (by omega)]
                      exact usd j hj
                  · by_cases e : k = nc
                    · rw [e, s2 135 _ (by omega) (by omega), s2 135 _ (by omega) (by omega), s2 135 _ (by omega) (by omega), s2 135 _ (by omega) (by omega), s2 135 _ (by omega) (by omega), d0, d1, d2, d3, d4]
                      refine ⟨⟨s, hlt, rfl, m93⟩, ⟨cl, c4, rfl, m94⟩, ⟨au, a4, rfl, m95⟩, ⟨sc, s16, rfl, m96⟩, ?_, ?_⟩
                      · exact now.1.trans (n0.symm.trans m97.symm)
                      · have m97 : sI S2 97 nc = sI S1 57 0 := m97
                        rw [m97, n0]
                        exact now.2
                    · rw [oW 135 _ (by omega) (by omega) (by omega) (by omega) (by omega), oW 135 _ (by omega) (by omega) (by omega) (by omega) (by omega), oW 135 _ (by omega) (by omega) (by omega) (by omega) (by omega), oW 135 _ (by omega) (by omega) (by omega) (by omega) (by omega), oW 135 _ (by omega) (by omega) (by omega) (by omega) (by omega), oM 93 k (by omega) (by omega) (by omega) (by omega) (by omega) (by omega), oM 94 k (by omega) (by omega) (by omega) (by omega) (by omega) (by omega), oM 95 k (by omega) (by omega) (by omega) (by omega) (by omega) (by omega), oM 96 k (by omega) (by omega) (by omega) (by omega) (by omega) (by omega), oM 97 k (by omega) (by omega) (by omega) (by omega) (by omega) (by omega)]
                      exact cod k (by omega)
                  · by_cases e : k = nc
                    · rw [e, s2 135 _ (by omega) (by omega), d5]
                      exact Or.inl ⟨rfl, m98⟩
                    · rw [oW 135 _ (by omega) (by omega) (by omega) (by omega) (by omega), oM 98 k (by omega) (by omega) (by omega) (by omega) (by omega) (by omega)]
                      exact cfa k (by omega)
              · refine r_ifF hl (low (-2) (by decide) (fun M v m2 gk az => ?_))
                rcases az.2.2 with ⟨h, -⟩ | ⟨-, -, h1, h2⟩ | ⟨-, h, -⟩
                · exact absurd ((consG M gk).trans hc) h
                · exact ⟨h1, h2⟩
                · exact absurd ((lvG M gk).mp h) hl
            · refine r_ifF (fun q => hc (hle.mp q)) (low (-3) (by decide) (fun M v m2 gk az => ?_))
              rcases az.2.2 with ⟨-, h1, h2⟩ | ⟨h, -⟩ | ⟨h, -⟩
              · exact ⟨h1, h2⟩
              · exact absurd ((consG M gk).symm.trans h) hc
              · exact absurd ((consG M gk).symm.trans h) hc
        · refine o_aIe (v := Int32.ofNat (o + 100)) r133 (n := 4 * s + 3) (wix 4 s 3) (by omega) (l2.trans (by rw [o2]; exact wadd o 100)) (r_ifT ((oleq (a := 100) (b := o + 100) (by omega) (by omega)).mpr (by omega)) ?_)
          unfold f_W_grants_B424 f_W_grants_B425
          refine r_ifT rfl ?_
          unfold f_W_grants_B442
          exact r_ifF one0 (r_ifF nsc (r_ifT rfl (no 0 _ 2 rfl (fun M q mf gk h => (paz M q mf gk h).2.2.1 hlt (by omega) ((gk 89 s (by omega) (by omega) (by omega)).trans l1)))))
    · refine r_ifT ((oleq (a := ns) (b := s) (by omega) (by omega)).mpr (by omega)) ?_
      unfold f_W_grants_B394
      refine r_ifT rfl ?_
      unfold f_W_grants_B424 f_W_grants_B425
      refine r_ifT rfl ?_
      unfold f_W_grants_B442
      exact r_ifT rfl (no 0 _ 0 rfl (fun M q mf gk h => (paz M q mf gk h).1 (by omega)))
  by_cases c : Int32.ofNat v = 0
  · exact r_ifT c (o_aIe r127 (n := 1) rfl (by decide) z1.1 (o_some (ns + 1) (o1 ns) (by omega) (by omega) (fun w hw => go w (by omega))))
  · refine r_ifF c (o_aIe r127 (n := 1) rfl (by decide) z1.1 ?_)
    by_cases c2 : ns = 0
    · exact r_ifT (by rw [c2]; decide) (go 0 (by omega))
    · exact r_ifF (fun q => c2 (by have := (oleq (a := ns) (b := 0) (by omega) (by omega)).mp q; omega)) (o_aIe r127 (n := 1) rfl (by decide) z1.1 (o_some ns rfl (by omega) (by omega) (fun w hw => go w (by omega))))
end
