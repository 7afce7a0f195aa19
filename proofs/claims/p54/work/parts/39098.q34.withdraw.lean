/-! ===== withdrawing ===== -/
theorem b2_bd {α β γ : Type} (x : Option γ) (F : γ → Option (α × AS)) (G : α → AS → Option β) : kr_b2 (x.bind F) G = x.bind fun v => kr_b2 (F v) G := by cases x <;> rfl
theorem b2_ite {α β : Type} (c : Prop) [Decidable c] (x y : Option (α × AS)) (G : α → AS → Option β) : kr_b2 (if c then x else y) G = if c then kr_b2 x G else kr_b2 y G := by
  split <;> rfl
theorem b2_some {α β : Type} (v : α) (S : AS) (G : α → AS → Option β) : kr_b2 (some (v, S)) G = G v S := rfl
/-- the law's loop by itself -/
def wdL : Nat → AS → Int32 → Int32 → Int32 → Int32 → Option (Int32 × AS)
  | 0, _, _, _, _, _ => none
  | n + 1, S, x11, x13, x14, x15 =>
  (aI S 40 (some 127) (3 : Int32)).bind fun v8 =>
  if v8 ≤ x15 then some (x14, S)
  else
  (aI S 40 (some 136) ((5 : Int32) * x15)).bind fun v11 =>
  (aI S 40 (some 136) (((5 : Int32) * x15) + (4 : Int32))).bind fun v12 =>
  if v12 = (1 : Int32) then
  (aI S 40 (some 135) ((6 : Int32) * v11)).bind fun v13 =>
  (aI S 40 (some 133) ((4 : Int32) * v13)).bind fun v14 =>
  if v14 = x13 then
  (aI S 40 (some 135) (((6 : Int32) * v11) + (1 : Int32))).bind fun v15 =>
  if v15 = x11 then
  (f_W_endFamily S (some 127) (some 136) (some 137) (some 139) x15).bind fun S16 =>
  (some (x14 + (1 : Int32))).bind fun i17 =>
  (some (x15 + (1 : Int32))).bind fun i7 => wdL n S16 x11 x13 i17 i7
  else
  (some (x15 + (1 : Int32))).bind fun i7 => wdL n S x11 x13 x14 i7
  else
  (some (x15 + (1 : Int32))).bind fun i7 => wdL n S x11 x13 x14 i7
  else
  (some (x15 + (1 : Int32))).bind fun i7 => wdL n S x11 x13 x14 i7
theorem wd_eq (x11 x13 : Int32) : ∀ (fu : Nat) (S : AS) (x14 x15 : Int32), f_W_grants_L124 fu S (some 4) (some 127) (some 133) (some 135) (some 136) (some 137) (some 139) x11 x13 x14 x15 = kr_b2 (wdL fu S x11 x13 x14 x15) fun v Sa => kr_b2 (f_W_twog Sa (some 4) (3 : Int32) x13 x11) fun v10 S9 => if v10 = v then some ((1 : Int32), S9) else some ((0 : Int32), S9)
  | 0, _, _, _ => rfl
  | fu + 1, S, x14, x15 => by
    have ih := wd_eq x11 x13 fu
    unfold f_W_grants_L124 f_W_grants_C124 wdL
    simp only [f_W_grants_B202, b2_bd, b2_ite, b2_some, ih]
section
variable {S0 m0 : AS} {ns nc nf nt nk : Nat}
theorem g_wd_L (hs : SW ns nc nf nt nk S0 m0) {cl p : Nat} (c4 : cl < 4) (p3 : p < 3) : ∀ (k i fu fu' : Nat) (cnt : Int32) (S m : AS), i + k = nf → k < fu → EW ns nf S0 m0 S m →
    HW (wdL fu S (Int32.ofNat cl) (Int32.ofNat p) cnt (Int32.ofNat i)) (f_M_withdraw_L44 fu' m (some 57) (Int32.ofNat p) (Int32.ofNat cl) cnt (Int32.ofNat i)) (fun a b => a.1 = b.1 ∧ EW ns nf S0 m0 a.2 b.2)
  | _, _, 0, _, _, _, _, _, h, _ => absurd h (Nat.not_lt_zero _)
  | _, _, _ + 1, 0, _, _, _, _, _, _ => wm_0
  | k, i, fu + 1, fu' + 1, cnt, S, m, hk, hfu, he => by
    have he' := he
    have hs' := hs
    obtain ⟨lr, hmf, ⟨z1, z3, z4⟩, ⟨nc10, nk10⟩, now, tok, fam, cod, sp, srv⟩ := hs
    obtain ⟨hl, fr, ⟨e1, e2, e3⟩, aud, god, tol, liv⟩ := he
    have hm := MF_e hmf e1
    obtain ⟨r127, -, -, -, -, -, r133, -, r135, r136, -⟩ := hl.LR lr
    have nf10 := z3.2.2
    unfold wdL f_M_withdraw_L44 f_M_withdraw_C44
    refine w_aIe r127 (n := 3) rfl (by decide) ((fr 127 3 (by omega) (by omega) (by omega) (by omega)).trans z3.1) ?_
    refine wm_of (st_gIe (v := Int32.ofNat nf) ((e3 57 46 (by omega) (by omega) (by omega) (by omega) (by omega) (by omega) (by omega)).trans z3.2.1)) ?_
    by_cases hi : i < nf
    · obtain ⟨k, rfl⟩ : ∃ k', k = k' + 1 := ⟨k - 1, by omega⟩
      have nl : ¬ Int32.ofNat nf ≤ Int32.ofNat i := fun q => by have := (oleq (a := nf) (b := i) (by omega) (by omega)).mp q; omega
      refine w_F nl (wm_of (st_F nl) ?_)
      obtain ⟨co, hco, f1, f2⟩ := fam i hi
      obtain ⟨⟨se, hse, d1, d2⟩, ⟨ce, hce, d3, d4⟩, -⟩ := cod co hco
      obtain ⟨⟨pe, hpe, s1, s2⟩, -⟩ := sp se hse
      have n14 := z1.2.2
      obtain ⟨g1, g2⟩ := god i hi
      refine w_aIe r136 (n := 5 * i) (wmul 5 i) (by omega) ((fr 136 _ (by omega) (by omega) (by omega) (by omega)).trans f1) (w_aIe r136 (n := 5 * i + 4) (wix 5 i 4) (by omega) g1 ?_)
      refine wm_of (st_gRe (hm 51 103 rfl)) (wm_of (st_aIe (oc (by omega)) rfl) ?_)
      have skip : HW ((some (Int32.ofNat i + (1 : Int32))).bind fun i7 => wdL fu S (Int32.ofNat cl) (Int32.ofNat p) cnt i7) (f_M_withdraw_B104 (f_M_withdraw_L44 fu') m (some 57) (Int32.ofNat p) (Int32.ofNat cl) cnt (Int32.ofNat i)) (fun a b => a.1 = b.1 ∧ EW ns nf S0 m0 a.2 b.2) := by
        unfold f_M_withdraw_B104 f_M_withdraw_B105
        refine wm_of (st_T rfl) ?_
        unfold f_M_withdraw_B118
        refine wm_of st_val (wm_of (st_T rfl) ?_)
        unfold f_M_withdraw_B131
        refine w_val (wm_of st_val ?_)
        rw [o1, Int32.add_zero]
        exact g_wd_L hs' c4 p3 k (i + 1) fu fu' cnt S m (by omega) (by omega) he'
      rcases g2 with g | g
      · refine w_F (by rw [g]; decide) (wm_of (st_T g) skip)
      · refine w_T g (wm_of (st_F (by rw [g]; decide)) ?_)
        have o135 : ∀ j, sI S 135 j = sI S0 135 j := fun j => fr 135 j (by omega) (by omega) (by omega) (by omega)
        refine w_aIe r135 (n := 6 * co) (wmul 6 co) (by omega) ((o135 _).trans d1) (w_aIe r133 (n := 4 * se) (wmul 4 se) (by omega) ((fr 133 _ (by omega) (by omega) (by omega) (by omega)).trans s1) ?_)
        have oM : ∀ q, q = 85 ∨ q = 93 ∨ q = 94 ∨ q = 99 → ∀ j, sI m q j = sI m0 q j := fun q hq j => e3 q j (by omega) (by omega) (by omega) (by omega) (by omega) (by omega) (by omega)
        refine wm_of (st_gRe (hm 31 85 rfl)) (wm_of (st_gRe (hm 40 93 rfl)) (wm_of (st_gRe (hm 47 99 rfl)) (wm_of (st_aIe (oc (by omega)) ((oM 99 (by omega) i).trans f2)) (wm_of (st_aIe (oc (by omega)) ((oM 93 (by omega) co).trans d2)) (wm_of (st_aIe (oc (by omega)) ((oM 85 (by omega) se).trans s2)) ?_)))))
        by_cases c1 : Int32.ofNat pe = Int32.ofNat p
        · refine w_T c1 (wm_of (st_T c1) ?_)
          refine w_aIe r135 (n := 6 * co + 1) (wix 6 co 1) (by omega) ((o135 _).trans d3) ?_
          refine wm_of (st_gRe (hm 41 94 rfl)) (wm_of (st_gRe (hm 47 99 rfl)) (wm_of (st_aIe (oc (by omega)) ((oM 99 (by omega) i).trans f2)) (wm_of (st_aIe (oc (by omega)) ((oM 94 (by omega) co).trans d4)) ?_)))
          by_cases c2 : Int32.ofNat ce = Int32.ofNat cl
          · refine w_T c2 (wm_of (st_T c2) ?_)
            unfold f_M_withdraw_B105
            refine wm_of (st_F one0) ?_
            unfold f_M_withdraw_B118
            refine wm_of st_val (wm_of (st_F one0) (wm_of st_rv ?_))
            refine w_dd (g_eF hs' he' hi) (fun S1 m1 _ q => ?_)
            unfold f_M_withdraw_B131
            refine w_val (w_val (wm_of st_val ?_))
            rw [o1]
            exact g_wd_L hs' c4 p3 k (i + 1) fu fu' _ S1 m1 (by omega) (by omega) q.1
          · exact w_F c2 (wm_of (st_F c2) skip)
        · exact w_F c1 (wm_of (st_F c1) skip)
    · have nl : Int32.ofNat nf ≤ Int32.ofNat i := (oleq (a := nf) (b := i) (by omega) (by omega)).mpr (by omega)
      exact w_T nl (wm_of (st_T nl) (w_ret ⟨rfl, he'⟩))
end
theorem p_withdraw {m : AS} {cl p : Nat} (hmf : MF m) (c4 : cl < 4) (p3 : p < 3) : Hp (f_M_withdraw m (some 57) (Int32.ofNat p) (Int32.ofNat cl)) (fun q => f_M_withdraw_L44 kr_FU (wI (wI m 57 82 0) 91 (4 * p + cl) 0) (some 57) (Int32.ofNat p) (Int32.ofNat cl) 0 0 = some q) := by
  unfold f_M_withdraw
  refine p_of (st_b2 (q_six m _)) ?_
  rw [if_pos (in5 p3)]
  refine p_of (st_F one0) (p_of (st_b2 (q_ser m _)) ?_)
  rw [if_pos (in3 c4)]
  refine p_of (st_F one0) ?_
  unfold f_M_withdraw_B20
  refine p_of st_rv (p_b2 p_may (fun v m' q => ?_))
  rw [if_neg one0] at q
  obtain ⟨q1, q2⟩ := Prod.mk.inj q
  rw [q1, q2]
  refine p_of (st_F one0) (p_of (st_gRe (v := some 91) (hmf 37 91 rfl)) (p_of (st_bIe (n := 4 * p + cl) ?_) (p_is (fun q h => h))))
  rw [show (4 : Int32) * Int32.ofNat p + Int32.ofNat cl = Int32.ofNat (4 * p + cl) from wix 4 p cl]
  exact oc (by omega)
section
variable {n r : Nat} {T : Nat → Nat} {S : AS}
theorem l_withdraw (L : L54 n r T S) (hn : n ≤ 500) {y : Int32} : Ho (f_W_grants S (some 4) (1 : Int32) y (some 127) (some 133) (some 134) (some 135) (some 136) (some 137) (some 139) (some 140)) (G54 n r) := by
  obtain ⟨iv, rp, tl, pts, -, ns, nc, nf, nt, nk, na, lw⟩ := id L
  have lr := TL_LR iv.1 tl
  have r140 := lr.2.2.2.2.2.2.2.2.2.2.2.2.2
  have con : lCon S S := lw.2.2.2.2.2.2.2.2.2.2
  have nf10 : nf ≤ 10 := lw.1.2.2.1.2.2
  unfold f_W_grants
  refine o_some 4 rfl (by decide) (by decide) (fun cl c4 => o_some 16 rfl (by decide) (by decide) (fun sc _ => r_ifF (by decide) (r_ifT rfl (o_some 3 rfl (by decide) (by decide) (fun p p3 => ?_)))))
  refine o_bI r140 (n := 4 * p + cl) (wix 4 p cl) (by omega) ?_
  obtain ⟨Sb, eb⟩ : ∃ Sb, Sb = wI S 140 (4 * p + cl) 0 := ⟨_, rfl⟩
  rw [← eb, wd_eq]
  have lb : LF S Sb := by rw [eb]; exact LF_w (LF_rf S) (by decide)
  have ob : ∀ k j, ¬ (k = 140 ∧ j = 4 * p + cl) → sI Sb k j = sI S k j := fun k j q => by rw [eb, ti_sI_ne q]
  -- the law's loop beside the reference's, from any state that agrees
  have run : ∀ M q, MF M → GK S M → f_M_withdraw M (some 57) (Int32.ofNat p) (Int32.ofNat cl) = some q → ∃ a, wdL kr_FU Sb (Int32.ofNat cl) (Int32.ofNat p) 0 0 = some a ∧ a.1 = q.1 ∧ EW ns nf Sb (wI (wI M 57 82 0) 91 (4 * p + cl) 0) a.2 q.2 ∧ LW ns nc nf nt nk na Sb (wI (wI M 57 82 0) 91 (4 * p + cl) 0) := fun M q mf gk h => by
    have h2 := p_withdraw mf c4 p3 _ h
    obtain ⟨m1, em⟩ : ∃ m1, m1 = wI (wI M 57 82 0) 91 (4 * p + cl) 0 := ⟨_, rfl⟩
    rw [← em] at h2 ⊢
    have gm : ∀ k j, 57 ≤ k → k < 126 → ¬ (k = 57 ∧ (100 ≤ j ∨ j = 82)) → ¬ (k = 91 ∧ j = 4 * p + cl) → sI m1 k j = sI S k j := fun k j h1 h2 h3 h4 => by
      rw [em, ti_sI_ne h4, ti_sI_ne (by omega)]
      exact gk k j h1 h2 h3
    have lwb : LW ns nc nf nt nk na Sb m1 := LWa_consent lw (fun k j h1 h2 h3 => ob k j (by omega)) (fun k j h1 h2 h3 h4 => gm k j h1 h2 h3 (by omega)) (lCon_set con (4 * p + cl) (4 * p + cl) (fun j hj => ob 140 j (by omega)) (fun j hj => gm 91 j (by omega) (by omega) (by omega) (by omega)) (fun j => gm 92 j (by omega) (by omega) (by omega) (by omega)) (Or.inl ⟨p, cl, p3, c4, rfl, rfl⟩) ⟨0, by decide, by rw [eb, ti_sI_eq]; rfl, by rw [em, ti_sI_eq]; rfl⟩)
    obtain ⟨a, ea, a1, ew⟩ := g_wd_L (LW_SW lwb (lb.LR lr) (MF_e mf (by rw [em]; rfl))) c4 p3 nf 0 kr_FU kr_FU 0 Sb m1 (by omega) (show nf < 2000 by omega) (LW_EW lwb) _ h2
    exact ⟨a, ea, a1, ew, lwb⟩
  obtain ⟨q0, e0, -⟩ := mm_withdraw (a1 := Int32.ofNat p) (a2 := Int32.ofNat cl) iv.1 (x57 iv) iv.2.1 (by have := iv.2.2.1; omega)
  obtain ⟨⟨x, Sa⟩, ea, -, ew0, -⟩ := run S q0 (MF_of iv.1) (GK_rf S) e0
  have la : LF S Sa := LF_tr lb ew0.1
  refine o_b2 ea ?_
  obtain ⟨c, v, S1, S2, T1, e1, e2, g, an⟩ := tg_withdraw (a0 := Int32.ofNat p) (a1 := Int32.ofNat cl) (LF_IV iv tl la) (by omega) (LF_RPF iv.1 tl rp la)
  have bh := PK_BH L la g (by decide +kernel) (by decide +kernel) (by decide +kernel)
  obtain ⟨-, -, -, -, kS, kS1, kG, mf⟩ := id bh
  have gk0 : GK S S1 := GK_tr (LF_GK la) kG
  obtain ⟨a', ea', a1, ew, lwb⟩ := run S1 _ mf gk0 e2
  rw [ea] at ea'
  cases ea'
  have a1 : x = v := a1
  have ew : EW ns nf Sb (wI (wI S1 57 82 0) 91 (4 * p + cl) 0) Sa S2 := ew
  have om := ew.2.2.1.2.2
  have lw2 := LW_ends lwb ew
  have g0 : ∀ k j, k = 73 ∨ (k = 57 ∧ j = 0) → sI S2 k j = sI S k j := fun k j h => by
    rw [om k j (by omega) (by omega) (by omega) (by omega) (by omega) (by omega) (by omega), ti_sI_ne (by omega), ti_sI_ne (by omega)]
    exact gk0 k j (by omega) (by omega) (by omega)
  have v82 : sI S2 57 82 = 0 := by rw [om 57 82 (by omega) (by omega) (by omega) (by omega) (by omega) (by omega) (by omega), ti_sI_ne (by omega), ti_sI_eq]
  exact o_b2 e1 (o_fin (by rw [ANc_0 an (by decide) v82, a1]) (BH_L bh (lPN_e pts (fun j => g0 73 j (Or.inl rfl)) (g0 57 0 (Or.inr ⟨rfl, rfl⟩))) ⟨ns, nc, nf, nt, nk, na, LW_cong2 lw2 kS (GK_rf _)⟩))
end
