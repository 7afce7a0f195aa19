/-! ===== minutes go by ===== -/
theorem cmp30 {u n : Int32} (hu : mi u) (hn : mi n) : (u + (30 : Int32) < n) ↔ ((30 : Int32) < n - u) := by
  obtain ⟨a1, a2⟩ := hu
  obtain ⟨b1, b2⟩ := hn
  rw [Int32.lt_iff_toInt_lt, Int32.lt_iff_toInt_lt, Int32.toInt_add, Int32.toInt_sub, show (30 : Int32).toInt = 30 from by decide, bm (by omega) (by omega), bm (by omega) (by omega)]
  omega
theorem cmp480 {u n : Int32} (hu : mi u) (hn : mi n) : (n ≤ u + (480 : Int32)) ↔ (n - u ≤ (480 : Int32)) := by
  obtain ⟨a1, a2⟩ := hu
  obtain ⟨b1, b2⟩ := hn
  rw [Int32.le_iff_toInt_le, Int32.le_iff_toInt_le, Int32.toInt_add, Int32.toInt_sub, show (480 : Int32).toInt = 480 from by decide, bm (by omega) (by omega), bm (by omega) (by omega)]
  omega
theorem add1 {n : Int32} (h : mi n) : (n + 1).toInt = n.toInt + 1 := by
  obtain ⟨a1, a2⟩ := h
  rw [Int32.toInt_add, show (1 : Int32).toInt = 1 from by decide, bm (by omega) (by omega)]
theorem qsub1 (w : Nat) : Int32.ofNat (w + 1) - 1 = Int32.ofNat w := by
  rw [← o1]
  simp
section
variable {S0 m0 S m : AS} {ns nc nf nt nk : Nat}
def QW (ns nc nf nt nk : Nat) (S m : AS) : Prop := SW ns nc nf nt nk S m ∧ lAud S m ∧ lGod nf S m ∧ lTol nf S m ∧ lLiv ns S m ∧ lUsd ns S m ∧ lKey nk S m ∧ lOut S m
/-- what minutes leave -/
def PX54 (S m S' m' : AS) : Prop := LF S S' ∧ (∀ p j, ¬ (p = 127 ∧ (j = 0 ∨ j = 6 ∨ j = 7 ∨ j = 9 ∨ j = 10)) → ¬ (p = 136 ∧ j % 5 = 4) → ¬ (p = 139 ∧ j % 4 = 3) → ¬ (p = 133 ∧ j % 4 = 3) → p ≠ 138 → sI S' p j = sI S p j) ∧
  (sR m' = sR m ∧ sL m' = sL m ∧ ∀ p j, p ≠ 89 → p ≠ 103 → p ≠ 112 → p ≠ 116 → p ≠ 123 → p ≠ 124 → p ≠ 125 → ¬ (p = 57 ∧ (j = 0 ∨ j = 61 ∨ j = 62 ∨ j = 77 ∨ j = 81)) → sI m' p j = sI m p j)
theorem PX54_rf (S m : AS) : PX54 S m S m := ⟨LF_rf S, fun _ _ _ _ _ _ _ => rfl, rfl, rfl, fun _ _ _ _ _ _ _ _ _ _ => rfl⟩
theorem PX54_tr {S m S1 m1 S2 m2 : AS} (h : PX54 S m S1 m1) (g : PX54 S1 m1 S2 m2) : PX54 S m S2 m2 :=
  ⟨LF_tr h.1 g.1, fun p j a b c d e => (g.2.1 p j a b c d e).trans (h.2.1 p j a b c d e), g.2.2.1.trans h.2.2.1, g.2.2.2.1.trans h.2.2.2.1, fun p j a b c d e f x y => (g.2.2.2.2 p j a b c d e f x y).trans (h.2.2.2.2 p j a b c d e f x y)⟩
theorem PX54_EW (h : EW ns nf S m S0 m0) : PX54 S m S0 m0 :=
  ⟨h.1, fun p j a b c d _ => h.2.1 p j (by omega) b c d, h.2.2.1.1, h.2.2.1.2.1, fun p j a b _ c d e f x => h.2.2.1.2.2 p j a b c d e f (by omega)⟩
/-- the sessions of one minute -/
theorem g_pI_L (hs : SW ns nc nf nt nk S0 m0) (hu : lUsd ns S0 m0) {k6 : AS → Option Nat → Option Nat → Option Nat → Option Nat → Option Nat → Option Nat → Option Nat → Int32 → Int32 → Int32 → Option (Int32 × AS)} {k45 : AS → Option Nat → Int32 → Int32 → Int32 → Option (Int32 × AS)} {Q : Int32 × AS → Int32 × AS → Prop} {mm x : Int32}
    (K : ∀ c S m, EW ns nf S0 m0 S m → HW (k6 S (some 127) (some 133) (some 135) (some 136) (some 137) (some 138) (some 139) mm c (x + 1)) (k45 m (some 57) mm c (x + 1)) Q) : ∀ (k j fu fu' : Nat) (c : Int32) (S m : AS), j + k = ns → k < fu → EW ns nf S0 m0 S m →
    HW (f_W_passes_L81 k6 fu S (some 127) (some 133) (some 135) (some 136) (some 137) (some 138) (some 139) mm c x (Int32.ofNat j)) (f_M_pass_L121 k45 fu' m (some 57) mm c x (Int32.ofNat j)) Q
  | _, _, 0, _, _, _, _, _, h, _ => absurd h (Nat.not_lt_zero _)
  | _, _, _ + 1, 0, _, _, _, _, _, _ => wm_0
  | k, j, fu + 1, fu' + 1, c, S, m, hk, hfu, he => by
    have hs' := hs
    have he' := he
    obtain ⟨lr, hmf, ⟨⟨c1, m30, ns14⟩, -⟩, -, now, -, -, -, sp, -⟩ := hs
    obtain ⟨hl, fr, ⟨e1, e2, e3⟩, au, god, tol, liv⟩ := he
    obtain ⟨r127, -, -, -, -, -, r133, -⟩ := hl.LR lr
    have hm := MF_e hmf e1
    unfold f_W_passes_L81 f_W_passes_C81 f_M_pass_L121 f_M_pass_C121
    refine w_aIe r127 (n := 1) rfl (by decide) ((fr 127 1 (by omega) (by omega) (by omega) (by omega)).trans c1) (wm_of (st_gIe (v := Int32.ofNat ns) ((e3 57 30 (by omega) (by omega) (by omega) (by omega) (by omega) (by omega) (by omega)).trans m30)) ?_)
    by_cases hj : j < ns
    · have nl : ¬ Int32.ofNat ns ≤ Int32.ofNat j := fun q => by have := (oleq (a := ns) (b := j) (by omega) (by omega)).mp q; omega
      refine w_F nl (wm_of (st_F nl) ?_)
      obtain ⟨-, ⟨b1, b2⟩, o, o2, o3⟩ := sp j hj
      obtain ⟨u1, u2⟩ := hu j hj
      have o3 : sI m 88 j + 1 = Int32.ofNat o := by rw [e3 88 j (by omega) (by omega) (by omega) (by omega) (by omega) (by omega) (by omega)]; exact o3
      have nxt : ∀ (v : Int32) (S m : AS), EW ns nf S0 m0 S m → HW (f_W_passes_B156 k6 (f_W_passes_L81 k6 fu) S (some 127) (some 133) (some 135) (some 136) (some 137) (some 138) (some 139) mm x (Int32.ofNat j) c v) (f_M_pass_B198 k45 (f_M_pass_L121 k45 fu') m (some 57) mm x (Int32.ofNat j) c v) Q := fun v S m h => by
        unfold f_W_passes_B156 f_M_pass_B198
        refine w_val (w_val (wm_of st_val (wm_of st_val ?_)))
        rw [o1]
        exact g_pI_L hs' hu K (k - 1) (j + 1) fu fu' (c + v) S m (by omega) (by omega) h
      have skip : HW (f_W_passes_B155 k6 (f_W_passes_L81 k6 fu) S (some 127) (some 133) (some 135) (some 136) (some 137) (some 138) (some 139) mm x (Int32.ofNat j) c) (f_M_pass_B179 k45 (f_M_pass_L121 k45 fu') m (some 57) mm c x (Int32.ofNat j)) Q := by
        unfold f_W_passes_B155 f_M_pass_B179 f_M_pass_B180
        exact wm_of (st_T rfl) (nxt 0 S m he')
      rcases liv j hj with ⟨q1, q2⟩ | ⟨q1, q2⟩
      · have ends : HW (f_W_passes_B139 k6 (f_W_passes_L81 k6 fu) S (some 127) (some 133) (some 135) (some 136) (some 137) (some 138) (some 139) mm x (Int32.ofNat j) c) (f_M_pass_B175 k45 (f_M_pass_L121 k45 fu') m (some 57) mm c x (Int32.ofNat j)) Q := by
          unfold f_W_passes_B139 f_M_pass_B175 f_M_pass_B180
          refine wm_of (st_F one0) (wm_of st_rv (w_22 (g_eS hs' he' hj q1) (fun v S3 v5 m4 _ p => ?_)))
          obtain ⟨p1, p2⟩ := p
          have p1 : v = v5 := p1
          rw [p1]
          exact nxt v5 S3 m4 p2
        refine w_aIe r133 (n := 4 * j + 3) (wix 4 j 3) (by omega) (q2.trans o3) ?_
        refine w_F (fun q => by have := (oleq (a := 100) (b := o) (by omega) (by omega)).mp q; omega) ?_
        have n0 : sI S 127 0 = sI m0 57 0 := (fr 127 0 (by omega) (by omega) (by omega) (by omega)).trans now.1
        refine w_aIe r127 (n := 0) rfl (by decide) n0 ?_
        refine w_aIe r133 (n := 4 * j + 2) (wix 4 j 2) (by omega) ((fr 133 _ (by omega) (by omega) (by omega) (by omega)).trans u1) ?_
        refine wm_of (st_gRe (hm 35 89 rfl)) (wm_of (st_aIe (oc (by omega)) q1) (wm_of (st_F one0) ?_))
        refine wm_of (st_gIe (v := sI m0 57 0) (e3 57 0 (by omega) (by omega) (by omega) (by omega) (by omega) (by omega) (by omega))) (wm_of (st_gRe (hm 33 87 rfl)) (wm_of (st_aIe (oc (by omega)) (e3 87 j (by omega) (by omega) (by omega) (by omega) (by omega) (by omega) (by omega))) ?_))
        by_cases d : sI m0 87 j + (30 : Int32) < sI m0 57 0
        · exact w_T d (wm_of (st_T ((cmp30 u2 now.2).mp d)) ends)
        · refine w_F d (wm_of (st_F (fun q => d ((cmp30 u2 now.2).mpr q))) ?_)
          refine w_aIe r127 (n := 0) rfl (by decide) n0 ?_
          refine w_aIe r133 (n := 4 * j + 1) (wix 4 j 1) (by omega) ((fr 133 _ (by omega) (by omega) (by omega) (by omega)).trans b1) ?_
          refine wm_of (st_gIe (v := sI m0 57 0) (e3 57 0 (by omega) (by omega) (by omega) (by omega) (by omega) (by omega) (by omega))) (wm_of (st_gRe (hm 32 86 rfl)) (wm_of (st_aIe (oc (by omega)) (e3 86 j (by omega) (by omega) (by omega) (by omega) (by omega) (by omega) (by omega))) ?_))
          by_cases g : sI m0 57 0 ≤ sI m0 86 j + (480 : Int32)
          · exact w_T g (wm_of (st_T ((cmp480 b2 now.2).mp g)) skip)
          · exact w_F g (wm_of (st_F (fun q => g ((cmp480 b2 now.2).mpr q))) ends)
      · refine w_aIe (v := Int32.ofNat (o + 100)) r133 (n := 4 * j + 3) (wix 4 j 3) (by omega) (q2.trans (by rw [o3]; exact wadd o 100)) ?_
        refine w_T ((oleq (a := 100) (b := o + 100) (by omega) (by omega)).mpr (by omega)) ?_
        exact wm_of (st_gRe (hm 35 89 rfl)) (wm_of (st_aIe (oc (by omega)) q1) (wm_of (st_T rfl) skip))
    · have nl : Int32.ofNat ns ≤ Int32.ofNat j := (oleq (a := ns) (b := j) (by omega) (by omega)).mpr (by omega)
      exact w_T nl (wm_of (st_T nl) (w_val (wm_of st_val (K c S m he'))))
theorem g_pass_L54 {mm : Nat} (hmm : mm ≤ 600) : ∀ (k i fu fu' : Nat) (c : Int32) (S m : AS), i + k = mm → k < fu → QW ns nc nf nt nk S m → (sI m 57 0).toInt + k ≤ 30000 →
    HW (f_W_passes_L6 fu S (some 127) (some 133) (some 135) (some 136) (some 137) (some 138) (some 139) (Int32.ofNat mm) c (Int32.ofNat i)) (f_M_pass_L45 fu' m (some 57) (Int32.ofNat mm) c (Int32.ofNat i)) (fun a b => a.1 = b.1 ∧ QW ns nc nf nt nk a.2 b.2 ∧ PX54 S m a.2 b.2 ∧ (sI b.2 57 0).toInt = (sI m 57 0).toInt + (k : Int))
  | _, _, 0, _, _, _, _, _, h, _, _ => absurd h (Nat.not_lt_zero _)
  | _, _, _ + 1, 0, _, _, _, _, _, _, _ => wm_0
  | 0, i, fu + 1, fu' + 1, c, S, m, hk, hfu, hp, hc => by
    unfold f_W_passes_L6 f_W_passes_C6 f_M_pass_L45 f_M_pass_C45
    have nl : Int32.ofNat mm ≤ Int32.ofNat i := (oleq (a := mm) (b := i) (by omega) (by omega)).mpr (by omega)
    exact w_T nl (wm_of (st_T nl) (w_ret ⟨rfl, hp, PX54_rf S m, by show (sI m 57 0).toInt = (sI m 57 0).toInt + ((0 : Nat) : Int); omega⟩))
  | k + 1, i, fu + 1, fu' + 1, c, S, m, hk, hfu, hp, hc => by
    have hp' := hp
    obtain ⟨hs, au, god, tol, liv, usd, key, out⟩ := hp
    have hs' := hs
    obtain ⟨lr, hmf, ⟨z1, z2, z3⟩, ⟨nc10, nk10⟩, now, tok, fam, cod, sp, srv⟩ := hs
    have lr' := lr
    obtain ⟨r127, -, -, -, -, -, r133, -, -, -, -, r138, -⟩ := lr
    unfold f_W_passes_L6 f_W_passes_C6 f_M_pass_L45 f_M_pass_C45
    have nl : ¬ Int32.ofNat mm ≤ Int32.ofNat i := fun q => by have := (oleq (a := mm) (b := i) (by omega) (by omega)).mp q; omega
    refine w_F nl (wm_of (st_F nl) ?_)
    refine w_aIe r127 (n := 0) rfl (by decide) now.1 (w_bI r127 (n := 0) rfl (by decide) ?_)
    refine wm_of st_gI (wm_of st_pI ?_)
    have c1 : (sI m 57 0 + 1).toInt = (sI m 57 0).toInt + 1 := add1 now.2
    have mi1 : mi (sI m 57 0 + 1) := ⟨by rw [c1]; have := now.2.1; omega, by rw [c1]; omega⟩
    obtain ⟨S1, eS1⟩ : ∃ S1, S1 = wI S 127 0 (sI m 57 0 + 1) := ⟨_, rfl⟩
    obtain ⟨m1, em1⟩ : ∃ m1, m1 = wI m 57 0 (sI m 57 0 + 1) := ⟨_, rfl⟩
    rw [← eS1, ← em1]
    have oS1 : ∀ p j, ¬ (p = 127 ∧ j = 0) → sI S1 p j = sI S p j := fun p j q => by rw [eS1]; exact ti_sI_ne q
    have om1 : ∀ p j, ¬ (p = 57 ∧ j = 0) → sI m1 p j = sI m p j := fun p j q => by rw [em1]; exact ti_sI_ne q
    have s0 : sI S1 127 0 = sI m 57 0 + 1 := by rw [eS1, ti_sI_eq]
    have m10 : sI m1 57 0 = sI m 57 0 + 1 := by rw [em1, ti_sI_eq]
    have l1 : LF S S1 := by rw [eS1]; exact LF_w (LF_rf S) (by decide)
    have rm1 : sR m1 = sR m := by rw [em1]; rfl
    have lm1 : sL m1 = sL m := by rw [em1]; rfl
    have hm1 := MF_e hmf rm1
    have r1 := l1.Rw r127
    -- with all that the minute wants, the sessions, then the next minute
    have go : ∀ S2 m2 : AS, LF S S2 → sR m2 = sR m → sL m2 = sL m → (∀ p j, ¬ (p = 127 ∧ (j = 0 ∨ j = 6 ∨ j = 7 ∨ j = 9 ∨ j = 10)) → p ≠ 138 → sI S2 p j = sI S p j) → (∀ p j, p ≠ 112 → p ≠ 123 → p ≠ 124 → p ≠ 125 → ¬ (p = 57 ∧ (j = 0 ∨ j = 61 ∨ j = 62 ∨ j = 77 ∨ j = 81)) → sI m2 p j = sI m p j) →
        sI S2 127 0 = sI m 57 0 + 1 → sI m2 57 0 = sI m 57 0 + 1 → lAud S2 m2 → lKey nk S2 m2 → lOut S2 m2 →
        HW (f_W_passes_B78 (f_W_passes_L6 fu) S2 (some 127) (some 133) (some 135) (some 136) (some 137) (some 138) (some 139) (Int32.ofNat mm) c (Int32.ofNat i)) (f_M_pass_B118 (f_M_pass_L45 fu') m2 (some 57) (Int32.ofNat mm) c (Int32.ofNat i)) (fun a b => a.1 = b.1 ∧ QW ns nc nf nt nk a.2 b.2 ∧ PX54 S m a.2 b.2 ∧ (sI b.2 57 0).toInt = (sI m 57 0).toInt + ((k + 1 : Nat) : Int)) := fun S2 m2 l2 rm lm oS om s20 m20 au2 key2 out2 => by
      have oe : ∀ p, p ≠ 127 → p ≠ 138 → sI S2 p = sI S p := fun p q1 q2 => funext fun j => oS p j (fun z => q1 z.1) q2
      have oem : ∀ p, p ≠ 112 → p ≠ 123 → p ≠ 124 → p ≠ 125 → p ≠ 57 → sI m2 p = sI m p := fun p q1 q2 q3 q4 q5 => funext fun j => om p j q1 q2 q3 q4 (fun z => q5 z.1)
      have e1 : ∀ p, (84 < p ∧ p < 112) ∨ p = 113 ∨ p = 114 ∨ p = 115 ∨ p = 116 → sI m2 p = sI m p := fun p q => oem p (by omega) (by omega) (by omega) (by omega) (by omega)
      have sw2 : SW ns nc nf nt nk S2 m2 := ⟨l2.LR lr', MF_e hmf rm, ⟨lSz_fr z1 (oS 127 1 (by omega) (by omega)) (om 57 30 (by omega) (by omega) (by omega) (by omega) (by omega)), lSz_fr z2 (oS 127 3 (by omega) (by omega)) (om 57 46 (by omega) (by omega) (by omega) (by omega) (by omega)), lSz_fr z3 (oS 127 4 (by omega) (by omega)) (om 57 52 (by omega) (by omega) (by omega) (by omega) (by omega))⟩, ⟨nc10, nk10⟩, ⟨s20.trans m20.symm, by rw [m20]; exact mi1⟩,
        lTok_fr tok (oe 137 (by omega) (by omega)) (e1 104 (by omega)) (e1 105 (by omega)) (e1 106 (by omega)) (e1 107 (by omega)) (e1 108 (by omega)) (e1 109 (by omega)) (e1 110 (by omega)),
        lFam_fr fam (fun i _ => by rw [oe 136 (by omega) (by omega)]) (e1 99 (by omega)),
        lCod_fr cod (fun j _ => by rw [oe 135 (by omega) (by omega)]) (e1 93 (by omega)) (e1 94 (by omega)) (e1 95 (by omega)) (e1 96 (by omega)) (e1 97 (by omega)),
        lSp_fr sp (fun j _ => by rw [oe 133 (by omega) (by omega)]) (e1 85 (by omega)) (e1 86 (by omega)) (e1 88 (by omega)),
        lSrv_fr srv (fun j _ => by rw [oe 139 (by omega) (by omega)]) (e1 113 (by omega)) (e1 114 (by omega)) (e1 115 (by omega))⟩
      have us2 : lUsd ns S2 m2 := lUsd_fr usd (fun j _ => by rw [oe 133 (by omega) (by omega)]) (e1 87 (by omega))
      have ew2 : EW ns nf S2 m2 S2 m2 := EW_rf au2 (lGod_fr god (fun j _ => by rw [oe 136 (by omega) (by omega)]) (e1 103 (by omega))) (lTol_fr tol (fun j _ => by rw [oe 139 (by omega) (by omega)]) (e1 103 (by omega)) (e1 116 (by omega))) (lLiv_fr liv (fun j _ => by rw [oe 133 (by omega) (by omega)]) (e1 88 (by omega)) (e1 89 (by omega)))
      have px2 : PX54 S m S2 m2 := ⟨l2, fun p j q _ _ _ z => oS p j q z, rm, lm, fun p j _ _ q1 _ q2 q3 q4 q5 => om p j q1 q2 q3 q4 q5⟩
      unfold f_W_passes_B78 f_M_pass_B118
      have := z1.2.2
      refine g_pI_L sw2 us2 (fun c S3 m3 he => ?_) ns 0 kr_FU kr_FU c S2 m2 (by omega) (show ns < 2000 by omega) ew2
      rw [o1]
      have he' := he
      obtain ⟨hl, fr, ⟨g1, g2, g3⟩, au3, god3, tol3, liv3⟩ := he
      refine w_mono (g_pass_L54 hmm k (i + 1) fu fu' c S3 m3 (by omega) (by omega) ⟨EW_SW sw2 he', au3, god3, tol3, liv3, lUsd_fr us2 (fun j q => fr 133 j (by omega) (by omega) (by omega) (by omega)) (funext fun j => g3 87 j (by omega) (by omega) (by omega) (by omega) (by omega) (by omega) (by omega)), ?_, ?_⟩ ?_) (fun a b p => ⟨p.1, p.2.1, PX54_tr px2 (PX54_tr (PX54_EW he') p.2.2.1), by rw [p.2.2.2, g3 57 0 (by omega) (by omega) (by omega) (by omega) (by omega) (by omega) (by omega), m20, c1]; omega⟩)
      · exact lKey_fr key2 (fr 127 6 (by omega) (by omega) (by omega) (by omega)) (fr 127 7 (by omega) (by omega) (by omega) (by omega)) (fr 127 8 (by omega) (by omega) (by omega) (by omega)) (g3 57 61 (by omega) (by omega) (by omega) (by omega) (by omega) (by omega) (by omega)) (g3 57 62 (by omega) (by omega) (by omega) (by omega) (by omega) (by omega) (by omega)) (g3 57 63 (by omega) (by omega) (by omega) (by omega) (by omega) (by omega) (by omega)) (g3 57 0 (by omega) (by omega) (by omega) (by omega) (by omega) (by omega) (by omega))
      · exact lOut_fr out2 (funext fun j => fr 138 j (by omega) (by omega) (by omega) (by omega)) (funext fun j => g3 111 j (by omega) (by omega) (by omega) (by omega) (by omega) (by omega) (by omega)) (funext fun j => g3 112 j (by omega) (by omega) (by omega) (by omega) (by omega) (by omega) (by omega))
      · rw [g3 57 0 (by omega) (by omega) (by omega) (by omega) (by omega) (by omega) (by omega), m20, c1]
        omega
    obtain ⟨⟨sg, sg1, sg2, sg3⟩, wt⟩ := key
    rcases wt with ⟨w1, w2⟩ | ⟨w, wk, w1, w2, w3, w4, w5⟩
    · refine w_aIe r1 (n := 7) rfl (by decide) ((oS1 127 7 (by omega)).trans w1) (w_T (by decide) ?_)
      refine wm_of (st_gIe ((om1 57 62 (by omega)).trans w2)) (wm_of (st_T rfl) ?_)
      exact go S1 m1 l1 rm1 lm1 (fun p j q _ => oS1 p j (by omega)) (fun p j _ _ _ _ q => om1 p j (by omega)) s0 m10 (lAud_fr au (oS1 _ _ (by omega)) (oS1 _ _ (by omega)) (om1 _ _ (by omega)) (om1 _ _ (by omega))) ⟨⟨sg, sg1, (oS1 127 6 (by omega)).trans sg2, (om1 57 61 (by omega)).trans sg3⟩, Or.inl ⟨(oS1 127 7 (by omega)).trans w1, (om1 57 62 (by omega)).trans w2⟩⟩ (lOut_fr out (funext fun j => oS1 138 j (by omega)) (funext fun j => om1 111 j (by omega)) (funext fun j => om1 112 j (by omega)))
    · have wne : ¬ Int32.ofNat w = (-1 : Int32) := fun q => by
        have := congrArg Int32.toInt q
        rw [oiq (by omega), show (-1 : Int32).toInt = -1 from by decide] at this
        omega
      refine w_aIe r1 (n := 7) rfl (by decide) ((oS1 127 7 (by omega)).trans w1) (w_F (fun q => by have := (oleq (a := w + 1) (b := 0) (by omega) (by omega)).mp q; omega) ?_)
      refine w_aIe r1 (n := 8) rfl (by decide) ((oS1 127 8 (by omega)).trans w3) (w_aIe r1 (n := 0) rfl (by decide) s0 ?_)
      refine wm_of (st_gIe ((om1 57 62 (by omega)).trans w2)) (wm_of (st_F wne) (wm_of (st_gIe m10) (wm_of (st_gIe (om1 57 63 (by omega))) ?_)))
      by_cases d : sI m 57 63 = sI m 57 0 + 1
      · have nlt : ¬ sI m 57 0 + 1 < sI m 57 63 := by rw [d]; exact Int32.lt_irrefl
        refine w_T d (wm_of (st_F nlt) ?_)
        -- the key turns
        refine w_aIe r1 (n := 6) rfl (by decide) ((oS1 127 6 (by omega)).trans sg2) (w_aIe r1 (n := 0) rfl (by decide) s0 ?_)
        refine w_bI (l1.Rw r138) (n := 2 * sg + 1) (wix 2 sg 1) (by omega) ?_
        refine w_aIe r1.w (n := 7) rfl (by decide) ((ti_sI_ne (by omega)).trans ((oS1 127 7 (by omega)).trans w1)) (w_bI r1.w (n := 6) rfl (by decide) (w_bI r1.w.w (n := 7) rfl (by decide) ?_))
        rw [qsub1]
        refine wm_of (st_gRe (hm1 65 112 rfl)) (wm_of (st_gIe ((om1 57 61 (by omega)).trans sg3)) (wm_of (st_gIe m10) (wm_of (st_bIe (oc (by omega))) ?_)))
        refine wm_of (st_gIe (v := Int32.ofNat w) ((ti_sI_ne (by omega)).trans ((om1 57 62 (by omega)).trans w2))) (wm_of st_pI (wm_of st_pI (wm_of (st_gIe (v := Int32.ofNat w) ((ti_sI_ne (by omega)).trans (ti_sI_eq _ _ _ _))) (wm_of st_rv ?_))))
        obtain ⟨S2, eS2⟩ : ∃ S2, S2 = wI (wI (wI S1 138 (2 * sg + 1) (sI m 57 0 + 1 + 20)) 127 6 (Int32.ofNat w)) 127 7 0 := ⟨_, rfl⟩
        obtain ⟨m2, em2⟩ : ∃ m2, m2 = wI (wI (wI m1 112 sg (sI m 57 0 + 1 + 20)) 57 61 (Int32.ofNat w)) 57 62 (-1) := ⟨_, rfl⟩
        rw [← eS2, ← em2]
        have oS2 : ∀ p j, ¬ (p = 127 ∧ (j = 0 ∨ j = 6 ∨ j = 7)) → ¬ (p = 138 ∧ j = 2 * sg + 1) → sI S2 p j = sI S p j := fun p j q1 q2 => by
          rw [eS2, ti_sI_ne (by omega), ti_sI_ne (by omega), ti_sI_ne q2, oS1 p j (by omega)]
        have om2 : ∀ p j, ¬ (p = 57 ∧ (j = 0 ∨ j = 61 ∨ j = 62)) → ¬ (p = 112 ∧ j = sg) → sI m2 p j = sI m p j := fun p j q1 q2 => by
          rw [em2, ti_sI_ne (by omega), ti_sI_ne (by omega), ti_sI_ne q2, om1 p j (by omega)]
        have l2 : LF S S2 := by rw [eS2]; exact LF_w (LF_w (LF_w l1 (by decide)) (by decide)) (by decide)
        have rm2 : sR m2 = sR m := by rw [em2]; exact rm1
        have lm2 : sL m2 = sL m := by rw [em2]; exact lm1
        have s26 : sI S2 127 6 = Int32.ofNat w := by rw [eS2, ti_sI_ne (by omega), ti_sI_eq]
        have s27 : sI S2 127 7 = 0 := by rw [eS2, ti_sI_eq]
        have s20 : sI S2 127 0 = sI m 57 0 + 1 := by rw [eS2, ti_sI_ne (by omega), ti_sI_ne (by omega), ti_sI_ne (by omega), s0]
        have m20 : sI m2 57 0 = sI m 57 0 + 1 := by rw [em2, ti_sI_ne (by omega), ti_sI_ne (by omega), ti_sI_ne (by omega), m10]
        have m261 : sI m2 57 61 = Int32.ofNat w := by rw [em2, ti_sI_ne (by omega), ti_sI_eq]
        have m262 : sI m2 57 62 = -1 := by rw [em2, ti_sI_eq]
        refine w_aIe (l2.Rw r127) (n := 6) rfl (by decide) s26 ?_
        refine w_dd (g_writes (l2.Rw r127) (MF_e hmf rm2) (s20.trans m20.symm) (lAud_fr au (oS2 _ _ (by omega) (by omega)) (oS2 _ _ (by omega) (by omega)) (om2 _ _ (by omega) (by omega)) (om2 _ _ (by omega) (by omega)))) (fun S3 m3 _ p => ?_)
        obtain ⟨p1, p2, p3, p4⟩ := p
        have v21 : (sI m 57 0 + 1 + 20).toInt = (sI m 57 0).toInt + 21 := by
          have := now.2.1
          rw [Int32.toInt_add, show (20 : Int32).toInt = 20 from by decide, c1, bm (by omega) (by omega)]
          omega
        refine go S3 m3 (LF_tr l2 p1) (p4.1.1.trans rm2) (p4.1.2.1.trans lm2) (fun p j q1 q2 => ?_) (fun p j q1 q2 q3 q4 q5 => ?_) ((p2 _ _ (by omega)).trans s20) ((p4.1.2.2 _ _ (by omega) (by omega) (by omega) (by omega)).trans m20) p3 ⟨⟨w, wk, (p2 _ _ (by omega)).trans s26, (p4.1.2.2 _ _ (by omega) (by omega) (by omega) (by omega)).trans m261⟩, Or.inl ⟨(p2 _ _ (by omega)).trans s27, (p4.1.2.2 _ _ (by omega) (by omega) (by omega) (by omega)).trans m262⟩⟩ (fun i2 hi2 => ?_)
        · rw [p2 p j (by omega), oS2 p j (by omega) (by omega)]
        · rw [p4.1.2.2 p j q2 q3 q4 (by omega), om2 p j (by omega) (by omega)]
        · rw [p2 _ _ (by omega), p2 _ _ (by omega), p4.1.2.2 111 _ (by omega) (by omega) (by omega) (by omega), p4.1.2.2 112 _ (by omega) (by omega) (by omega) (by omega)]
          obtain ⟨x1, x2⟩ := out i2 hi2
          by_cases e : i2 = sg
          · subst e
            rw [oS2 138 (2 * i2) (by omega) (by omega), om2 111 i2 (by omega) (by omega)]
            refine ⟨x1, Or.inr ⟨?_, ?_⟩⟩
            · rw [eS2, em2, ti_sI_ne (by omega), ti_sI_ne (by omega), ti_sI_eq, ti_sI_ne (by omega), ti_sI_ne (by omega), ti_sI_eq]
            · rw [em2, ti_sI_ne (by omega), ti_sI_ne (by omega), ti_sI_eq, v21]
              have := now.2.1
              omega
          · rw [oS2 138 _ (by omega) (by omega), oS2 138 _ (by omega) (by omega), om2 111 _ (by omega) (by omega), om2 112 _ (by omega) (by omega)]
            exact ⟨x1, x2⟩
      · have lt : sI m 57 0 + 1 < sI m 57 63 := by
          rw [Int32.lt_iff_toInt_lt, c1]
          have : (sI m 57 63).toInt ≠ (sI m 57 0).toInt + 1 := fun q => d (Int32.toInt_inj.mp (q.trans c1.symm))
          omega
        refine w_F d (wm_of (st_T lt) ?_)
        refine go S1 m1 l1 rm1 lm1 (fun p j q _ => oS1 p j (by omega)) (fun p j _ _ _ _ q => om1 p j (by omega)) s0 m10 (lAud_fr au (oS1 _ _ (by omega)) (oS1 _ _ (by omega)) (om1 _ _ (by omega)) (om1 _ _ (by omega))) ⟨⟨sg, sg1, (oS1 127 6 (by omega)).trans sg2, (om1 57 61 (by omega)).trans sg3⟩, Or.inr ⟨w, wk, (oS1 127 7 (by omega)).trans w1, (om1 57 62 (by omega)).trans w2, ?_, ?_, ?_⟩⟩ (lOut_fr out (funext fun j => oS1 138 j (by omega)) (funext fun j => om1 111 j (by omega)) (funext fun j => om1 112 j (by omega)))
        · rw [oS1 127 8 (by omega), om1 57 63 (by omega)]
          exact w3
        · rw [m10, om1 57 63 (by omega)]
          exact Int32.lt_iff_toInt_lt.mp lt
        · rw [om1 57 63 (by omega)]
          exact w5
end
