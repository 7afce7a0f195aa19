/-! ===== a family, the families of a session, a session: the law's rows and the reference's end alike ===== -/
section
variable {S0 m0 S m : AS} {ns nc nf nt nk : Nat}
theorem g_eF (hs : SW ns nc nf nt nk S0 m0) (he : EW ns nf S0 m0 S m) {f : Nat} (hf : f < nf) : HW (f_W_endFamily S (some 127) (some 136) (some 137) (some 139) (Int32.ofNat f)) (f_M_endFamily m (some 57) (Int32.ofNat f)) (fun S' m' => EW ns nf S0 m0 S' m' ∧ sI m' 89 = sI m 89 ∧ sI S' 133 = sI S 133) := by
  have hs' := hs
  have he' := he
  obtain ⟨lr, hmf, ⟨-, ⟨-, -, nf10⟩, ⟨c4, m52, nt20⟩⟩, ⟨-, nk10⟩, now, tok, -, -, -, srv⟩ := hs
  obtain ⟨hl, fr, ⟨e1, e2, e3⟩, au, god, tol, liv⟩ := he
  obtain ⟨r127, -, -, -, -, -, -, -, -, r136, r137, -, r139, -⟩ := hl.LR lr
  have hm := MF_e hmf e1
  obtain ⟨g1, g2⟩ := god f hf
  unfold f_W_endFamily f_M_endFamily
  refine w_aIe r136 (n := 5 * f + 4) (wix 5 f 4) (by omega) g1 (wm_of (st_gRe (hm 51 103 rfl)) (wm_of (st_aIe (oc (by omega)) rfl) ?_))
  by_cases c : sI m 103 f = 0
  · exact w_T c (wm_of (st_T c) (w_ret ⟨he', rfl, rfl⟩))
  · refine w_F c (wm_of (st_F c) (wm_of (st_gRe (hm 51 103 rfl)) (wm_of (st_bZe (oc (by omega))) (wm_of st_rv ?_))))
    have c1 : sI m 103 f = 1 := g2.resolve_left c
    refine w_bI r136 (n := 5 * f + 4) (wix 5 f 4) (by omega) ?_
    refine w_dd (g_writes (S := wI S 136 (5 * f + 4) 0) (m := wI m 103 f 0) r127.w (MF_e hm rfl) ?_ ⟨?_, ?_⟩) (fun S1 m1 _ p => ?_)
    · rw [ti_sI_ne (by omega), ti_sI_ne (by omega), fr 127 0 (by omega) (by omega) (by omega) (by omega), e3 57 0 (by omega) (by omega) (by omega) (by omega) (by omega) (by omega) (by omega)]
      exact now.1
    · rw [ti_sI_ne (by omega), ti_sI_ne (by omega)]
      exact au.1
    · rw [ti_sI_ne (by omega), ti_sI_ne (by omega)]
      exact au.2
    · obtain ⟨l1, f1, a1, b1⟩ := p
      have o1' : ∀ p j, ¬ (p = 127 ∧ (j = 9 ∨ j = 10)) → ¬ (p = 136 ∧ j = 5 * f + 4) → sI S1 p j = sI S p j := fun p j q1 q2 => (f1 p j q1).trans (ti_sI_ne q2)
      have om1 : ∀ p j, p ≠ 123 → p ≠ 124 → p ≠ 125 → ¬ (p = 57 ∧ (j = 77 ∨ j = 81)) → ¬ (p = 103 ∧ j = f) → sI m1 p j = sI m p j := fun p j q1 q2 q3 q4 q5 => (b1.1.2.2 p j q1 q2 q3 q4).trans (ti_sI_ne q5)
      have hl1 : LF S0 S1 := LF_tr hl (LF_tr (LF_w (LF_rf S) (by decide)) l1)
      refine w_sep (x_eF_L hs' hf nt 0 kr_FU S1 (by omega) (show nt < 2000 by omega) hl1 (fun p j q => ?_)) (p_eF_L (mm := m1) (nt := nt) (MF_e hm (b1.1.1)) ?_ (by omega) (f := f) (by omega) 4 0 kr_FU m1 (by omega) rfl rfl (fun _ _ _ => rfl)) (fun S' m' p q => ?_)
      · rw [o1' p j (by omega) (by omega)]
        exact fr p j (by omega) (by omega) (by omega) (by omega)
      · rw [om1 57 52 (by omega) (by omega) (by omega) (by omega) (by omega), e3 57 52 (by omega) (by omega) (by omega) (by omega) (by omega) (by omega) (by omega)]
        exact m52
      · obtain ⟨p1, p2, p3⟩ := p
        obtain ⟨⟨q1, q2, q3⟩, q4, q5⟩ := q
        have oS : ∀ p j, ¬ (p = 127 ∧ (j = 9 ∨ j = 10)) → ¬ (p = 136 ∧ j = 5 * f + 4) → ¬ (p = 139 ∧ j % 4 = 3) → sI S' p j = sI S p j := fun p j z1 z2 z3 => (p2 p j z3).trans (o1' p j z1 z2)
        have om : ∀ p j, p ≠ 116 → p ≠ 123 → p ≠ 124 → p ≠ 125 → ¬ (p = 57 ∧ (j = 77 ∨ j = 81)) → ¬ (p = 103 ∧ j = f) → sI m' p j = sI m p j := fun p j z1 z2 z3 z4 z5 z6 => (q3 p j z1).trans (om1 p j z2 z3 z4 z5 z6)
        have zS : sI S' 136 (5 * f + 4) = 0 := by rw [p2 _ _ (by omega), f1 _ _ (by omega), ti_sI_eq]
        have zm : sI m' 103 f = 0 := by rw [q3 _ _ (by omega), b1.1.2.2 _ _ (by omega) (by omega) (by omega) (by omega), ti_sI_eq]
        refine ⟨⟨LF_tr hl1 p1, fun p j z1 z2 z3 z4 => ?_, ⟨q1.trans (b1.1.1.trans e1), q2.trans (b1.1.2.1.trans e2), fun p j z1 z2 z3 z4 z5 z6 z7 => ?_⟩, ⟨?_, ?_⟩, fun i hi => ?_, fun s s4 => ?_, fun j hj => ?_⟩, funext fun j => om 89 j (by omega) (by omega) (by omega) (by omega) (by omega) (by omega), funext fun j => oS 133 j (by omega) (by omega) (by omega)⟩
        · rw [oS p j z1 (by omega) z3]
          exact fr p j z1 z2 z3 z4
        · rw [om p j z3 z4 z5 z6 z7 (by omega)]
          exact e3 p j z1 z2 z3 z4 z5 z6 z7
        · rw [p2 _ _ (by omega), q3 _ _ (by omega)]
          exact a1.1
        · rw [p2 _ _ (by omega), q3 _ _ (by omega)]
          exact a1.2
        · by_cases d : i = f
          · rw [d, zS, zm]
            exact ⟨rfl, Or.inl rfl⟩
          · rw [oS 136 _ (by omega) (by omega) (by omega), om 103 i (by omega) (by omega) (by omega) (by omega) (by omega) (by omega)]
            exact god i hi
        · obtain ⟨t1, t2, t3⟩ := tol s s4
          have u13 : sI m1 113 s = sI m0 113 s := by rw [om1 113 s (by omega) (by omega) (by omega) (by omega) (by omega), e3 113 s (by omega) (by omega) (by omega) (by omega) (by omega) (by omega) (by omega)]
          have u108 : ∀ t, sI m1 108 t = sI m0 108 t := fun t => by rw [om1 108 t (by omega) (by omega) (by omega) (by omega) (by omega), e3 108 t (by omega) (by omega) (by omega) (by omega) (by omega) (by omega) (by omega)]
          have u105 : ∀ t, sI m1 105 t = sI m0 105 t := fun t => by rw [om1 105 t (by omega) (by omega) (by omega) (by omega) (by omega), e3 105 t (by omega) (by omega) (by omega) (by omega) (by omega) (by omega) (by omega)]
          have same : ∀ g, g < 60 → g ≠ f → sI m' 116 (60 * s + g) = sI m 116 (60 * s + g) := fun g g60 d => by
            rw [q4 _ (fun s' z1 z2 => by omega), om1 116 _ (by omega) (by omega) (by omega) (by omega) (by omega)]
          refine ⟨fun g g10 => ?_, fun g z1 z2 => ?_, fun g z1 z2 => ?_⟩
          · have pp := p3 s s4 g (by omega)
            rw [o1' 139 _ (by omega) (by omega)] at pp
            rw [pp]
            by_cases d : g = f
            · subst d
              obtain ⟨y1, y2⟩ := q5 s (Nat.zero_le _) s4
              refine ⟨?_, y1⟩
              rw [y2, u13]
              have z0 := t3 g hf c1
              have zb : ¬ bt (sI S 139 (4 * s + 3)) g = true := fun q => by
                have := ((t1 g g10).1).mp q
                rw [z0] at this
                exact absurd this (by decide)
              constructor
              · rintro (q | ⟨-, q, t, -, w1, w2, w3⟩)
                · exact absurd q zb
                · exact ⟨q, t, w1, (u108 t).trans w2, (u105 t).trans w3⟩
              · rintro ⟨q, t, w1, w2, w3⟩
                exact Or.inr ⟨rfl, q, t, Nat.zero_le _, w1, (u108 t).symm.trans w2, (u105 t).symm.trans w3⟩
            · rw [same g (by omega) d]
              refine ⟨?_, (t1 g g10).2⟩
              rw [← (t1 g g10).1]
              exact ⟨fun q => q.elim id (fun z => absurd z.1 d), Or.inl⟩
          · rw [same g (by omega) (by omega)]
            exact t2 g z1 z2
          · by_cases d : g = f
            · rw [d, zm] at z2
              exact absurd z2 (by decide)
            · rw [same g (by omega) d]
              rw [om 103 g (by omega) (by omega) (by omega) (by omega) (by omega) (by omega)] at z2
              exact t3 g z1 z2
        · rw [oS 133 _ (by omega) (by omega) (by omega), om 89 j (by omega) (by omega) (by omega) (by omega) (by omega) (by omega), om 88 j (by omega) (by omega) (by omega) (by omega) (by omega) (by omega)]
          exact liv j hj
theorem g_eFs_L (hs : SW ns nc nf nt nk S0 m0) {s : Int32} : ∀ (k i fu fu' : Nat) (S m : AS), i + k = nf → k < fu → EW ns nf S0 m0 S m →
    HW (f_W_endFamilies_L3 fu S (some 127) (some 135) (some 136) (some 137) (some 139) s (Int32.ofNat i)) (f_M_endFamiliesOf_L2 fu' m (some 57) s (Int32.ofNat i)) (fun S' m' => EW ns nf S0 m0 S' m' ∧ sI m' 89 = sI m 89 ∧ sI S' 133 = sI S 133)
  | _, _, 0, _, _, _, _, h, _ => absurd h (Nat.not_lt_zero _)
  | _, _, _ + 1, 0, _, _, _, _, _ => wm_0
  | k, i, fu + 1, fu' + 1, S, m, hk, hfu, he => by
    have hs' := hs
    have he' := he
    obtain ⟨lr, hmf, ⟨-, ⟨c3, m46, nf10⟩, -⟩, ⟨nc10, -⟩, -, -, fam, cod, -, -⟩ := hs
    obtain ⟨hl, fr, ⟨e1, e2, e3⟩, -⟩ := he
    obtain ⟨r127, -, -, -, -, -, -, -, r135, r136, -⟩ := hl.LR lr
    have hm := MF_e hmf e1
    unfold f_W_endFamilies_L3 f_W_endFamilies_C3 f_M_endFamiliesOf_L2 f_M_endFamiliesOf_C2
    refine w_aIe r127 (n := 3) rfl (by decide) ((fr 127 3 (by omega) (by omega) (by omega) (by omega)).trans c3) (wm_of (st_gIe (v := Int32.ofNat nf) ((e3 57 46 (by omega) (by omega) (by omega) (by omega) (by omega) (by omega) (by omega)).trans m46)) ?_)
    by_cases hi : i < nf
    · have nl : ¬ Int32.ofNat nf ≤ Int32.ofNat i := fun q => by have := (oleq (a := nf) (b := i) (by omega) (by omega)).mp q; omega
      obtain ⟨c, c1, c2, c3'⟩ := fam i hi
      obtain ⟨⟨u, u1, u2, u3⟩, -⟩ := cod c c1
      refine w_F nl (wm_of (st_F nl) ?_)
      refine w_aIe r136 (n := 5 * i) (wmul 5 i) (by omega) ((fr 136 _ (by omega) (by omega) (by omega) (by omega)).trans c2) ?_
      refine w_aIe r135 (n := 6 * c) (wmul 6 c) (by omega) ((fr 135 _ (by omega) (by omega) (by omega) (by omega)).trans u2) ?_
      refine wm_of (st_gRe (hm 40 93 rfl)) (wm_of (st_gRe (hm 47 99 rfl)) (wm_of (st_aIe (oc (by omega)) ((e3 99 i (by omega) (by omega) (by omega) (by omega) (by omega) (by omega) (by omega)).trans c3')) (wm_of (st_aIe (oc (by omega)) ((e3 93 c (by omega) (by omega) (by omega) (by omega) (by omega) (by omega) (by omega)).trans u3)) ?_)))
      by_cases d : Int32.ofNat u = s
      · refine w_T d (wm_of (st_T d) (wm_of st_rv (w_dd (g_eF hs' he' hi) (fun S1 m1 _ p => ?_))))
        obtain ⟨p1, p2, p3⟩ := p
        unfold f_W_endFamilies_B37 f_M_endFamiliesOf_B30
        refine w_val (wm_of st_val ?_)
        rw [o1]
        exact w_mono (g_eFs_L hs' (k - 1) (i + 1) fu fu' S1 m1 (by omega) (by omega) p1) (fun S' m' q => ⟨q.1, q.2.1.trans p2, q.2.2.trans p3⟩)
      · refine w_F d (wm_of (st_F d) ?_)
        unfold f_W_endFamilies_B37 f_M_endFamiliesOf_B30
        refine w_val (wm_of st_val ?_)
        rw [o1]
        exact g_eFs_L hs' (k - 1) (i + 1) fu fu' S m (by omega) (by omega) he'
    · have nl : Int32.ofNat nf ≤ Int32.ofNat i := (oleq (a := nf) (b := i) (by omega) (by omega)).mpr (by omega)
      exact w_T nl (wm_of (st_T nl) (w_ret ⟨he', rfl, rfl⟩))
theorem g_eFs (hs : SW ns nc nf nt nk S0 m0) (he : EW ns nf S0 m0 S m) {s : Int32} : HW (f_W_endFamilies S (some 127) (some 135) (some 136) (some 137) (some 139) s) (f_M_endFamiliesOf m (some 57) s) (fun S' m' => EW ns nf S0 m0 S' m' ∧ sI m' 89 = sI m 89 ∧ sI S' 133 = sI S 133) := by
  unfold f_W_endFamilies f_M_endFamiliesOf
  have := hs.2.2.1.2.1.2.2
  exact g_eFs_L hs nf 0 kr_FU kr_FU S m (by omega) (show nf < 2000 by omega) he
/-- one session's own end -/
theorem g_mark (hs : SW ns nc nf nt nk S0 m0) (he : EW ns nf S0 m0 S m) {s : Nat} (hn : s < ns) (h1 : sI m 89 s = 1) :
    HW ((aI S 40 (some 133) (Int32.ofNat (4 * s + 3))).bind fun v => (bI S (some 133) (Int32.ofNat (4 * s + 3)) (v + (100 : Int32))).bind fun S1 => f_W_writes S1 (some 127) (1 : Int32) (Int32.ofNat s)) (f_M_write (wI m 89 s 0) (some 57) (1 : Int32) (Int32.ofNat s)) (fun S' m' => EW ns nf S0 m0 S' m' ∧ sI m' 89 s = 0 ∧ ∀ j, j ≠ s → sI m' 89 j = sI m 89 j) := by
  have hs' := hs
  obtain ⟨lr, hmf, ⟨⟨-, -, ns14⟩, -⟩, -, now, -⟩ := hs
  obtain ⟨hl, fr, ⟨e1, e2, e3⟩, au, god, tol, liv⟩ := he
  obtain ⟨r127, -, -, -, -, -, r133, -⟩ := hl.LR lr
  have hm := MF_e hmf e1
  have hv : sI S 133 (4 * s + 3) = sI m 88 s + 1 := by
    rcases liv s hn with q | q
    · exact q.2
    · rw [h1] at q
      exact absurd q.1 (by decide)
  refine w_aIe r133 (n := 4 * s + 3) rfl (by omega) hv (w_bI r133 (n := 4 * s + 3) rfl (by omega) ?_)
  refine w_mono (g_writes (S := wI S 133 (4 * s + 3) (sI m 88 s + 1 + 100)) (m := wI m 89 s 0) r127.w (MF_e hm rfl) ?_ ⟨?_, ?_⟩) (fun S1 m1 p => ?_)
  · rw [ti_sI_ne (by omega), ti_sI_ne (by omega), fr 127 0 (by omega) (by omega) (by omega) (by omega), e3 57 0 (by omega) (by omega) (by omega) (by omega) (by omega) (by omega) (by omega)]
    exact now.1
  · rw [ti_sI_ne (by omega), ti_sI_ne (by omega)]
    exact au.1
  · rw [ti_sI_ne (by omega), ti_sI_ne (by omega)]
    exact au.2
  · obtain ⟨l1, f1, a1, b1⟩ := p
    have oS : ∀ p j, ¬ (p = 127 ∧ (j = 9 ∨ j = 10)) → ¬ (p = 133 ∧ j = 4 * s + 3) → sI S1 p j = sI S p j := fun p j q1 q2 => (f1 p j q1).trans (ti_sI_ne q2)
    have om : ∀ p j, p ≠ 123 → p ≠ 124 → p ≠ 125 → ¬ (p = 57 ∧ (j = 77 ∨ j = 81)) → ¬ (p = 89 ∧ j = s) → sI m1 p j = sI m p j := fun p j q1 q2 q3 q4 q5 => (b1.1.2.2 p j q1 q2 q3 q4).trans (ti_sI_ne q5)
    have z : sI m1 89 s = 0 := by rw [b1.1.2.2 89 s (by omega) (by omega) (by omega) (by omega), ti_sI_eq]
    refine ⟨⟨LF_tr hl (LF_tr (LF_w (LF_rf S) (by decide)) l1), fun p j z1 z2 z3 z4 => ?_, ⟨b1.1.1.trans e1, b1.1.2.1.trans e2, fun p j z1 z2 z3 z4 z5 z6 z7 => ?_⟩, a1, fun i hi => ?_, fun v v4 => ?_, fun j hj => ?_⟩, z, fun j d => om 89 j (by omega) (by omega) (by omega) (by omega) (by omega)⟩
    · rw [oS p j z1 (by omega)]
      exact fr p j z1 z2 z3 z4
    · rw [om p j z4 z5 z6 z7 (by omega)]
      exact e3 p j z1 z2 z3 z4 z5 z6 z7
    · rw [oS 136 _ (by omega) (by omega), om 103 i (by omega) (by omega) (by omega) (by omega) (by omega)]
      exact god i hi
    · obtain ⟨t1, t2, t3⟩ := tol v v4
      rw [oS 139 _ (by omega) (by omega)]
      refine ⟨fun g g10 => ?_, fun g g1 g2 => ?_, fun g g1 g2 => ?_⟩
      · rw [om 116 _ (by omega) (by omega) (by omega) (by omega) (by omega)]
        exact t1 g g10
      · rw [om 116 _ (by omega) (by omega) (by omega) (by omega) (by omega)]
        exact t2 g g1 g2
      · rw [om 103 g (by omega) (by omega) (by omega) (by omega) (by omega)] at g2
        rw [om 116 _ (by omega) (by omega) (by omega) (by omega) (by omega)]
        exact t3 g g1 g2
    · rw [om 88 j (by omega) (by omega) (by omega) (by omega) (by omega)]
      by_cases d : j = s
      · rw [d, z, f1 _ _ (by omega), ti_sI_eq]
        exact Or.inr ⟨rfl, rfl⟩
      · rw [oS 133 _ (by omega) (by omega), om 89 j (by omega) (by omega) (by omega) (by omega) (by omega)]
        exact liv j hj
theorem g_eS_L (hs : SW ns nc nf nt nk S0 m0) {s : Nat} (hn : s < ns) : ∀ (k i fu fu' : Nat) (c : Int32) (S m : AS), i + k = ns → s < i → k < fu → EW ns nf S0 m0 S m →
    HW (f_W_endSession_L29 fu S (some 127) (some 133) (some 135) (some 136) (some 137) (some 139) (Int32.ofNat s) c (Int32.ofNat i)) (f_M_endSession_L17 fu' m (some 57) (Int32.ofNat s) c (Int32.ofNat i)) (fun a b => a.1 = b.1 ∧ EW ns nf S0 m0 a.2 b.2)
  | _, _, 0, _, _, _, _, _, _, h, _ => absurd h (Nat.not_lt_zero _)
  | _, _, _ + 1, 0, _, _, _, _, _, _, _ => wm_0
  | k, i, fu + 1, fu' + 1, c, S, m, hk, hsi, hfu, he => by
    have hs' := hs
    have he' := he
    obtain ⟨lr, hmf, ⟨⟨c1, m30, ns14⟩, -⟩, -, -, -, -, -, sp, -⟩ := hs
    obtain ⟨hl, fr, ⟨e1, e2, e3⟩, au, god, tol, liv⟩ := he
    obtain ⟨r127, -, -, -, -, -, r133, -⟩ := hl.LR lr
    have hm := MF_e hmf e1
    unfold f_W_endSession_L29 f_W_endSession_C29 f_M_endSession_L17 f_M_endSession_C17
    refine w_aIe r127 (n := 1) rfl (by decide) ((fr 127 1 (by omega) (by omega) (by omega) (by omega)).trans c1) (wm_of (st_gIe (v := Int32.ofNat ns) ((e3 57 30 (by omega) (by omega) (by omega) (by omega) (by omega) (by omega) (by omega)).trans m30)) ?_)
    by_cases hi : i < ns
    · have nl : ¬ Int32.ofNat ns ≤ Int32.ofNat i := fun q => by have := (oleq (a := ns) (b := i) (by omega) (by omega)).mp q; omega
      refine w_F nl (wm_of (st_F nl) ?_)
      obtain ⟨-, -, o, o2, o3⟩ := sp i hi
      have o3 : sI m 88 i + 1 = Int32.ofNat o := by rw [e3 88 i (by omega) (by omega) (by omega) (by omega) (by omega) (by omega) (by omega)]; exact o3
      have nxt : ∀ (c : Int32) (S m : AS), EW ns nf S0 m0 S m → HW (f_W_endSession_B87 (f_W_endSession_L29 fu) S (some 127) (some 133) (some 135) (some 136) (some 137) (some 139) (Int32.ofNat s) c (Int32.ofNat i)) (f_M_endSession_B65 (f_M_endSession_L17 fu') m (some 57) (Int32.ofNat s) c (Int32.ofNat i)) (fun a b => a.1 = b.1 ∧ EW ns nf S0 m0 a.2 b.2) := fun c S m h => by
        unfold f_W_endSession_B87 f_M_endSession_B65
        refine w_val (wm_of st_val ?_)
        rw [o1]
        exact g_eS_L hs' hn (k - 1) (i + 1) fu fu' c S m (by omega) (by omega) (by omega) h
      rcases liv i hi with ⟨q1, q2⟩ | ⟨q1, q2⟩
      · refine w_aIe r133 (n := 4 * i + 3) (wix 4 i 3) (by omega) (q2.trans o3) ?_
        refine wm_of (st_gRe (hm 35 89 rfl)) (wm_of (st_aIe (oc (by omega)) q1) (wm_of (st_F one0) (wm_of (st_gRe (hm 34 88 rfl)) (wm_of (st_aIe (oc (by omega)) rfl) ?_))))
        by_cases d : sI m 88 i = Int32.ofNat s
        · have d' : Int32.ofNat o = Int32.ofNat s + 1 := by rw [← o3, d]
          refine w_T d' (wm_of (st_T d) (w_val ?_))
          refine wm_of (st_gRe (hm 35 89 rfl)) (wm_of (st_bZe (oc (by omega))) (wm_of st_rv ?_))
          have hmk := g_mark hs' he' hi q1
          have ex : ((aI S 40 (some 133) ((4 : Int32) * Int32.ofNat i + (3 : Int32))).bind fun v6 => (bI S (some 133) ((4 : Int32) * Int32.ofNat i + (3 : Int32)) (v6 + (100 : Int32))).bind fun S7 => (f_W_writes S7 (some 127) (1 : Int32) (Int32.ofNat i)).bind fun S8 => (f_W_endFamilies S8 (some 127) (some 135) (some 136) (some 137) (some 139) (Int32.ofNat i)).bind fun S9 => (some (c + (1 : Int32))).bind fun i10 => f_W_endSession_B87 (f_W_endSession_L29 fu) S9 (some 127) (some 133) (some 135) (some 136) (some 137) (some 139) (Int32.ofNat s) i10 (Int32.ofNat i)) =
              ((aI S 40 (some 133) (Int32.ofNat (4 * i + 3))).bind fun v => (bI S (some 133) (Int32.ofNat (4 * i + 3)) (v + (100 : Int32))).bind fun S1 => f_W_writes S1 (some 127) (1 : Int32) (Int32.ofNat i)).bind fun S8 => (f_W_endFamilies S8 (some 127) (some 135) (some 136) (some 137) (some 139) (Int32.ofNat i)).bind fun S9 => f_W_endSession_B87 (f_W_endSession_L29 fu) S9 (some 127) (some 133) (some 135) (some 136) (some 137) (some 139) (Int32.ofNat s) (c + (1 : Int32)) (Int32.ofNat i) := by
            rw [show (4 : Int32) * Int32.ofNat i + (3 : Int32) = Int32.ofNat (4 * i + 3) from wix 4 i 3, Option.bind_assoc]
            refine congrArg _ (funext fun v => ?_)
            rw [Option.bind_assoc]
            rfl
          refine w_eq ex (w_dd hmk (fun S8 m12 _ p => ?_))
          obtain ⟨p1, -, -⟩ := p
          refine wm_of st_rv (w_dd (g_eFs hs' p1) (fun S9 m14 _ p => wm_of st_val ?_))
          exact nxt _ _ _ p.1
        · have d' : ¬ Int32.ofNat o = Int32.ofNat s + 1 := fun q => d (by
            have q2 : sI m 88 i + 1 = Int32.ofNat s + 1 := o3.trans q
            have := congrArg (fun x => x - 1) q2
            simpa using this)
          exact w_F d' (wm_of (st_F d) (nxt _ _ _ he'))
      · refine w_aIe (v := Int32.ofNat (o + 100)) r133 (n := 4 * i + 3) (wix 4 i 3) (by omega) (q2.trans (by rw [o3]; exact wadd o 100)) ?_
        refine wm_of (st_gRe (hm 35 89 rfl)) (wm_of (st_aIe (oc (by omega)) q1) (wm_of (st_T rfl) ?_))
        refine w_F (fun q => ?_) (nxt _ _ _ he')
        rw [o1] at q
        have := oinjq (by omega) (by omega) q
        omega
    · have nl : Int32.ofNat ns ≤ Int32.ofNat i := (oleq (a := ns) (b := i) (by omega) (by omega)).mpr (by omega)
      exact w_T nl (wm_of (st_T nl) (wm_of st_rv (w_dd (g_eFs hs' he') (fun S4 m4 _ p => w_ret ⟨rfl, p.1⟩))))
/-- the reference looks at the sessions before it too, and finds none -/
theorem m_skip {α : Type} {x : Option α} {Q : α → Int32 × AS → Prop} (hs : SW ns nc nf nt nk S0 m0) {s : Nat} (hn : s < ns) (he : EW ns nf S0 m0 S m) {c : Int32} (H : ∀ fu', HW x (f_M_endSession_L17 fu' m (some 57) (Int32.ofNat s) c (Int32.ofNat (s + 1))) Q) : ∀ (k i fu' : Nat), i + k = s + 1 → HW x (f_M_endSession_L17 fu' m (some 57) (Int32.ofNat s) c (Int32.ofNat i)) Q
  | 0, i, fu', hk => by
    have e : i = s + 1 := by omega
    rw [e]
    exact H fu'
  | _ + 1, _, 0, _ => wm_0
  | k + 1, i, fu' + 1, hk => by
    have hs' := hs
    have he' := he
    obtain ⟨-, hmf, ⟨⟨c1, m30, ns14⟩, -⟩, -, -, -, -, -, sp, -⟩ := hs
    obtain ⟨hl, fr, ⟨e1, e2, e3⟩, -⟩ := he
    have hm := MF_e hmf e1
    obtain ⟨-, -, o, o2, o3⟩ := sp i (by omega)
    have o3 : sI m 88 i + 1 = Int32.ofNat o := by rw [e3 88 i (by omega) (by omega) (by omega) (by omega) (by omega) (by omega) (by omega)]; exact o3
    unfold f_M_endSession_L17 f_M_endSession_C17
    refine wm_of (st_gIe (v := Int32.ofNat ns) ((e3 57 30 (by omega) (by omega) (by omega) (by omega) (by omega) (by omega) (by omega)).trans m30)) (wm_of (st_F (fun q => by have := (oleq (a := ns) (b := i) (by omega) (by omega)).mp q; omega)) (wm_of (st_gRe (hm 35 89 rfl)) (wm_of (st_aIe (oc (by omega)) rfl) ?_)))
    have nxt : HW x (f_M_endSession_B65 (f_M_endSession_L17 fu') m (some 57) (Int32.ofNat s) c (Int32.ofNat i)) Q := by
      unfold f_M_endSession_B65
      refine wm_of st_val ?_
      rw [o1]
      exact m_skip hs' hn he' H k (i + 1) fu' (by omega)
    refine wm_if (fun _ => nxt) (fun _ => wm_of (st_gRe (hm 34 88 rfl)) (wm_of (st_aIe (oc (by omega)) rfl) (wm_of (st_F (fun q => ?_)) nxt)))
    rw [q, o1] at o3
    have := oinjq (by omega) (by omega) o3
    omega
theorem g_eS (hs : SW ns nc nf nt nk S0 m0) (he : EW ns nf S0 m0 S m) {s : Nat} (hn : s < ns) (h1 : sI m 89 s = 1) : HW (f_W_endSession S (some 127) (some 133) (some 135) (some 136) (some 137) (some 139) (Int32.ofNat s)) (f_M_endSession m (some 57) (Int32.ofNat s)) (fun a b => a.1 = b.1 ∧ EW ns nf S0 m0 a.2 b.2) := by
  have hmf := hs.2.1
  have ns14 := hs.2.2.1.1.2.2
  have hm := MF_e hmf he.2.2.1.1
  unfold f_W_endSession f_M_endSession
  refine wm_of (st_gRe (hm 35 89 rfl)) (wm_of (st_bZe (oc (by omega))) (wm_of st_rv (w_val ?_)))
  have ex : ((aI S 40 (some 133) ((4 : Int32) * Int32.ofNat s + (3 : Int32))).bind fun v12 => (bI S (some 133) ((4 : Int32) * Int32.ofNat s + (3 : Int32)) (v12 + (100 : Int32))).bind fun S13 => (f_W_writes S13 (some 127) (1 : Int32) (Int32.ofNat s)).bind fun S14 => (some (Int32.ofNat s + (1 : Int32))).bind fun i15 => f_W_endSession_L29 kr_FU S14 (some 127) (some 133) (some 135) (some 136) (some 137) (some 139) (Int32.ofNat s) (1 : Int32) i15) =
      ((aI S 40 (some 133) (Int32.ofNat (4 * s + 3))).bind fun v => (bI S (some 133) (Int32.ofNat (4 * s + 3)) (v + (100 : Int32))).bind fun S1 => f_W_writes S1 (some 127) (1 : Int32) (Int32.ofNat s)).bind fun S14 => f_W_endSession_L29 kr_FU S14 (some 127) (some 133) (some 135) (some 136) (some 137) (some 139) (Int32.ofNat s) (1 : Int32) (Int32.ofNat (s + 1)) := by
    rw [show (4 : Int32) * Int32.ofNat s + (3 : Int32) = Int32.ofNat (4 * s + 3) from wix 4 s 3, Option.bind_assoc]
    refine congrArg _ (funext fun v => ?_)
    rw [Option.bind_assoc, show Int32.ofNat (s + 1) = Int32.ofNat s + 1 from (o1 s).symm]
    rfl
  refine w_eq ex (w_dd (g_mark hs he hn h1) (fun S1 m1 _ p => ?_))
  obtain ⟨p1, -, -⟩ := p
  exact m_skip hs hn p1 (fun fu' => g_eS_L hs hn (ns - (s + 1)) (s + 1) kr_FU fu' 1 S1 m1 (by omega) (by omega) (show _ < 2000 by omega) p1) (s + 1) 0 kr_FU (by omega)
end
