/-! ===== a new token; a key that is out; a check ===== -/
section
variable {S m : AS} {ns nc nf nk : Nat}
theorem sV_mono {a b : Nat} {v w : Int32} (h : sV a v w) (hb : a ≤ b) : sV b v w := by
  obtain ⟨n, h1, h2, h3⟩ := h
  exact ⟨n, by omega, h2, h3⟩
/-- a new row of the law's tokens -/
def TKW (n f : Nat) (pk un : Int32) (S S' : AS) : Prop := LF S S' ∧ (∀ q j, ¬ (q = 127 ∧ j = 4) → ¬ (q = 136 ∧ j = 5 * f + 3) → ¬ (q = 137 ∧ 3 * n ≤ j ∧ j < 3 * n + 3) → sI S' q j = sI S q j) ∧
  sI S' 127 4 = Int32.ofNat (n + 1) ∧ sI S' 136 (5 * f + 3) = Int32.ofNat n ∧ sI S' 137 (3 * n) = pk ∧ sI S' 137 (3 * n + 1) = Int32.ofNat f + (100 : Int32) * sI S 127 6 ∧ sI S' 137 (3 * n + 2) = un
theorem x_makes {n f : Nat} {pk un : Int32} (lr : LR S) (hn : n < 20) (hf : f < 10) (c4 : sI S 127 4 = Int32.ofNat n) : Ho (f_W_makes S (some 127) (some 136) (some 137) (Int32.ofNat f) pk un) (fun q => q.1 = Int32.ofNat n ∧ TKW n f pk un S q.2) := by
  obtain ⟨r127, -, -, -, -, -, -, -, -, r136, r137, -⟩ := lr
  unfold f_W_makes
  refine o_aIe r127 (n := 4) rfl (by decide) c4 (o_bI r137 (n := 3 * n) (wmul 3 n) (by omega) ?_)
  refine o_aIe r127.w (n := 4) rfl (by decide) ((ti_sI_ne (by omega)).trans c4) (o_aIe r127.w (n := 6) rfl (by decide) (ti_sI_ne (by omega)) (o_bI r137.w (n := 3 * n + 1) (wix 3 n 1) (by omega) ?_))
  refine o_aIe r127.w.w (n := 4) rfl (by decide) ((ti_sI_ne (by omega)).trans ((ti_sI_ne (by omega)).trans c4)) (o_bI r137.w.w (n := 3 * n + 2) (wix 3 n 2) (by omega) ?_)
  refine o_aIe r127.w.w.w (n := 4) rfl (by decide) ((ti_sI_ne (by omega)).trans ((ti_sI_ne (by omega)).trans ((ti_sI_ne (by omega)).trans c4))) (o_bI r136.w.w.w (n := 5 * f + 3) (wix 5 f 3) (by omega) ?_)
  obtain ⟨S1, e1⟩ : ∃ S1, S1 = wI (wI (wI (wI S 137 (3 * n) pk) 137 (3 * n + 1) (Int32.ofNat f + (100 : Int32) * sI S 127 6)) 137 (3 * n + 2) un) 136 (5 * f + 3) (Int32.ofNat n) := ⟨_, rfl⟩
  rw [← e1]
  have l1 : LF S S1 := by rw [e1]; exact LF_w (LF_w (LF_w (LF_w (LF_rf S) (by decide)) (by decide)) (by decide)) (by decide)
  have o1' : ∀ q j, ¬ (q = 136 ∧ j = 5 * f + 3) → ¬ (q = 137 ∧ 3 * n ≤ j ∧ j < 3 * n + 3) → sI S1 q j = sI S q j := fun q j z1 z2 => by
    rw [e1, ti_sI_ne (by omega), ti_sI_ne (by omega), ti_sI_ne (by omega), ti_sI_ne (by omega)]
  refine o_aIe (l1.Rw r127) (n := 4) rfl (by decide) ((o1' 127 4 (by omega) (by omega)).trans c4) (o_bI (l1.Rw r127) (n := 4) rfl (by decide) ?_)
  refine o_aIe (l1.Rw r127).w (n := 4) rfl (by decide) (ti_sI_eq _ _ _ _) (r_some ?_)
  rw [o1]
  refine ⟨qsub1 n, LF_w l1 (by decide), fun q j z1 z2 z3 => ?_, ti_sI_eq _ _ _ _, ?_, ?_, ?_, ?_⟩
  · show sI (wI S1 127 4 (Int32.ofNat (n + 1))) q j = _
    rw [ti_sI_ne z1, o1' q j z2 z3]
  · show sI (wI S1 127 4 (Int32.ofNat (n + 1))) _ _ = _
    rw [ti_sI_ne (by omega), e1, ti_sI_eq]
  · show sI (wI S1 127 4 (Int32.ofNat (n + 1))) _ _ = _
    rw [ti_sI_ne (by omega), e1, ti_sI_ne (by omega), ti_sI_ne (by omega), ti_sI_ne (by omega), ti_sI_eq]
  · show sI (wI S1 127 4 (Int32.ofNat (n + 1))) _ _ = _
    rw [ti_sI_ne (by omega), e1, ti_sI_ne (by omega), ti_sI_ne (by omega), ti_sI_eq]
  · show sI (wI S1 127 4 (Int32.ofNat (n + 1))) _ _ = _
    rw [ti_sI_ne (by omega), e1, ti_sI_ne (by omega), ti_sI_eq]
/-- the law's rows and the reference's with one token more -/
theorem tok_new {n f cl au ac sc : Nat} {un : Int32} {S' m' : AS} (k : TKW n f (Int32.ofNat (cl + 10 * au + 100 * ac + 1000 * sc)) un S S') (q : TKM m m' f n au (Int32.ofNat cl) (Int32.ofNat sc) (Int32.ofNat ac) un) (hf : f < nf) (hcl : cl < 4) (hau : au < 4) (hac : ac < 4) (hsc : sc < 16) (u0 : 0 ≤ un.toInt) (u1 : un.toInt ≤ 30010) (hn : n < 20)
    (key : lKey nk S m) (tok : lTok nf nk n S m) (num : ∀ i, i < nf → sV (n + 1) (sI S 136 (5 * i + 1)) (sI m 100 i) ∧ (sI S 136 (5 * i + 2) = sI m 101 i ∧ mi (sI m 101 i)) ∧ (i ≠ f → sI S 136 (5 * i + 3) = sI m 102 i)) :
    lSz 4 52 20 (n + 1) S' m' ∧ lTok nf nk (n + 1) S' m' ∧ lNum nf (n + 1) S' m' := by
  obtain ⟨k1, k2, k3, k4, k5, k6, k7⟩ := k
  obtain ⟨⟨q1, q2, q3⟩, p108, p104, p105, p106, p107, p110, p109, p102, p52⟩ := q
  obtain ⟨⟨kc, kc1, kc2, kc3⟩, -⟩ := key
  refine ⟨⟨k3, p52, by omega⟩, fun i hi => ?_, fun i hi => ?_⟩
  · by_cases c : i = n
    · subst c
      refine ⟨⟨cl, au, ac, sc, hcl, hau, hac, hsc, k5, p104, p105, p107, p106⟩, ⟨f, kc, hf, kc1, ?_, p108, p109.trans kc3⟩, ?_, ?_⟩
      · rw [k6, kc2, show (100 : Int32) * Int32.ofNat kc = Int32.ofNat (100 * kc) from wmul 100 kc, wadd]
      · rw [k7, p110]
      · rw [p110]
        exact ⟨u0, u1⟩
    · rw [k2 137 _ (by omega) (by omega) (by omega), k2 137 _ (by omega) (by omega) (by omega), k2 137 _ (by omega) (by omega) (by omega), q3 104 i (by omega) (by omega) (by omega), q3 105 i (by omega) (by omega) (by omega), q3 106 i (by omega) (by omega) (by omega), q3 107 i (by omega) (by omega) (by omega), q3 108 i (by omega) (by omega) (by omega), q3 109 i (by omega) (by omega) (by omega), q3 110 i (by omega) (by omega) (by omega)]
      exact tok i (by omega)
  · obtain ⟨n1, n2, n3⟩ := num i hi
    rw [k2 136 _ (by omega) (by omega) (by omega), k2 136 _ (by omega) (by omega) (by omega), q3 100 i (by omega) (by omega) (by omega), q3 101 i (by omega) (by omega) (by omega)]
    refine ⟨n1, n2, ?_⟩
    by_cases c : i = f
    · rw [c, k4, p102]
    · rw [k2 136 _ (by omega) (by omega) (by omega), q3 102 i (by omega) (by omega) (by omega)]
      exact n3 c
/-- a key is out, or open -/
theorem x_isOut {k : Nat} (r127 : Rw S 127 14) (r138 : Rw S 138 20) (hk : k < 20) (z : lSz 5 60 10 nk S m) (now : lNow S m) (out : lOut S m) : Ho (f_W_isOut S (some 127) (some 138) (Int32.ofNat k)) (fun q => q.2 = S ∧ ((q.1 = 0 ∧ KP (sI m 57 0).toInt m k) ∨ (q.1 = 1 ∧ ¬ KP (sI m 57 0).toInt m k))) := by
  obtain ⟨z1, z2, z3⟩ := z
  unfold f_W_isOut f_W_isOut_B39
  refine o_aIe r127 (n := 5) rfl (by decide) z1 ?_
  have kp : KP (sI m 57 0).toInt m k ↔ (k : Int) < (sI m 57 60).toInt ∧ sI m 111 k = 0 ∧ (sI m 112 k = -1 ∨ (sI m 57 0).toInt < (sI m 112 k).toInt) := Iff.rfl
  rw [z2, oiq (by omega)] at kp
  by_cases c : nk ≤ k
  · exact r_ifT ((oleq (by omega) (by omega)).mpr c) (r_some ⟨rfl, Or.inr ⟨rfl, fun q => by have := (kp.mp q).1; omega⟩⟩)
  · refine r_ifF (fun q => c ((oleq (by omega) (by omega)).mp q)) ?_
    obtain ⟨⟨p1, p01⟩, ou⟩ := out k (by omega)
    refine o_aIe r138 (n := 2 * k) (wmul 2 k) (by omega) p1 ?_
    by_cases d : sI m 111 k = 1
    · exact r_ifT d (r_some ⟨rfl, Or.inr ⟨rfl, fun q => by have := (kp.mp q).2.1; rw [d] at this; exact absurd this (by decide)⟩⟩)
    · have d0 : sI m 111 k = 0 := p01.resolve_right d
      refine r_ifF d (o_aI r138 (n := 2 * k + 1) (wix 2 k 1) (by omega) ?_)
      rcases ou with ⟨u1, u2⟩ | ⟨u1, u2⟩
      · exact r_ifT (by rw [u1]; decide) (r_some ⟨rfl, Or.inl ⟨rfl, kp.mpr ⟨by omega, d0, Or.inl u2⟩⟩⟩)
      · refine r_ifF (fun q => by
          rw [u1, Int32.le_iff_toInt_le, show (0 : Int32).toInt = 0 from by decide] at q
          omega) ?_
        refine o_aIe r127 (n := 0) rfl (by decide) now.1 (o_aIe r138 (n := 2 * k + 1) (wix 2 k 1) (by omega) u1 ?_)
        by_cases e : sI m 57 0 < sI m 112 k
        · exact r_ifT e (r_some ⟨rfl, Or.inl ⟨rfl, kp.mpr ⟨by omega, d0, Or.inr (Int32.lt_iff_toInt_lt.mp e)⟩⟩⟩)
        · refine r_ifF e (r_some ⟨rfl, Or.inr ⟨rfl, fun q => ?_⟩⟩)
          rcases (kp.mp q).2.2 with y | y
          · rw [y] at u2
            exact absurd u2 (by decide)
          · exact e (Int32.lt_iff_toInt_lt.mpr y)
end
/-! the keys that are open, as bits -/
noncomputable def kac (p : Nat → Prop) : Nat → Int32
  | 0 => 0
  | k + 1 => kac p k ||| (@ite Int32 (p k) (Classical.propDecidable _) ((1 : Int32) <<< (Int32.ofNat k &&& 31)) 0)
theorem kac_T (p : Nat → Prop) {k : Nat} (h : p k) : kac p (k + 1) = kac p k ||| ((1 : Int32) <<< (Int32.ofNat k &&& 31)) := by
  show kac p k ||| (@ite Int32 (p k) (Classical.propDecidable _) ((1 : Int32) <<< (Int32.ofNat k &&& 31)) 0) = _
  rw [if_pos h]
theorem kac_F (p : Nat → Prop) {k : Nat} (h : ¬ p k) : kac p (k + 1) = kac p k ||| 0 := by
  show kac p k ||| (@ite Int32 (p k) (Classical.propDecidable _) ((1 : Int32) <<< (Int32.ofNat k &&& 31)) 0) = _
  rw [if_neg h]
theorem kac_end (p : Nat → Prop) {n : Nat} (h : ∀ k, n ≤ k → ¬ p k) : ∀ d, kac p (n + d) = kac p n
  | 0 => rfl
  | d + 1 => by
    show kac p (n + d + 1) = _
    rw [kac_F p (h _ (by omega)), Int32.or_zero, kac_end p h d]
section
variable {S m : AS} {ns nc nf nk nt : Nat}
theorem w_ck_L {α : Type} {y : Option α} {Q : Int32 × AS → α → Prop} {s : Nat} {t a kk : Int32} (lr : LR S) (hs : s < 4) (z : lSz 5 60 10 nk S m) (now : lNow S m) (out : lOut S m)
    (H : HW (f_W_checked_B154 (wI (wI S 139 (4 * s + 1) (kac (KP (sI m 57 0).toInt m) nk)) 139 (4 * s + 2) (sI S 127 0)) (some 137) (some 139) (Int32.ofNat s) t a kk) y Q) : ∀ (k j fu : Nat), j + k = nk → k < fu → HW (f_W_checked_L96 fu S (some 127) (some 137) (some 138) (some 139) (Int32.ofNat s) t a kk (kac (KP (sI m 57 0).toInt m) j) (Int32.ofNat j)) y Q
  | _, _, 0, _, h => absurd h (Nat.not_lt_zero _)
  | 0, j, fu + 1, hk, _ => by
    have z3 := z.2.2
    obtain ⟨r127, -, -, -, -, -, -, -, -, -, -, r138, r139, -⟩ := lr
    have e : j = nk := by omega
    rw [e]
    unfold f_W_checked_L96 f_W_checked_C96
    refine w_aIe r127 (n := 5) rfl (by decide) z.1 (w_T ((oleq (by omega) (by omega)).mpr (Nat.le_refl _)) ?_)
    exact w_bI r139 (n := 4 * s + 1) (wix 4 s 1) (by omega) (w_aIe r127.w (n := 0) rfl (by decide) (ti_sI_ne (by omega)) (w_bI r139.w (n := 4 * s + 2) (wix 4 s 2) (by omega) H))
  | k + 1, j, fu + 1, hk, hfu => by
    have z3 := z.2.2
    have lr' := lr
    obtain ⟨r127, -, -, -, -, -, -, -, -, -, -, r138, r139, -⟩ := lr
    unfold f_W_checked_L96 f_W_checked_C96
    refine w_aIe r127 (n := 5) rfl (by decide) z.1 (w_F (fun q => by have := (oleq (by omega) (by omega)).mp q; omega) ?_)
    refine w_b2o (x_isOut r127 r138 (k := j) (by omega) z now out) (fun v S' q => ?_)
    obtain ⟨e, q⟩ := q
    have e : S' = S := e
    rw [e]
    unfold f_W_checked_B124
    rcases q with ⟨q1, q2⟩ | ⟨q1, q2⟩
    · have q1 : v = 0 := q1
      refine w_T q1 (w_val (w_val ?_))
      rw [o1, ← kac_T (KP (sI m 57 0).toInt m) q2]
      exact w_ck_L lr' hs z now out H k (j + 1) fu (by omega) (by omega)
    · have q1 : v = 1 := q1
      refine w_F (by rw [q1]; decide) (w_val (w_val ?_))
      rw [o1, ← kac_F (KP (sI m 57 0).toInt m) q2]
      exact w_ck_L lr' hs z now out H k (j + 1) fu (by omega) (by omega)
theorem m_ck_L {β : Type} {x : Option β} {Q : β → Int32 × AS → Prop} {mm : AS} {s : Nat} {t a : Int32} (hmf : MF mm) (hs : s < 4) (hc : sI mm 57 60 = Int32.ofNat nk) (h10 : nk ≤ 10)
    (H : ∀ M, sR M = sR mm → sL M = sL mm → (∀ q j, ¬ (q = 114 ∧ j = s) → ¬ (q = 115 ∧ j = s) → sI M q j = sI mm q j) → sI M 114 s = kac (KP (sI mm 57 0).toInt mm) nk → sI M 115 s = sI mm 57 0 → HW x (f_M_check_B168 M (some 57) (Int32.ofNat s) t a) Q) :
    ∀ (k j fu : Nat) (M : AS), j + k = 20 → sR M = sR mm → sL M = sL mm → (∀ q i, ¬ (q = 114 ∧ i = s) → sI M q i = sI mm q i) → sI M 114 s = kac (KP (sI mm 57 0).toInt mm) j → HW x (f_M_check_L119 fu M (some 57) (Int32.ofNat s) t a (Int32.ofNat j)) Q
  | _, _, 0, _, _, _, _, _, _ => wm_0
  | 0, j, fu + 1, M, hk, r, l, o, e => by
    unfold f_M_check_L119 f_M_check_C119
    have j20 : j = 20 := by omega
    subst j20
    refine wm_of (st_T (by decide)) (wm_of (st_gRe (MF_e hmf r 68 115 rfl)) (wm_of (st_gIe (v := sI mm 57 0) (o 57 0 (by omega))) (wm_of (st_bIe (oc (by omega))) (H _ r l (fun q i z1 z2 => (ti_sI_ne z2).trans (o q i z1)) ?_ (ti_sI_eq _ _ _ _)))))
    rw [ti_sI_ne (by omega), e]
    have := kac_end (KP (sI mm 57 0).toInt mm) (n := nk) (fun k hk q => by have := q.1; rw [hc, oi (by omega)] at this; omega) (20 - nk)
    rw [show nk + (20 - nk) = 20 by omega] at this
    exact this
  | k + 1, j, fu + 1, M, hk, r, l, o, e => by
    have hm := MF_e hmf r
    have js : (Int32.ofNat s).toNatClampNeg = s := oc (by omega)
    unfold f_M_check_L119 f_M_check_C119
    refine wm_of (st_F (fun q => by have := (oleq (a := 20) (b := j) (by omega) (by omega)).mp q; omega)) (wm_of (st_gRe (hm 67 114 rfl)) (wm_of (st_aIe js e) (wm_of st_rv (wm_p2 (δ := Unit) (p_open hm ((o 57 60 (by omega)).trans hc) (by omega) (k := j) (by omega)) (fun v m' _ q => ?_)))))
    obtain ⟨q1, q2, q3⟩ := q
    have q1 : m' = M := q1
    have q2 : v = 0 ∨ v = 1 := q2
    have q3 : v = 1 ↔ KP (sI M 57 0).toInt M j := q3
    rw [q1]
    have kq : KP (sI M 57 0).toInt M j ↔ KP (sI mm 57 0).toInt mm j := by
      unfold KP
      rw [o 57 0 (by omega), o 57 60 (by omega), o 111 j (by omega), o 112 j (by omega)]
    have q3 := q3.trans kq
    unfold f_M_check_B150
    by_cases c : v = 0
    · refine wm_of (st_T c) (wm_of (st_bIe js) (wm_of st_val ?_))
      rw [o1]
      refine m_ck_L hmf hs hc h10 H k (j + 1) fu _ (by omega) r l (fun q i z => (ti_sI_ne z).trans (o q i z)) ?_
      rw [ti_sI_eq, kac_F (KP (sI mm 57 0).toInt mm) (fun y => by
        have := q3.mpr y
        rw [c] at this
        exact absurd this (by decide))]
    · refine wm_of (st_F c) (wm_of (st_bIe js) (wm_of st_val ?_))
      rw [o1]
      refine m_ck_L hmf hs hc h10 H k (j + 1) fu _ (by omega) r l (fun q i z => (ti_sI_ne z).trans (o q i z)) ?_
      rw [ti_sI_eq, kac_T (KP (sI mm 57 0).toInt mm) (q3.mp (q2.resolve_left c))]
/-- with the keys at hand -/
theorem g_ck_end {s t a ke fa cl au ac sc : Nat} (lr : LR S) (hmf : MF m) (hs : s < 4) (ht : t < 20) (hke : ke < 10) (hfa : fa < 10) (hcl : cl < 4) (hau : au < 4) (hac : ac < 4) (hsc : sc < 16) (e114 : sI S 139 (4 * s + 1) = sI m 114 s) (tol : (bt (sI S 139 (4 * s + 3)) fa = true ↔ sI m 116 (60 * s + fa) = 1) ∧ q01 (sI m 116 (60 * s + fa)))
    (w0 : sI S 137 (3 * t) = Int32.ofNat (cl + 10 * au + 100 * ac + 1000 * sc)) (w1 : sI S 137 (3 * t + 1) = Int32.ofNat (fa + 100 * ke)) (m106 : sI m 106 t = Int32.ofNat sc) (m108 : sI m 108 t = Int32.ofNat fa) (m109 : sI m 109 t = Int32.ofNat ke) :
    HW (f_W_checked_B154 S (some 137) (some 139) (Int32.ofNat s) (Int32.ofNat t) (Int32.ofNat a) (Int32.ofNat ke)) (f_M_check_B168 m (some 57) (Int32.ofNat s) (Int32.ofNat t) (Int32.ofNat a)) (fun x y => x.1 = y.1 ∧ x.2 = S ∧ y.2 = m) := by
  obtain ⟨r127, -, -, -, -, -, -, -, -, -, r137, r138, r139, -⟩ := lr
  have js : (Int32.ofNat s).toNatClampNeg = s := oc (by omega)
  have jt : (Int32.ofNat t).toNatClampNeg = t := oc (by omega)
  unfold f_W_checked_B154 f_M_check_B168
  refine w_aIe r139 (n := 4 * s + 1) (wix 4 s 1) (by omega) e114 ?_
  refine wm_of (st_gRe (hmf 67 114 rfl)) (wm_of (st_aIe js rfl) (wm_of (st_gRe (hmf 58 109 rfl)) (wm_of (st_aIe jt m109) ?_)))
  by_cases c : ((sI m 114 s >>> (Int32.ofNat ke &&& 31)) &&& (1 : Int32)) = 0
  · exact w_T c (wm_of (st_T c) (w_ret ⟨rfl, rfl, rfl⟩))
  · refine w_F c (wm_of (st_F c) ?_)
    refine w_aI r139 (n := 4 * s + 3) (wix 4 s 3) (by omega) (w_aIe r137 (n := 3 * t + 1) (wix 3 t 1) (by omega) w1 ?_)
    rw [(tf_all fa hfa ke hke).1, bitv _ (by omega)]
    refine wm_of (st_gRe (hmf 69 116 rfl)) (wm_of (st_gRe (hmf 57 108 rfl)) (wm_of (st_aIe jt m108) (wm_of (st_aIe (n := 60 * s + fa) ?_ rfl) ?_)))
    · rw [show (60 : Int32) * Int32.ofNat s + Int32.ofNat fa = Int32.ofNat (60 * s + fa) from wix 60 s fa]
      exact oc (by omega)
    · obtain ⟨t1, t2⟩ := tol
      cases e : bt (sI S 139 (4 * s + 3)) fa with
      | false =>
        have z : sI m 116 (60 * s + fa) = 0 := t2.resolve_right (fun q => by
          have := t1.mpr q
          rw [e] at this
          cases this)
        refine w_F (by decide) (wm_of (st_T z) ?_)
        refine w_aIe r137 (n := 3 * t) (wmul 3 t) (by omega) w0 ?_
        rw [(tk_all cl hcl au hau ac hac sc hsc).2.2.2]
        refine wm_of (st_gRe (hmf 55 106 rfl)) (wm_of (st_aIe jt m106) ?_)
        by_cases d : ((Int32.ofNat sc >>> (Int32.ofNat a &&& 31)) &&& (1 : Int32)) = 0
        · exact w_T d (wm_of (st_T d) (w_ret ⟨rfl, rfl, rfl⟩))
        · exact w_F d (wm_of (st_F d) (w_ret ⟨rfl, rfl, rfl⟩))
      | true =>
        have z := t1.mp e
        exact w_T rfl (wm_of (st_F (by rw [z]; decide)) (w_ret ⟨rfl, rfl, rfl⟩))
theorem cmp15 {u n : Int32} (hu : mi u) (hn : mi n) : (u + (15 : Int32) < n) ↔ ((15 : Int32) < n - u) := by
  obtain ⟨a1, a2⟩ := hu
  obtain ⟨b1, b2⟩ := hn
  rw [Int32.lt_iff_toInt_lt, Int32.lt_iff_toInt_lt, Int32.toInt_add, Int32.toInt_sub, show (15 : Int32).toInt = 15 from by decide, bm (by omega) (by omega), bm (by omega) (by omega)]
  omega
theorem p_isTok {t : Nat} (h52 : sI m 57 52 = Int32.ofNat nt) (hn : nt ≤ 200) (ht : t < nt) : Hp (f_M_isToken m (some 57) (Int32.ofNat t)) (fun q => q = (1, m)) := by
  unfold f_M_isToken
  obtain ⟨w, rfl⟩ : ∃ w, nt = w + 1 := ⟨nt - 1, by omega⟩
  refine p_of (st_gIe h52) (p_of (st_b2 (q_isIn m _ _ _)) ?_)
  rw [qsub1, if_pos ⟨(oleq (a := 0) (by omega) (by omega)).mpr (Nat.zero_le _), (oleq (by omega) (by omega)).mpr (by omega)⟩]
  exact p_of st_z (p_ret rfl)
/-- a check: law and reference -/
def CKQ (s : Nat) (S m : AS) (x y : Int32 × AS) : Prop := x.1 = y.1 ∧ LF S x.2 ∧ (∀ q j, ¬ (q = 139 ∧ (j = 4 * s + 1 ∨ j = 4 * s + 2)) → sI x.2 q j = sI S q j) ∧ (sR y.2 = sR m ∧ sL y.2 = sL m ∧ ∀ q j, ¬ (q = 57 ∧ j = 82) → ¬ ((q = 114 ∨ q = 115) ∧ j = s) → sI y.2 q j = sI m q j) ∧ lSrv x.2 y.2 ∧ sI y.2 57 82 = 0
theorem g_checked {s t a : Nat} (lr : LR S) (hmf : MF m) (now : lNow S m) (tok : lTok nf nk nt S m) (z4 : lSz 4 52 20 nt S m) (z5 : lSz 5 60 10 nk S m) (n10 : nf ≤ 10) (out : lOut S m) (srv : lSrv S m) (tol : lTol nf S m) (hs : s < 4) (ht : t < nt) (ha : a < 4) :
    HW (f_W_checked S (some 127) (some 137) (some 138) (some 139) (Int32.ofNat s) (Int32.ofNat t) (Int32.ofNat a)) (f_M_check m (some 57) (Int32.ofNat s) (Int32.ofNat t) (Int32.ofNat a)) (CKQ s S m) := by
  have lr' := lr
  obtain ⟨r127, -, -, -, -, -, -, -, -, -, r137, r138, r139, -⟩ := lr
  have t20 := z4.2.2
  have k10 := z5.2.2
  have js : (Int32.ofNat s).toNatClampNeg = s := oc (by omega)
  have jt : (Int32.ofNat t).toNatClampNeg = t := oc (by omega)
  obtain ⟨⟨cl, au, ac, sc, hcl, hau, hac, hsc, w0, m104, m105, m107, m106⟩, ⟨fa, ke, hfa, hke, w1, m108, m109⟩, w2, u0, u1⟩ := tok t ht
  obtain ⟨⟨v0, v01⟩, v1, v2, vm⟩ := srv s hs
  have iq : ∀ n : Nat, n < 4 → (0 : Int32) ≤ Int32.ofNat n ∧ Int32.ofNat n ≤ (3 : Int32) := fun n hn => ⟨(oleq (a := 0) (by omega) (by omega)).mpr (Nat.zero_le _), (oleq (b := 3) (by omega) (by omega)).mpr (by omega)⟩
  unfold f_M_check
  refine wm_of (st_b2 (q_ser m _)) ?_
  rw [if_pos (iq s hs)]
  refine wm_of (st_F one0) (wm_of st_rv (wm_of (st_hp2 (p_isTok z4.2.1 (by omega) ht)) (wm_of (st_F one0) ?_)))
  unfold f_M_check_B20
  refine wm_of (st_b2 (q_isIn m _ _ _)) ?_
  rw [if_pos (iq a ha)]
  refine wm_of st_rv (wm_p2 (δ := Unit) p_mayB (fun v m' _ q => ?_))
  rw [if_neg one0, if_neg one0] at q
  obtain ⟨q1, q2⟩ := Prod.mk.inj q
  rw [q1]
  obtain ⟨m1, e1⟩ : ∃ m1, m1 = wI m 57 82 0 := ⟨_, rfl⟩
  rw [q2, ← e1]
  refine wm_of (st_F one0) ?_
  have oM : ∀ q j, ¬ (q = 57 ∧ j = 82) → sI m1 q j = sI m q j := fun q j y => by rw [e1, ti_sI_ne y]
  have rM : sR m1 = sR m := by rw [e1]; rfl
  have lM : sL m1 = sL m := by rw [e1]; rfl
  have hm1 : MF m1 := MF_e hmf rM
  have keep : ∀ v : Int32, CKQ s S m (v, S) (v, m1) := fun v => ⟨rfl, LF_rf S, fun _ _ _ => rfl, ⟨rM, lM, fun q j y _ => oM q j y⟩, (fun s' hs' => by
    rw [oM 113 s' (by omega), oM 114 s' (by omega), oM 115 s' (by omega)]
    exact srv s' hs'), by
    show sI m1 57 82 = 0
    rw [e1, ti_sI_eq]⟩
  unfold f_W_checked
  refine w_aIe r137 (n := 3 * t + 1) (wix 3 t 1) (by omega) w1 (w_val (w_aIe r137 (n := 3 * t) (wmul 3 t) (by omega) w0 (w_val ?_)))
  rw [(tf_all fa (by omega) ke (by omega)).2, (tk_all cl hcl au hau ac hac sc hsc).1]
  refine wm_of (st_gRe (hm1 54 105 rfl)) (wm_of (st_aIe jt ((oM _ _ (by omega)).trans m105)) ?_)
  by_cases c1 : Int32.ofNat au = Int32.ofNat s
  · refine w_T c1 (wm_of (st_T c1) ?_)
    refine w_aIe r137 (n := 3 * t + 2) (wix 3 t 2) (by omega) w2 (w_aIe r127 (n := 0) rfl (by decide) now.1 ?_)
    refine wm_of (st_gIe (oM 57 0 (by omega))) (wm_of (st_gRe (hm1 59 110 rfl)) (wm_of (st_aIe jt (oM 110 t (by omega))) ?_))
    by_cases c2 : sI m 57 0 ≤ sI m 110 t
    · refine w_T c2 (wm_of (st_T c2) ?_)
      -- with the keys at hand
      have fin : ∀ S1 M, LF S S1 → (∀ q j, ¬ (q = 139 ∧ (j = 4 * s + 1 ∨ j = 4 * s + 2)) → sI S1 q j = sI S q j) → sR M = sR m1 → sL M = sL m1 → (∀ q j, ¬ (q = 114 ∧ j = s) → ¬ (q = 115 ∧ j = s) → sI M q j = sI m1 q j) → sI S1 139 (4 * s + 1) = sI M 114 s → (sI S1 139 (4 * s + 2) = sI M 115 s ∧ mi (sI M 115 s)) →
          HW (f_W_checked_B154 S1 (some 137) (some 139) (Int32.ofNat s) (Int32.ofNat t) (Int32.ofNat a) (Int32.ofNat ke)) (f_M_check_B168 M (some 57) (Int32.ofNat s) (Int32.ofNat t) (Int32.ofNat a)) (CKQ s S m) := fun S1 M l1 o1' r1 lM1 o2 e114 e115 => by
        have ot : ∀ q, q = 106 ∨ q = 108 ∨ q = 109 ∨ q = 113 ∨ q = 116 → ∀ j, sI M q j = sI m q j := fun q hq j => by rw [o2 q j (by omega) (by omega), oM q j (by omega)]
        refine w_mono (g_ck_end (cl := cl) (au := au) (ac := ac) (sc := sc) (ke := ke) (fa := fa) (l1.LR lr') (MF_e hm1 r1) hs (by omega) (by omega) (by omega) hcl hau hac hsc e114 ?_ ((o1' _ _ (by omega)).trans w0) ((o1' _ _ (by omega)).trans w1) ((ot _ (by omega) _).trans m106) ((ot _ (by omega) _).trans m108) ((ot _ (by omega) _).trans m109)) (fun x y h => ?_)
        · rw [o1' 139 (4 * s + 3) (by omega), ot 116 (by omega)]
          exact (tol s hs).1 fa (by omega)
        · obtain ⟨h1, h2, h3⟩ := h
          unfold CKQ
          rw [h2, h3]
          refine ⟨h1, l1, o1', ⟨r1.trans rM, lM1.trans lM, fun q j y1 y2 => by rw [o2 q j (by omega) (by omega), oM q j y1]⟩, ?_, by rw [o2 57 82 (by omega) (by omega), e1, ti_sI_eq]⟩
          intro s' hs'
          by_cases c : s' = s
          · rw [c, o1' 139 (4 * s) (by omega), ot 113 (by omega)]
            exact ⟨⟨v0, v01⟩, e114, e115⟩
          · rw [o1' 139 _ (by omega), o1' 139 _ (by omega), o1' 139 _ (by omega), ot 113 (by omega), o2 114 s' (by omega) (by omega), o2 115 s' (by omega) (by omega), oM 114 s' (by omega), oM 115 s' (by omega)]
            exact srv s' hs'
      have same : HW (f_W_checked_B154 S (some 137) (some 139) (Int32.ofNat s) (Int32.ofNat t) (Int32.ofNat a) (Int32.ofNat ke)) (f_M_check_B168 m1 (some 57) (Int32.ofNat s) (Int32.ofNat t) (Int32.ofNat a)) (CKQ s S m) :=
        fin S m1 (LF_rf S) (fun _ _ _ => rfl) rfl rfl (fun _ _ _ _ => rfl) (v1.trans (oM 114 s (by omega)).symm) (by rw [oM 115 s (by omega)]; exact ⟨v2, vm⟩)
      have fetch : HW (f_W_checked_B90 S (some 127) (some 137) (some 138) (some 139) (Int32.ofNat s) (Int32.ofNat t) (Int32.ofNat a) (Int32.ofNat ke)) (f_M_check_B109 m1 (some 57) (Int32.ofNat s) (Int32.ofNat t) (Int32.ofNat a)) (CKQ s S m) := by
        unfold f_W_checked_B90 f_M_check_B109
        refine wm_of (st_gRe (hm1 67 114 rfl)) (wm_of (st_bIe js) ?_)
        obtain ⟨m2, e2⟩ : ∃ m2, m2 = wI m1 114 s 0 := ⟨_, rfl⟩
        rw [← e2]
        have o3 : ∀ q j, ¬ (q = 114 ∧ j = s) → sI m2 q j = sI m1 q j := fun q j y => by rw [e2, ti_sI_ne y]
        have r3 : sR m2 = sR m1 := by rw [e2]; rfl
        have l3 : sL m2 = sL m1 := by rw [e2]; rfl
        have kq : KP (sI m2 57 0).toInt m2 = KP (sI m 57 0).toInt m := by
          funext k
          unfold KP
          rw [o3 57 0 (by omega), o3 57 60 (by omega), o3 111 k (by omega), o3 112 k (by omega), oM 57 0 (by omega), oM 57 60 (by omega), oM 111 k (by omega), oM 112 k (by omega)]
        refine m_ck_L (nk := nk) (mm := m2) (MF_e hm1 r3) hs ((o3 57 60 (by omega)).trans ((oM 57 60 (by omega)).trans z5.2.1)) k10 (fun M r l o ea eb => ?_) 20 0 kr_FU m2 rfl rfl rfl (fun _ _ _ => rfl) (by rw [e2, ti_sI_eq]; rfl)
        refine w_ck_L lr' hs z5 now out (fin _ M (LF_w (LF_w (LF_rf S) (by decide)) (by decide)) (fun q j y => ?_) (r.trans r3) (l.trans l3) (fun q j y1 y2 => (o q j y1 y2).trans (o3 q j y1)) ?_ ?_) nk 0 kr_FU (Nat.zero_add _) ?_
        · rw [ti_sI_ne (by omega), ti_sI_ne (by omega)]
        · rw [ti_sI_ne (by omega), ti_sI_eq, ea, kq]
        · rw [ti_sI_eq, eb, o3 57 0 (by omega), oM 57 0 (by omega)]
          exact now
        · exact Nat.lt_of_le_of_lt k10 (by decide)
      refine w_aIe r139 (n := 4 * s) (wmul 4 s) (by omega) v0 ?_
      refine wm_of (st_gRe (hm1 66 113 rfl)) (wm_of (st_aIe js (oM 113 s (by omega))) ?_)
      by_cases c3 : sI m 113 s = 0
      · refine w_T c3 (wm_of (st_T c3) ?_)
        refine w_aIe r139 (n := 4 * s + 2) (wix 4 s 2) (by omega) v2 (w_aIe r127 (n := 0) rfl (by decide) now.1 ?_)
        refine wm_of (st_gIe (oM 57 0 (by omega))) (wm_of (st_gRe (hm1 68 115 rfl)) (wm_of (st_aIe js (oM 115 s (by omega))) ?_))
        by_cases c4 : (15 : Int32) < sI m 57 0 - sI m 115 s
        · exact w_T ((cmp15 vm now.2).mpr c4) (wm_of (st_T c4) fetch)
        · refine w_F (fun q => c4 ((cmp15 vm now.2).mp q)) (wm_of (st_F c4) ?_)
          refine w_aIe r139 (n := 4 * s + 1) (wix 4 s 1) (by omega) v1 ?_
          refine wm_of (st_gRe (hm1 67 114 rfl)) (wm_of (st_aIe js (oM 114 s (by omega))) (wm_of (st_gRe (hm1 58 109 rfl)) (wm_of (st_aIe jt ((oM _ _ (by omega)).trans m109)) ?_)))
          by_cases c5 : ((sI m 114 s >>> (Int32.ofNat ke &&& 31)) &&& (1 : Int32)) = 0
          · exact w_T c5 (wm_of (st_T c5) fetch)
          · exact w_F c5 (wm_of (st_F c5) same)
      · exact w_F c3 (wm_of (st_F c3) same)
    · exact w_F c2 (wm_of (st_F c2) (w_ret (keep 2)))
  · exact w_F c1 (wm_of (st_F c1) (w_ret (keep 1)))
end
