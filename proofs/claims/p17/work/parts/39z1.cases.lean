/-! ===== one lemma for each call of the law ===== -/
theorem c_pass {X : Nat → Int32} {L : Nat} {k : AS → Option Nat → Option Nat → Option Nat → Int32 → Option (Int32 × AS)} {Q : Int32 × AS → Prop} {n : Nat} {S : AS} {x : Int32} (hL : L ≤ 3072) (h0 : 0 ≤ x.toInt) (h6 : x.toInt + 6 ≤ (L : Int)) (hn : n ≤ 600) (hw : LW n S) (hk : ∀ S', LW (n + 1) S' → Ho (k S' (some 4) (some 57) (some 126) (x + 6)) Q) : Ho (f_W_law_B260 X L k S (some 4) (some 57) (some 126) x) Q := by
  obtain ⟨T, hI, t1, t2, t3, hr⟩ := hw
  unfold f_W_law_B260
  refine r_sx (sx_ok hL h0 h6 1 (by decide)) (fun v2 q2 => ?_)
  refine r_b2 (ho_eqn (w_pass hI.1 t1 t3)) (fun v4 S3 p => ?_)
  obtain ⟨e1, T1, g1⟩ := p
  have g1 : Rl T (99999 :: kw_K41) S 10 700 T1 S3 := g1
  have f1 := FT_fr hI.2.2.2.1 g1 (by decide +kernel)
  have i1 := IV_K hI g1 t2 (by decide +kernel)
  refine r_sx (sx_ok hL h0 h6 1 (by decide)) (fun v5 q5 => ?_)
  rw [sx_v q2 q5]
  refine r_rv g1.1 (t2.up g1.ty) rfl ?_
  refine r_b2 (ho_eqn (mm_pass g1.1 (t2.up g1.ty) i1.1 (by have := i1.2; omega))) (fun v8 S7 p2 => ?_)
  obtain ⟨e2, g2, m2⟩ := p2
  obtain ⟨th, an, rp⟩ := pf_pass hI hn hr e1 g1 e2 g2
  exact (hk _ (LW_M hI t1 t2 t3 g1 i1.2 f1 g2 m2 rp (by decide +kernel)))
theorem c_enroll {X : Nat → Int32} {L : Nat} {k : AS → Option Nat → Option Nat → Option Nat → Int32 → Option (Int32 × AS)} {Q : Int32 × AS → Prop} {n : Nat} {S : AS} {x : Int32} (hL : L ≤ 3072) (h0 : 0 ≤ x.toInt) (h6 : x.toInt + 6 ≤ (L : Int)) (hn : n ≤ 600) (hw : LW n S) (hk : ∀ S', LW (n + 1) S' → Ho (k S' (some 4) (some 57) (some 126) (x + 6)) Q) : Ho (f_W_law_B288 X L k S (some 4) (some 57) (some 126) x) Q := by
  obtain ⟨T, hI, t1, t2, t3, hr⟩ := hw
  unfold f_W_law_B288
  refine r_sx (sx_ok hL h0 h6 1 (by decide)) (fun v9 q9 => ?_)
  refine r_sx (sx_ok hL h0 h6 2 (by decide)) (fun v10 q10 => ?_)
  refine r_b2 (ho_eqn (w_enroll hI.1 t1 t3)) (fun v12 S11 p => ?_)
  obtain ⟨e1, T1, g1⟩ := p
  have g1 : Rl T (99999 :: kw_K11) S 10 700 T1 S11 := g1
  have f1 := FT_fr hI.2.2.2.1 g1 (by decide +kernel)
  have i1 := IV_K hI g1 t2 (by decide +kernel)
  refine r_sx (sx_ok hL h0 h6 1 (by decide)) (fun v13 q13 => ?_)
  rw [sx_v q9 q13]
  refine r_sx (sx_ok hL h0 h6 2 (by decide)) (fun v14 q14 => ?_)
  rw [sx_v q10 q14]
  refine r_rv g1.1 (t2.up g1.ty) rfl ?_
  refine r_b2 (ho_eqn (mm_enroll g1.1 (t2.up g1.ty) i1.1 (by have := i1.2; omega))) (fun v17 S16 p2 => ?_)
  obtain ⟨e2, g2, m2⟩ := p2
  obtain ⟨th, an, rp⟩ := pf_enroll hI hn hr e1 g1 e2 g2
  exact (hk _ (LW_M hI t1 t2 t3 g1 i1.2 f1 g2 m2 rp (by decide +kernel)))
theorem c_factor {X : Nat → Int32} {L : Nat} {k : AS → Option Nat → Option Nat → Option Nat → Int32 → Option (Int32 × AS)} {Q : Int32 × AS → Prop} {n : Nat} {S : AS} {x : Int32} (hL : L ≤ 3072) (h0 : 0 ≤ x.toInt) (h6 : x.toInt + 6 ≤ (L : Int)) (hn : n ≤ 600) (hw : LW n S) (hk : ∀ S', LW (n + 1) S' → Ho (k S' (some 4) (some 57) (some 126) (x + 6)) Q) : Ho (f_W_law_B328 X L k S (some 4) (some 57) (some 126) x) Q := by
  obtain ⟨T, hI, t1, t2, t3, hr⟩ := hw
  unfold f_W_law_B328
  refine r_sx (sx_ok hL h0 h6 1 (by decide)) (fun v18 q18 => ?_)
  refine r_sx (sx_ok hL h0 h6 2 (by decide)) (fun v19 q19 => ?_)
  refine r_b2 (ho_eqn (w_factor hI.1 t1 t3)) (fun v21 S20 p => ?_)
  obtain ⟨e1, T1, g1⟩ := p
  have g1 : Rl T (99999 :: []) S 10 700 T1 S20 := g1
  have f1 := FT_fr hI.2.2.2.1 g1 (by decide +kernel)
  have i1 := IV_K hI g1 t2 (by decide +kernel)
  refine r_sx (sx_ok hL h0 h6 1 (by decide)) (fun v22 q22 => ?_)
  rw [sx_v q18 q22]
  refine r_sx (sx_ok hL h0 h6 2 (by decide)) (fun v23 q23 => ?_)
  rw [sx_v q19 q23]
  refine r_rv g1.1 (t2.up g1.ty) rfl ?_
  refine r_b2 (ho_eqn (mm_factor g1.1 (t2.up g1.ty) i1.1 (by have := i1.2; omega))) (fun v26 S25 p2 => ?_)
  obtain ⟨e2, g2, m2⟩ := p2
  obtain ⟨th, an, rp⟩ := pf_factor hI hn hr e1 g1 e2 g2
  exact (hk _ (LW_M hI t1 t2 t3 g1 i1.2 f1 g2 m2 rp (by decide +kernel)))
theorem c_step {X : Nat → Int32} {L : Nat} {k : AS → Option Nat → Option Nat → Option Nat → Int32 → Option (Int32 × AS)} {Q : Int32 × AS → Prop} {n : Nat} {S : AS} {x : Int32} (hL : L ≤ 3072) (h0 : 0 ≤ x.toInt) (h6 : x.toInt + 6 ≤ (L : Int)) (hn : n ≤ 600) (hw : LW n S) (hk : ∀ S', LW (n + 1) S' → Ho (k S' (some 4) (some 57) (some 126) (x + 6)) Q) : Ho (f_W_law_B368 X L k S (some 4) (some 57) (some 126) x) Q := by
  obtain ⟨T, hI, t1, t2, t3, hr⟩ := hw
  unfold f_W_law_B368
  refine r_sx (sx_ok hL h0 h6 1 (by decide)) (fun v27 q27 => ?_)
  refine r_sx (sx_ok hL h0 h6 2 (by decide)) (fun v28 q28 => ?_)
  refine r_sx (sx_ok hL h0 h6 3 (by decide)) (fun v29 q29 => ?_)
  refine r_sx (sx_ok hL h0 h6 4 (by decide)) (fun v30 q30 => ?_)
  refine r_sx (sx_ok hL h0 h6 5 (by decide)) (fun v31 q31 => ?_)
  refine r_b2 (ho_eqn (w_step hI.1 t1 t3)) (fun v33 S32 p => ?_)
  obtain ⟨e1, T1, g1⟩ := p
  have g1 : Rl T (99999 :: kw_K13) S 10 700 T1 S32 := g1
  have f1 := FT_fr hI.2.2.2.1 g1 (by decide +kernel)
  have i1 := IV_K hI g1 t2 (by decide +kernel)
  refine r_sx (sx_ok hL h0 h6 1 (by decide)) (fun v34 q34 => ?_)
  rw [sx_v q27 q34]
  refine r_sx (sx_ok hL h0 h6 2 (by decide)) (fun v35 q35 => ?_)
  rw [sx_v q28 q35]
  refine r_sx (sx_ok hL h0 h6 3 (by decide)) (fun v36 q36 => ?_)
  rw [sx_v q29 q36]
  refine r_sx (sx_ok hL h0 h6 4 (by decide)) (fun v37 q37 => ?_)
  rw [sx_v q30 q37]
  refine r_sx (sx_ok hL h0 h6 5 (by decide)) (fun v38 q38 => ?_)
  rw [sx_v q31 q38]
  refine r_rv g1.1 (t2.up g1.ty) rfl ?_
  refine r_b2 (ho_eqn (mm_step g1.1 (t2.up g1.ty) i1.1 (by have := i1.2; omega))) (fun v41 S40 p2 => ?_)
  obtain ⟨e2, g2, m2⟩ := p2
  obtain ⟨th, an, rp⟩ := pr_step hI hr e1 g1 e2 g2
  exact (hk _ (LW_M hI t1 t2 t3 g1 i1.2 f1 g2 m2 rp (by decide +kernel)))
theorem c_clear {X : Nat → Int32} {L : Nat} {k : AS → Option Nat → Option Nat → Option Nat → Int32 → Option (Int32 × AS)} {Q : Int32 × AS → Prop} {n : Nat} {S : AS} {x : Int32} (hL : L ≤ 3072) (h0 : 0 ≤ x.toInt) (h6 : x.toInt + 6 ≤ (L : Int)) (hn : n ≤ 600) (hw : LW n S) (hk : ∀ S', LW (n + 1) S' → Ho (k S' (some 4) (some 57) (some 126) (x + 6)) Q) : Ho (f_W_law_B444 X L k S (some 4) (some 57) (some 126) x) Q := by
  obtain ⟨T, hI, t1, t2, t3, hr⟩ := hw
  unfold f_W_law_B444
  refine r_rv hI.1 t1 rfl ?_
  refine r_b2 (ho_eqn (t_K_clear hI.1 t1)) (fun v44 S43 p => ?_)
  obtain ⟨e1, e, -⟩ := p
  have g1 := Rlweak (c' := 10) (s' := 700) e (fun _ z => List.mem_cons_of_mem 99999 z) (by decide) (by decide)
  have f1 := FT_fr hI.2.2.2.1 g1 (by decide +kernel)
  have i1 := IV_K hI g1 t2 (by decide +kernel)
  refine r_rv g1.1 (t2.up g1.ty) rfl ?_
  refine r_b2 (ho_eqn (mm_clear g1.1 (t2.up g1.ty) i1.1 (by have := i1.2; omega))) (fun v47 S46 p2 => ?_)
  obtain ⟨e2, g2, m2⟩ := p2
  obtain ⟨an, rp⟩ := pr_clear hI hr e1 g1 e2 g2
  exact (hk _ (LW_M hI t1 t2 t3 g1 i1.2 f1 g2 m2 rp (by decide +kernel)))
theorem c_publish {X : Nat → Int32} {L : Nat} {k : AS → Option Nat → Option Nat → Option Nat → Int32 → Option (Int32 × AS)} {Q : Int32 × AS → Prop} {n : Nat} {S : AS} {x : Int32} (hL : L ≤ 3072) (h0 : 0 ≤ x.toInt) (h6 : x.toInt + 6 ≤ (L : Int)) (hn : n ≤ 600) (hw : LW n S) (hk : ∀ S', LW (n + 1) S' → Ho (k S' (some 4) (some 57) (some 126) (x + 6)) Q) : Ho (f_W_law_B457 X L k S (some 4) (some 57) (some 126) x) Q := by
  obtain ⟨T, hI, t1, t2, t3, hr⟩ := hw
  unfold f_W_law_B457
  refine r_b2 (ho_eqn (w_publish hI.1 t1 t3)) (fun v49 S48 p => ?_)
  obtain ⟨e1, T1, g1⟩ := p
  have g1 : Rl T (99999 :: kw_K44) S 10 700 T1 S48 := g1
  have f1 := FT_fr hI.2.2.2.1 g1 (by decide +kernel)
  have i1 := IV_K hI g1 t2 (by decide +kernel)
  refine r_rv g1.1 (t2.up g1.ty) rfl ?_
  refine r_b2 (ho_eqn (mm_publish g1.1 (t2.up g1.ty) i1.1 (by have := i1.2; omega))) (fun v52 S51 p2 => ?_)
  obtain ⟨e2, g2, m2⟩ := p2
  obtain ⟨th, an, rp⟩ := pr_publish hI hr e1 g1 e2 g2
  exact (hk _ (LW_M hI t1 t2 t3 g1 i1.2 f1 g2 m2 rp (by decide +kernel)))
theorem c_weakest {X : Nat → Int32} {L : Nat} {k : AS → Option Nat → Option Nat → Option Nat → Int32 → Option (Int32 × AS)} {Q : Int32 × AS → Prop} {n : Nat} {S : AS} {x : Int32} (hL : L ≤ 3072) (h0 : 0 ≤ x.toInt) (h6 : x.toInt + 6 ≤ (L : Int)) (hn : n ≤ 600) (hw : LW n S) (hk : ∀ S', LW (n + 1) S' → Ho (k S' (some 4) (some 57) (some 126) (x + 6)) Q) : Ho (f_W_law_B473 X L k S (some 4) (some 57) (some 126) x) Q := by
  obtain ⟨T, hI, t1, t2, t3, hr⟩ := hw
  unfold f_W_law_B473
  refine r_sx (sx_ok hL h0 h6 1 (by decide)) (fun v53 q53 => ?_)
  refine r_b2 (ho_eqn (w_weakest hI.1 t1 t3)) (fun v55 S54 p => ?_)
  obtain ⟨e1, T1, g1⟩ := p
  have g1 : Rl T (99999 :: kw_K14) S 10 700 T1 S54 := g1
  have f1 := FT_fr hI.2.2.2.1 g1 (by decide +kernel)
  have i1 := IV_K hI g1 t2 (by decide +kernel)
  refine r_sx (sx_ok hL h0 h6 1 (by decide)) (fun v56 q56 => ?_)
  rw [sx_v q53 q56]
  refine r_rv g1.1 (t2.up g1.ty) rfl ?_
  refine r_b2 (ho_eqn (mm_weakest g1.1 (t2.up g1.ty) i1.1 (by have := i1.2; omega))) (fun v59 S58 p2 => ?_)
  obtain ⟨e2, g2, m2⟩ := p2
  obtain ⟨th, an, rp⟩ := pf_weakest hI hn hr e1 g1 e2 g2
  exact (hk _ (LW_M hI t1 t2 t3 g1 i1.2 f1 g2 m2 rp (by decide +kernel)))
theorem c_points {X : Nat → Int32} {L : Nat} {k : AS → Option Nat → Option Nat → Option Nat → Int32 → Option (Int32 × AS)} {Q : Int32 × AS → Prop} {n : Nat} {S : AS} {x : Int32} (hL : L ≤ 3072) (h0 : 0 ≤ x.toInt) (h6 : x.toInt + 6 ≤ (L : Int)) (hn : n ≤ 600) (hw : LW n S) (hk : ∀ S', LW (n + 1) S' → Ho (k S' (some 4) (some 57) (some 126) (x + 6)) Q) : Ho (f_W_law_B501 X L k S (some 4) (some 57) (some 126) x) Q := by
  obtain ⟨T, hI, t1, t2, t3, hr⟩ := hw
  unfold f_W_law_B501
  refine r_sx (sx_ok hL h0 h6 1 (by decide)) (fun v68 q68 => ?_)
  refine r_sx (sx_ok hL h0 h6 2 (by decide)) (fun v69 q69 => ?_)
  refine r_sx (sx_ok hL h0 h6 3 (by decide)) (fun v70 q70 => ?_)
  refine r_if (fun cv70 => ?_) (fun cv70 => ?_)
  · skip
    unfold f_W_law_B528
    refine r_b2 (ho_eqn (w_points hI.1 t1 t3)) (fun v64 S63 p => ?_)
    obtain ⟨e1, T1, g1⟩ := p
    have g1 : Rl T (99999 :: kw_K47) S 10 700 T1 S63 := g1
    have f1 := FT_fr hI.2.2.2.1 g1 (by decide +kernel)
    have i1 := IV_K hI g1 t2 (by decide +kernel)
    refine r_sx (sx_ok hL h0 h6 1 (by decide)) (fun v65 q65 => ?_)
    rw [sx_v q68 q65]
    refine r_sx (sx_ok hL h0 h6 2 (by decide)) (fun v66 q66 => ?_)
    rw [sx_v q69 q66]
    refine r_sx (sx_ok hL h0 h6 3 (by decide)) (fun v67 q67 => ?_)
    rw [sx_v q70 q67]
    refine r_ifT cv70 ?_
    unfold f_W_law_B561
    refine r_rv g1.1 (t2.up g1.ty) rfl ?_
    refine r_b2 (ho_eqn (mm_points g1.1 (t2.up g1.ty) i1.1 (by have := i1.2; omega))) (fun v62 S61 p2 => ?_)
    obtain ⟨e2, g2, m2⟩ := p2
    obtain ⟨th, an, rp⟩ := pf_points hI hn hr e1 g1 e2 g2
    exact (hk _ (LW_M hI t1 t2 t3 g1 i1.2 f1 g2 m2 rp (by decide +kernel)))
  · skip
    unfold f_W_law_B528
    refine r_b2 (ho_eqn (w_points hI.1 t1 t3)) (fun v64 S63 p => ?_)
    obtain ⟨e1, T1, g1⟩ := p
    have g1 : Rl T (99999 :: kw_K47) S 10 700 T1 S63 := g1
    have f1 := FT_fr hI.2.2.2.1 g1 (by decide +kernel)
    have i1 := IV_K hI g1 t2 (by decide +kernel)
    refine r_sx (sx_ok hL h0 h6 1 (by decide)) (fun v65 q65 => ?_)
    rw [sx_v q68 q65]
    refine r_sx (sx_ok hL h0 h6 2 (by decide)) (fun v66 q66 => ?_)
    rw [sx_v q69 q66]
    refine r_sx (sx_ok hL h0 h6 3 (by decide)) (fun v67 q67 => ?_)
    rw [sx_v q70 q67]
    refine r_ifF cv70 ?_
    unfold f_W_law_B561
    refine r_rv g1.1 (t2.up g1.ty) rfl ?_
    refine r_b2 (ho_eqn (mm_points g1.1 (t2.up g1.ty) i1.1 (by have := i1.2; omega))) (fun v62 S61 p2 => ?_)
    obtain ⟨e2, g2, m2⟩ := p2
    obtain ⟨th, an, rp⟩ := pf_points hI hn hr e1 g1 e2 g2
    exact (hk _ (LW_M hI t1 t2 t3 g1 i1.2 f1 g2 m2 rp (by decide +kernel)))
theorem c_begin {X : Nat → Int32} {L : Nat} {k : AS → Option Nat → Option Nat → Option Nat → Int32 → Option (Int32 × AS)} {Q : Int32 × AS → Prop} {n : Nat} {S : AS} {x : Int32} (hL : L ≤ 3072) (h0 : 0 ≤ x.toInt) (h6 : x.toInt + 6 ≤ (L : Int)) (hn : n ≤ 600) (hw : LW n S) (hk : ∀ S', LW (n + 1) S' → Ho (k S' (some 4) (some 57) (some 126) (x + 6)) Q) : Ho (f_W_law_B569 X L k S (some 4) (some 57) (some 126) x) Q := by
  obtain ⟨T, hI, t1, t2, t3, hr⟩ := hw
  unfold f_W_law_B569
  refine r_sx (sx_ok hL h0 h6 1 (by decide)) (fun v71 q71 => ?_)
  refine r_sx (sx_ok hL h0 h6 2 (by decide)) (fun v72 q72 => ?_)
  refine r_sx (sx_ok hL h0 h6 3 (by decide)) (fun v73 q73 => ?_)
  refine r_b2 (ho_eqn (w_begin hI.1 t1 t3)) (fun v75 S74 p => ?_)
  obtain ⟨e1, T1, g1⟩ := p
  have g1 : Rl T (99999 :: kw_K57) S 10 700 T1 S74 := g1
  have f1 := FT_fr hI.2.2.2.1 g1 (by decide +kernel)
  have i1 := IV_K hI g1 t2 (by decide +kernel)
  refine r_sx (sx_ok hL h0 h6 1 (by decide)) (fun v76 q76 => ?_)
  rw [sx_v q71 q76]
  refine r_sx (sx_ok hL h0 h6 2 (by decide)) (fun v77 q77 => ?_)
  rw [sx_v q72 q77]
  refine r_sx (sx_ok hL h0 h6 3 (by decide)) (fun v78 q78 => ?_)
  rw [sx_v q73 q78]
  refine r_rv g1.1 (t2.up g1.ty) rfl ?_
  refine r_b2 (ho_eqn (mm_begin g1.1 (t2.up g1.ty) i1.1 (by have := i1.2; omega))) (fun v81 S80 p2 => ?_)
  obtain ⟨e2, g2, m2⟩ := p2
  obtain ⟨th, an, rp⟩ := pf_begin hI hn hr e1 g1 e2 g2
  exact (hk _ (LW_M hI t1 t2 t3 g1 i1.2 f1 g2 m2 rp (by decide +kernel)))
theorem c_answer {X : Nat → Int32} {L : Nat} {k : AS → Option Nat → Option Nat → Option Nat → Int32 → Option (Int32 × AS)} {Q : Int32 × AS → Prop} {n : Nat} {S : AS} {x : Int32} (hL : L ≤ 3072) (h0 : 0 ≤ x.toInt) (h6 : x.toInt + 6 ≤ (L : Int)) (hn : n ≤ 600) (hw : LW n S) (hk : ∀ S', LW (n + 1) S' → Ho (k S' (some 4) (some 57) (some 126) (x + 6)) Q) : Ho (f_W_law_B621 X L k S (some 4) (some 57) (some 126) x) Q := by
  obtain ⟨T, hI, t1, t2, t3, hr⟩ := hw
  unfold f_W_law_B621
  refine r_sx (sx_ok hL h0 h6 1 (by decide)) (fun v91 q91 => ?_)
  refine r_sx (sx_ok hL h0 h6 2 (by decide)) (fun v92 q92 => ?_)
  refine r_if (fun cv92 => ?_) (fun cv92 => ?_)
  · skip
    unfold f_W_law_B642
    refine r_sx (sx_ok hL h0 h6 3 (by decide)) (fun v86 q86 => ?_)
    refine r_b2 (ho_eqn (w_answer hI.1 t1 t3)) (fun v88 S87 p => ?_)
    obtain ⟨e1, T1, g1⟩ := p
    have g1 : Rl T (99999 :: kw_K63) S 10 700 T1 S87 := g1
    have f1 := FT_fr hI.2.2.2.1 g1 (by decide +kernel)
    have i1 := IV_K hI g1 t2 (by decide +kernel)
    refine r_sx (sx_ok hL h0 h6 1 (by decide)) (fun v89 q89 => ?_)
    rw [sx_v q91 q89]
    refine r_sx (sx_ok hL h0 h6 2 (by decide)) (fun v90 q90 => ?_)
    rw [sx_v q92 q90]
    refine r_ifT cv92 ?_
    unfold f_W_law_B675
    refine r_sx (sx_ok hL h0 h6 3 (by decide)) (fun v82 q82 => ?_)
    rw [sx_v q86 q82]
    refine r_rv g1.1 (t2.up g1.ty) rfl ?_
    refine r_b2 (ho_eqn (mm_answer g1.1 (t2.up g1.ty) i1.1 (by have := i1.2; omega))) (fun v85 S84 p2 => ?_)
    obtain ⟨e2, g2, m2⟩ := p2
    obtain ⟨th, an, rp⟩ := pf_answer hI hn hr e1 g1 e2 g2
    exact (hk _ (LW_M hI t1 t2 t3 g1 i1.2 f1 g2 m2 rp (by decide +kernel)))
  · skip
    unfold f_W_law_B642
    refine r_sx (sx_ok hL h0 h6 3 (by decide)) (fun v86 q86 => ?_)
    refine r_b2 (ho_eqn (w_answer hI.1 t1 t3)) (fun v88 S87 p => ?_)
    obtain ⟨e1, T1, g1⟩ := p
    have g1 : Rl T (99999 :: kw_K63) S 10 700 T1 S87 := g1
    have f1 := FT_fr hI.2.2.2.1 g1 (by decide +kernel)
    have i1 := IV_K hI g1 t2 (by decide +kernel)
    refine r_sx (sx_ok hL h0 h6 1 (by decide)) (fun v89 q89 => ?_)
    rw [sx_v q91 q89]
    refine r_sx (sx_ok hL h0 h6 2 (by decide)) (fun v90 q90 => ?_)
    rw [sx_v q92 q90]
    refine r_ifF cv92 ?_
    unfold f_W_law_B675
    refine r_sx (sx_ok hL h0 h6 3 (by decide)) (fun v82 q82 => ?_)
    rw [sx_v q86 q82]
    refine r_rv g1.1 (t2.up g1.ty) rfl ?_
    refine r_b2 (ho_eqn (mm_answer g1.1 (t2.up g1.ty) i1.1 (by have := i1.2; omega))) (fun v85 S84 p2 => ?_)
    obtain ⟨e2, g2, m2⟩ := p2
    obtain ⟨th, an, rp⟩ := pf_answer hI hn hr e1 g1 e2 g2
    exact (hk _ (LW_M hI t1 t2 t3 g1 i1.2 f1 g2 m2 rp (by decide +kernel)))
theorem c_state {X : Nat → Int32} {L : Nat} {k : AS → Option Nat → Option Nat → Option Nat → Int32 → Option (Int32 × AS)} {Q : Int32 × AS → Prop} {n : Nat} {S : AS} {x : Int32} (hL : L ≤ 3072) (h0 : 0 ≤ x.toInt) (h6 : x.toInt + 6 ≤ (L : Int)) (hn : n ≤ 600) (hw : LW n S) (hk : ∀ S', LW (n + 1) S' → Ho (k S' (some 4) (some 57) (some 126) (x + 6)) Q) : Ho (f_W_law_B689 X L k S (some 4) (some 57) (some 126) x) Q := by
  obtain ⟨T, hI, t1, t2, t3, hr⟩ := hw
  unfold f_W_law_B689
  refine r_sx (sx_ok hL h0 h6 1 (by decide)) (fun v93 q93 => ?_)
  refine r_b2 (ho_eqn (w_state hI.1 t1 t3)) (fun v95 S94 p => ?_)
  obtain ⟨e1, T1, g1⟩ := p
  have g1 : Rl T (99999 :: []) S 10 700 T1 S94 := g1
  have f1 := FT_fr hI.2.2.2.1 g1 (by decide +kernel)
  have i1 := IV_K hI g1 t2 (by decide +kernel)
  refine r_sx (sx_ok hL h0 h6 1 (by decide)) (fun v96 q96 => ?_)
  rw [sx_v q93 q96]
  refine r_rv g1.1 (t2.up g1.ty) rfl ?_
  refine r_b2 (ho_eqn (mm_state g1.1 (t2.up g1.ty) i1.1 (by have := i1.2; omega))) (fun v99 S98 p2 => ?_)
  obtain ⟨e2, g2, m2⟩ := p2
  obtain ⟨th, an, rp⟩ := pf_state hI hn hr e1 g1 e2 g2
  exact (hk _ (LW_M hI t1 t2 t3 g1 i1.2 f1 g2 m2 rp (by decide +kernel)))
theorem c_asked {X : Nat → Int32} {L : Nat} {k : AS → Option Nat → Option Nat → Option Nat → Int32 → Option (Int32 × AS)} {Q : Int32 × AS → Prop} {n : Nat} {S : AS} {x : Int32} (hL : L ≤ 3072) (h0 : 0 ≤ x.toInt) (h6 : x.toInt + 6 ≤ (L : Int)) (hn : n ≤ 600) (hw : LW n S) (hk : ∀ S', LW (n + 1) S' → Ho (k S' (some 4) (some 57) (some 126) (x + 6)) Q) : Ho (f_W_law_B717 X L k S (some 4) (some 57) (some 126) x) Q := by
  obtain ⟨T, hI, t1, t2, t3, hr⟩ := hw
  unfold f_W_law_B717
  refine r_sx (sx_ok hL h0 h6 1 (by decide)) (fun v100 q100 => ?_)
  refine r_b2 (ho_eqn (w_asked hI.1 t1 t3)) (fun v102 S101 p => ?_)
  obtain ⟨e1, T1, g1⟩ := p
  have g1 : Rl T (99999 :: []) S 10 700 T1 S101 := g1
  have f1 := FT_fr hI.2.2.2.1 g1 (by decide +kernel)
  have i1 := IV_K hI g1 t2 (by decide +kernel)
  refine r_sx (sx_ok hL h0 h6 1 (by decide)) (fun v103 q103 => ?_)
  rw [sx_v q100 q103]
  refine r_rv g1.1 (t2.up g1.ty) rfl ?_
  refine r_b2 (ho_eqn (mm_asked g1.1 (t2.up g1.ty) i1.1 (by have := i1.2; omega))) (fun v106 S105 p2 => ?_)
  obtain ⟨e2, g2, m2⟩ := p2
  obtain ⟨th, an, rp⟩ := pf_asked hI hn hr e1 g1 e2 g2
  exact (hk _ (LW_M hI t1 t2 t3 g1 i1.2 f1 g2 m2 rp (by decide +kernel)))
theorem c_sessionOf {X : Nat → Int32} {L : Nat} {k : AS → Option Nat → Option Nat → Option Nat → Int32 → Option (Int32 × AS)} {Q : Int32 × AS → Prop} {n : Nat} {S : AS} {x : Int32} (hL : L ≤ 3072) (h0 : 0 ≤ x.toInt) (h6 : x.toInt + 6 ≤ (L : Int)) (hn : n ≤ 600) (hw : LW n S) (hk : ∀ S', LW (n + 1) S' → Ho (k S' (some 4) (some 57) (some 126) (x + 6)) Q) : Ho (f_W_law_B745 X L k S (some 4) (some 57) (some 126) x) Q := by
  obtain ⟨T, hI, t1, t2, t3, hr⟩ := hw
  unfold f_W_law_B745
  refine r_sx (sx_ok hL h0 h6 1 (by decide)) (fun v107 q107 => ?_)
  refine r_b2 (ho_eqn (w_sessionOf hI.1 t1 t3)) (fun v109 S108 p => ?_)
  obtain ⟨e1, T1, g1⟩ := p
  have g1 : Rl T (99999 :: []) S 10 700 T1 S108 := g1
  have f1 := FT_fr hI.2.2.2.1 g1 (by decide +kernel)
  have i1 := IV_K hI g1 t2 (by decide +kernel)
  refine r_sx (sx_ok hL h0 h6 1 (by decide)) (fun v110 q110 => ?_)
  rw [sx_v q107 q110]
  refine r_rv g1.1 (t2.up g1.ty) rfl ?_
  refine r_b2 (ho_eqn (mm_sessionOf g1.1 (t2.up g1.ty) i1.1 (by have := i1.2; omega))) (fun v113 S112 p2 => ?_)
  obtain ⟨e2, g2, m2⟩ := p2
  obtain ⟨th, an, rp⟩ := pf_sessionOf hI hn hr e1 g1 e2 g2
  exact (hk _ (LW_M hI t1 t2 t3 g1 i1.2 f1 g2 m2 rp (by decide +kernel)))
theorem c_risk {X : Nat → Int32} {L : Nat} {k : AS → Option Nat → Option Nat → Option Nat → Int32 → Option (Int32 × AS)} {Q : Int32 × AS → Prop} {n : Nat} {S : AS} {x : Int32} (hL : L ≤ 3072) (h0 : 0 ≤ x.toInt) (h6 : x.toInt + 6 ≤ (L : Int)) (hn : n ≤ 600) (hw : LW n S) (hk : ∀ S', LW (n + 1) S' → Ho (k S' (some 4) (some 57) (some 126) (x + 6)) Q) : Ho (f_W_law_B773 X L k S (some 4) (some 57) (some 126) x) Q := by
  obtain ⟨T, hI, t1, t2, t3, hr⟩ := hw
  unfold f_W_law_B773
  refine r_sx (sx_ok hL h0 h6 1 (by decide)) (fun v114 q114 => ?_)
  refine r_b2 (ho_eqn (w_risk hI.1 t1 t3)) (fun v116 S115 p => ?_)
  obtain ⟨e1, T1, g1⟩ := p
  have g1 : Rl T (99999 :: []) S 10 700 T1 S115 := g1
  have f1 := FT_fr hI.2.2.2.1 g1 (by decide +kernel)
  have i1 := IV_K hI g1 t2 (by decide +kernel)
  refine r_sx (sx_ok hL h0 h6 1 (by decide)) (fun v117 q117 => ?_)
  rw [sx_v q114 q117]
  refine r_rv g1.1 (t2.up g1.ty) rfl ?_
  refine r_b2 (ho_eqn (mm_risk g1.1 (t2.up g1.ty) i1.1 (by have := i1.2; omega))) (fun v120 S119 p2 => ?_)
  obtain ⟨e2, g2, m2⟩ := p2
  obtain ⟨th, an, rp⟩ := pf_risk hI hn hr e1 g1 e2 g2
  exact (hk _ (LW_M hI t1 t2 t3 g1 i1.2 f1 g2 m2 rp (by decide +kernel)))
theorem c_trialRisk {X : Nat → Int32} {L : Nat} {k : AS → Option Nat → Option Nat → Option Nat → Int32 → Option (Int32 × AS)} {Q : Int32 × AS → Prop} {n : Nat} {S : AS} {x : Int32} (hL : L ≤ 3072) (h0 : 0 ≤ x.toInt) (h6 : x.toInt + 6 ≤ (L : Int)) (hn : n ≤ 600) (hw : LW n S) (hk : ∀ S', LW (n + 1) S' → Ho (k S' (some 4) (some 57) (some 126) (x + 6)) Q) : Ho (f_W_law_B801 X L k S (some 4) (some 57) (some 126) x) Q := by
  obtain ⟨T, hI, t1, t2, t3, hr⟩ := hw
  unfold f_W_law_B801
  refine r_sx (sx_ok hL h0 h6 1 (by decide)) (fun v121 q121 => ?_)
  refine r_b2 (ho_eqn (w_trialRisk hI.1 t1 t3)) (fun v123 S122 p => ?_)
  obtain ⟨e1, T1, g1⟩ := p
  have g1 : Rl T (99999 :: []) S 10 700 T1 S122 := g1
  have f1 := FT_fr hI.2.2.2.1 g1 (by decide +kernel)
  have i1 := IV_K hI g1 t2 (by decide +kernel)
  refine r_sx (sx_ok hL h0 h6 1 (by decide)) (fun v124 q124 => ?_)
  rw [sx_v q121 q124]
  refine r_rv g1.1 (t2.up g1.ty) rfl ?_
  refine r_b2 (ho_eqn (mm_trialRisk g1.1 (t2.up g1.ty) i1.1 (by have := i1.2; omega))) (fun v127 S126 p2 => ?_)
  obtain ⟨e2, g2, m2⟩ := p2
  obtain ⟨th, an, rp⟩ := pf_trialRisk hI hn hr e1 g1 e2 g2
  exact (hk _ (LW_M hI t1 t2 t3 g1 i1.2 f1 g2 m2 rp (by decide +kernel)))
theorem c_sessions {X : Nat → Int32} {L : Nat} {k : AS → Option Nat → Option Nat → Option Nat → Int32 → Option (Int32 × AS)} {Q : Int32 × AS → Prop} {n : Nat} {S : AS} {x : Int32} (hL : L ≤ 3072) (h0 : 0 ≤ x.toInt) (h6 : x.toInt + 6 ≤ (L : Int)) (hn : n ≤ 600) (hw : LW n S) (hk : ∀ S', LW (n + 1) S' → Ho (k S' (some 4) (some 57) (some 126) (x + 6)) Q) : Ho (f_W_law_B829 X L k S (some 4) (some 57) (some 126) x) Q := by
  obtain ⟨T, hI, t1, t2, t3, hr⟩ := hw
  unfold f_W_law_B829
  refine r_rv hI.1 t1 rfl ?_
  refine r_b2 (ho_eqn (t_K_sessions hI.1 t1)) (fun v130 S129 p => ?_)
  obtain ⟨e1, e, -⟩ := p
  have e : S129 = S := e
  have g1 : Rl T (99999 :: []) S 10 700 T S129 := by
    rw [e]
    exact Rlweak (Rlrf hI.1) (fun _ z => List.mem_cons_of_mem _ z) (by decide) (by decide)
  have f1 := FT_fr hI.2.2.2.1 g1 (by decide +kernel)
  have i1 := IV_K hI g1 t2 (by decide +kernel)
  refine r_rv g1.1 (t2.up g1.ty) rfl ?_
  refine r_b2 (ho_eqn (mm_sessions g1.1 (t2.up g1.ty) i1.1 (by have := i1.2; omega))) (fun v133 S132 p2 => ?_)
  obtain ⟨e2, g2, m2⟩ := p2
  obtain ⟨an, rp⟩ := pf_sessions hI hn hr e1 g1 e2 g2
  exact r_ifT an (hk _ (LW_M hI t1 t2 t3 g1 i1.2 f1 g2 m2 rp (by decide +kernel)))
theorem c_isLive {X : Nat → Int32} {L : Nat} {k : AS → Option Nat → Option Nat → Option Nat → Int32 → Option (Int32 × AS)} {Q : Int32 × AS → Prop} {n : Nat} {S : AS} {x : Int32} (hL : L ≤ 3072) (h0 : 0 ≤ x.toInt) (h6 : x.toInt + 6 ≤ (L : Int)) (hn : n ≤ 600) (hw : LW n S) (hk : ∀ S', LW (n + 1) S' → Ho (k S' (some 4) (some 57) (some 126) (x + 6)) Q) : Ho (f_W_law_B842 X L k S (some 4) (some 57) (some 126) x) Q := by
  obtain ⟨T, hI, t1, t2, t3, hr⟩ := hw
  unfold f_W_law_B842
  refine r_sx (sx_ok hL h0 h6 1 (by decide)) (fun v134 q134 => ?_)
  refine r_b2 (ho_eqn (w_isLive hI.1 t1 t3)) (fun v136 S135 p => ?_)
  obtain ⟨e1, T1, g1⟩ := p
  have g1 : Rl T (99999 :: []) S 10 700 T1 S135 := g1
  have f1 := FT_fr hI.2.2.2.1 g1 (by decide +kernel)
  have i1 := IV_K hI g1 t2 (by decide +kernel)
  refine r_sx (sx_ok hL h0 h6 1 (by decide)) (fun v137 q137 => ?_)
  rw [sx_v q134 q137]
  refine r_rv g1.1 (t2.up g1.ty) rfl ?_
  refine r_b2 (ho_eqn (mm_isLive g1.1 (t2.up g1.ty) i1.1 (by have := i1.2; omega))) (fun v140 S139 p2 => ?_)
  obtain ⟨e2, g2, m2⟩ := p2
  obtain ⟨th, an, rp⟩ := pf_isLive hI hn hr e1 g1 e2 g2
  exact (hk _ (LW_M hI t1 t2 t3 g1 i1.2 f1 g2 m2 rp (by decide +kernel)))
theorem c_isLiveByAudit {X : Nat → Int32} {L : Nat} {k : AS → Option Nat → Option Nat → Option Nat → Int32 → Option (Int32 × AS)} {Q : Int32 × AS → Prop} {n : Nat} {S : AS} {x : Int32} (hL : L ≤ 3072) (h0 : 0 ≤ x.toInt) (h6 : x.toInt + 6 ≤ (L : Int)) (hn : n ≤ 600) (hw : LW n S) (hk : ∀ S', LW (n + 1) S' → Ho (k S' (some 4) (some 57) (some 126) (x + 6)) Q) : Ho (f_W_law_B870 X L k S (some 4) (some 57) (some 126) x) Q := by
  obtain ⟨T, hI, t1, t2, t3, hr⟩ := hw
  unfold f_W_law_B870
  refine r_sx (sx_ok hL h0 h6 1 (by decide)) (fun v141 q141 => ?_)
  refine r_b2 (ho_eqn (w_isLiveByAudit hI.1 t1 t3)) (fun v143 S142 p => ?_)
  obtain ⟨e1, T1, g1⟩ := p
  have g1 : Rl T (99999 :: []) S 10 700 T1 S142 := g1
  have f1 := FT_fr hI.2.2.2.1 g1 (by decide +kernel)
  have i1 := IV_K hI g1 t2 (by decide +kernel)
  refine r_sx (sx_ok hL h0 h6 1 (by decide)) (fun v144 q144 => ?_)
  rw [sx_v q141 q144]
  refine r_rv g1.1 (t2.up g1.ty) rfl ?_
  refine r_b2 (ho_eqn (mm_isLiveByAudit g1.1 (t2.up g1.ty) i1.1 (by have := i1.2; omega))) (fun v147 S146 p2 => ?_)
  obtain ⟨e2, g2, m2⟩ := p2
  obtain ⟨th, an, rp⟩ := pf_isLiveByAudit hI hn hr e1 g1 e2 g2
  exact (hk _ (LW_M hI t1 t2 t3 g1 i1.2 f1 g2 m2 rp (by decide +kernel)))
theorem c_level {X : Nat → Int32} {L : Nat} {k : AS → Option Nat → Option Nat → Option Nat → Int32 → Option (Int32 × AS)} {Q : Int32 × AS → Prop} {n : Nat} {S : AS} {x : Int32} (hL : L ≤ 3072) (h0 : 0 ≤ x.toInt) (h6 : x.toInt + 6 ≤ (L : Int)) (hn : n ≤ 600) (hw : LW n S) (hk : ∀ S', LW (n + 1) S' → Ho (k S' (some 4) (some 57) (some 126) (x + 6)) Q) : Ho (f_W_law_B898 X L k S (some 4) (some 57) (some 126) x) Q := by
  obtain ⟨T, hI, t1, t2, t3, hr⟩ := hw
  unfold f_W_law_B898
  refine r_sx (sx_ok hL h0 h6 1 (by decide)) (fun v148 q148 => ?_)
  refine r_b2 (ho_eqn (w_level hI.1 t1 t3)) (fun v150 S149 p => ?_)
  obtain ⟨e1, T1, g1⟩ := p
  have g1 : Rl T (99999 :: []) S 10 700 T1 S149 := g1
  have f1 := FT_fr hI.2.2.2.1 g1 (by decide +kernel)
  have i1 := IV_K hI g1 t2 (by decide +kernel)
  refine r_sx (sx_ok hL h0 h6 1 (by decide)) (fun v151 q151 => ?_)
  rw [sx_v q148 q151]
  refine r_rv g1.1 (t2.up g1.ty) rfl ?_
  refine r_b2 (ho_eqn (mm_level g1.1 (t2.up g1.ty) i1.1 (by have := i1.2; omega))) (fun v154 S153 p2 => ?_)
  obtain ⟨e2, g2, m2⟩ := p2
  obtain ⟨th, an, rp⟩ := pf_level hI hn hr e1 g1 e2 g2
  exact (hk _ (LW_M hI t1 t2 t3 g1 i1.2 f1 g2 m2 rp (by decide +kernel)))
theorem c_stepUp {X : Nat → Int32} {L : Nat} {k : AS → Option Nat → Option Nat → Option Nat → Int32 → Option (Int32 × AS)} {Q : Int32 × AS → Prop} {n : Nat} {S : AS} {x : Int32} (hL : L ≤ 3072) (h0 : 0 ≤ x.toInt) (h6 : x.toInt + 6 ≤ (L : Int)) (hn : n ≤ 600) (hw : LW n S) (hk : ∀ S', LW (n + 1) S' → Ho (k S' (some 4) (some 57) (some 126) (x + 6)) Q) : Ho (f_W_law_B926 X L k S (some 4) (some 57) (some 126) x) Q := by
  obtain ⟨T, hI, t1, t2, t3, hr⟩ := hw
  unfold f_W_law_B926
  refine r_sx (sx_ok hL h0 h6 1 (by decide)) (fun v165 q165 => ?_)
  refine r_sx (sx_ok hL h0 h6 2 (by decide)) (fun v166 q166 => ?_)
  refine r_sx (sx_ok hL h0 h6 3 (by decide)) (fun v167 q167 => ?_)
  refine r_if (fun cv167 => ?_) (fun cv167 => ?_)
  · skip
    unfold f_W_law_B953
    refine r_sx (sx_ok hL h0 h6 4 (by decide)) (fun v159 q159 => ?_)
    refine r_b2 (ho_eqn (w_stepUp hI.1 t1 t3)) (fun v161 S160 p => ?_)
    obtain ⟨e1, T1, g1⟩ := p
    have g1 : Rl T (99999 :: kw_K67) S 10 700 T1 S160 := g1
    have f1 := FT_fr hI.2.2.2.1 g1 (by decide +kernel)
    have i1 := IV_K hI g1 t2 (by decide +kernel)
    refine r_sx (sx_ok hL h0 h6 1 (by decide)) (fun v162 q162 => ?_)
    rw [sx_v q165 q162]
    refine r_sx (sx_ok hL h0 h6 2 (by decide)) (fun v163 q163 => ?_)
    rw [sx_v q166 q163]
    refine r_sx (sx_ok hL h0 h6 3 (by decide)) (fun v164 q164 => ?_)
    rw [sx_v q167 q164]
    refine r_ifT cv167 ?_
    unfold f_W_law_B992
    refine r_sx (sx_ok hL h0 h6 4 (by decide)) (fun v155 q155 => ?_)
    rw [sx_v q159 q155]
    refine r_rv g1.1 (t2.up g1.ty) rfl ?_
    refine r_b2 (ho_eqn (mm_stepUp g1.1 (t2.up g1.ty) i1.1 (by have := i1.2; omega))) (fun v158 S157 p2 => ?_)
    obtain ⟨e2, g2, m2⟩ := p2
    obtain ⟨th, an, rp⟩ := pf_stepUp hI hn hr e1 g1 e2 g2
    exact (hk _ (LW_M hI t1 t2 t3 g1 i1.2 f1 g2 m2 rp (by decide +kernel)))
  · skip
    unfold f_W_law_B953
    refine r_sx (sx_ok hL h0 h6 4 (by decide)) (fun v159 q159 => ?_)
    refine r_b2 (ho_eqn (w_stepUp hI.1 t1 t3)) (fun v161 S160 p => ?_)
    obtain ⟨e1, T1, g1⟩ := p
    have g1 : Rl T (99999 :: kw_K67) S 10 700 T1 S160 := g1
    have f1 := FT_fr hI.2.2.2.1 g1 (by decide +kernel)
    have i1 := IV_K hI g1 t2 (by decide +kernel)
    refine r_sx (sx_ok hL h0 h6 1 (by decide)) (fun v162 q162 => ?_)
    rw [sx_v q165 q162]
    refine r_sx (sx_ok hL h0 h6 2 (by decide)) (fun v163 q163 => ?_)
    rw [sx_v q166 q163]
    refine r_sx (sx_ok hL h0 h6 3 (by decide)) (fun v164 q164 => ?_)
    rw [sx_v q167 q164]
    refine r_ifF cv167 ?_
    unfold f_W_law_B992
    refine r_sx (sx_ok hL h0 h6 4 (by decide)) (fun v155 q155 => ?_)
    rw [sx_v q159 q155]
    refine r_rv g1.1 (t2.up g1.ty) rfl ?_
    refine r_b2 (ho_eqn (mm_stepUp g1.1 (t2.up g1.ty) i1.1 (by have := i1.2; omega))) (fun v158 S157 p2 => ?_)
    obtain ⟨e2, g2, m2⟩ := p2
    obtain ⟨th, an, rp⟩ := pf_stepUp hI hn hr e1 g1 e2 g2
    exact (hk _ (LW_M hI t1 t2 t3 g1 i1.2 f1 g2 m2 rp (by decide +kernel)))
theorem c_signOut {X : Nat → Int32} {L : Nat} {k : AS → Option Nat → Option Nat → Option Nat → Int32 → Option (Int32 × AS)} {Q : Int32 × AS → Prop} {n : Nat} {S : AS} {x : Int32} (hL : L ≤ 3072) (h0 : 0 ≤ x.toInt) (h6 : x.toInt + 6 ≤ (L : Int)) (hn : n ≤ 600) (hw : LW n S) (hk : ∀ S', LW (n + 1) S' → Ho (k S' (some 4) (some 57) (some 126) (x + 6)) Q) : Ho (f_W_law_B1006 X L k S (some 4) (some 57) (some 126) x) Q := by
  obtain ⟨T, hI, t1, t2, t3, hr⟩ := hw
  unfold f_W_law_B1006
  refine r_sx (sx_ok hL h0 h6 1 (by decide)) (fun v168 q168 => ?_)
  refine r_b2 (ho_eqn (w_signOut hI.1 t1 t3)) (fun v170 S169 p => ?_)
  obtain ⟨e1, T1, g1⟩ := p
  have g1 : Rl T (99999 :: kw_K38) S 10 700 T1 S169 := g1
  have f1 := FT_fr hI.2.2.2.1 g1 (by decide +kernel)
  have i1 := IV_K hI g1 t2 (by decide +kernel)
  refine r_sx (sx_ok hL h0 h6 1 (by decide)) (fun v171 q171 => ?_)
  rw [sx_v q168 q171]
  refine r_rv g1.1 (t2.up g1.ty) rfl ?_
  refine r_b2 (ho_eqn (mm_signOut g1.1 (t2.up g1.ty) i1.1 (by have := i1.2; omega))) (fun v174 S173 p2 => ?_)
  obtain ⟨e2, g2, m2⟩ := p2
  obtain ⟨th, an, rp⟩ := pf_signOut hI hn hr e1 g1 e2 g2
  exact (hk _ (LW_M hI t1 t2 t3 g1 i1.2 f1 g2 m2 rp (by decide +kernel)))
theorem c_helper {X : Nat → Int32} {L : Nat} {k : AS → Option Nat → Option Nat → Option Nat → Int32 → Option (Int32 × AS)} {Q : Int32 × AS → Prop} {n : Nat} {S : AS} {x : Int32} (hL : L ≤ 3072) (h0 : 0 ≤ x.toInt) (h6 : x.toInt + 6 ≤ (L : Int)) (hn : n ≤ 600) (hw : LW n S) (hk : ∀ S', LW (n + 1) S' → Ho (k S' (some 4) (some 57) (some 126) (x + 6)) Q) : Ho (f_W_law_B1034 X L k S (some 4) (some 57) (some 126) x) Q := by
  obtain ⟨T, hI, t1, t2, t3, hr⟩ := hw
  unfold f_W_law_B1034
  refine r_sx (sx_ok hL h0 h6 1 (by decide)) (fun v175 q175 => ?_)
  refine r_b2 (ho_eqn (w_helper hI.1 t1 t3)) (fun v177 S176 p => ?_)
  obtain ⟨e1, T1, g1⟩ := p
  have g1 : Rl T (99999 :: kw_K68) S 10 700 T1 S176 := g1
  have f1 := FT_fr hI.2.2.2.1 g1 (by decide +kernel)
  have i1 := IV_K hI g1 t2 (by decide +kernel)
  refine r_sx (sx_ok hL h0 h6 1 (by decide)) (fun v178 q178 => ?_)
  rw [sx_v q175 q178]
  refine r_rv g1.1 (t2.up g1.ty) rfl ?_
  refine r_b2 (ho_eqn (mm_helper g1.1 (t2.up g1.ty) i1.1 (by have := i1.2; omega))) (fun v181 S180 p2 => ?_)
  obtain ⟨e2, g2, m2⟩ := p2
  obtain ⟨th, an, rp⟩ := pf_helper hI hn hr e1 g1 e2 g2
  exact (hk _ (LW_M hI t1 t2 t3 g1 i1.2 f1 g2 m2 rp (by decide +kernel)))
theorem c_act {X : Nat → Int32} {L : Nat} {k : AS → Option Nat → Option Nat → Option Nat → Int32 → Option (Int32 × AS)} {Q : Int32 × AS → Prop} {n : Nat} {S : AS} {x : Int32} (hL : L ≤ 3072) (h0 : 0 ≤ x.toInt) (h6 : x.toInt + 6 ≤ (L : Int)) (hn : n ≤ 600) (hw : LW n S) (hk : ∀ S', LW (n + 1) S' → Ho (k S' (some 4) (some 57) (some 126) (x + 6)) Q) : Ho (f_W_law_B1062 X L k S (some 4) (some 57) (some 126) x) Q := by
  obtain ⟨T, hI, t1, t2, t3, hr⟩ := hw
  unfold f_W_law_B1062
  refine r_sx (sx_ok hL h0 h6 1 (by decide)) (fun v182 q182 => ?_)
  refine r_sx (sx_ok hL h0 h6 2 (by decide)) (fun v183 q183 => ?_)
  refine r_b2 (ho_eqn (w_act hI.1 t1 t3)) (fun v185 S184 p => ?_)
  obtain ⟨e1, T1, g1⟩ := p
  have g1 : Rl T (99999 :: kw_K50) S 10 700 T1 S184 := g1
  have f1 := FT_fr hI.2.2.2.1 g1 (by decide +kernel)
  have i1 := IV_K hI g1 t2 (by decide +kernel)
  refine r_sx (sx_ok hL h0 h6 1 (by decide)) (fun v186 q186 => ?_)
  rw [sx_v q182 q186]
  refine r_sx (sx_ok hL h0 h6 2 (by decide)) (fun v187 q187 => ?_)
  rw [sx_v q183 q187]
  refine r_rv g1.1 (t2.up g1.ty) rfl ?_
  refine r_b2 (ho_eqn (mm_act g1.1 (t2.up g1.ty) i1.1 (by have := i1.2; omega))) (fun v190 S189 p2 => ?_)
  obtain ⟨e2, g2, m2⟩ := p2
  obtain ⟨th, an, rp⟩ := pf_act hI hn hr e1 g1 e2 g2
  exact (hk _ (LW_M hI t1 t2 t3 g1 i1.2 f1 g2 m2 rp (by decide +kernel)))
theorem c_consent {X : Nat → Int32} {L : Nat} {k : AS → Option Nat → Option Nat → Option Nat → Int32 → Option (Int32 × AS)} {Q : Int32 × AS → Prop} {n : Nat} {S : AS} {x : Int32} (hL : L ≤ 3072) (h0 : 0 ≤ x.toInt) (h6 : x.toInt + 6 ≤ (L : Int)) (hn : n ≤ 600) (hw : LW n S) (hk : ∀ S', LW (n + 1) S' → Ho (k S' (some 4) (some 57) (some 126) (x + 6)) Q) : Ho (f_W_law_B1102 X L k S (some 4) (some 57) (some 126) x) Q := by
  obtain ⟨T, hI, t1, t2, t3, hr⟩ := hw
  unfold f_W_law_B1102
  refine r_sx (sx_ok hL h0 h6 1 (by decide)) (fun v191 q191 => ?_)
  refine r_sx (sx_ok hL h0 h6 2 (by decide)) (fun v192 q192 => ?_)
  refine r_sx (sx_ok hL h0 h6 3 (by decide)) (fun v193 q193 => ?_)
  refine r_b2 (ho_eqn (w_consent hI.1 t1 t3)) (fun v195 S194 p => ?_)
  obtain ⟨e1, T1, g1⟩ := p
  have g1 : Rl T (99999 :: kw_K71) S 10 700 T1 S194 := g1
  have f1 := FT_fr hI.2.2.2.1 g1 (by decide +kernel)
  have i1 := IV_K hI g1 t2 (by decide +kernel)
  refine r_sx (sx_ok hL h0 h6 1 (by decide)) (fun v196 q196 => ?_)
  rw [sx_v q191 q196]
  refine r_sx (sx_ok hL h0 h6 2 (by decide)) (fun v197 q197 => ?_)
  rw [sx_v q192 q197]
  refine r_sx (sx_ok hL h0 h6 3 (by decide)) (fun v198 q198 => ?_)
  rw [sx_v q193 q198]
  refine r_rv g1.1 (t2.up g1.ty) rfl ?_
  refine r_b2 (ho_eqn (mm_consent g1.1 (t2.up g1.ty) i1.1 (by have := i1.2; omega))) (fun v201 S200 p2 => ?_)
  obtain ⟨e2, g2, m2⟩ := p2
  obtain ⟨th, an, rp⟩ := pf_consent hI hn hr e1 g1 e2 g2
  exact (hk _ (LW_M hI t1 t2 t3 g1 i1.2 f1 g2 m2 rp (by decide +kernel)))
theorem c_withdraw {X : Nat → Int32} {L : Nat} {k : AS → Option Nat → Option Nat → Option Nat → Int32 → Option (Int32 × AS)} {Q : Int32 × AS → Prop} {n : Nat} {S : AS} {x : Int32} (hL : L ≤ 3072) (h0 : 0 ≤ x.toInt) (h6 : x.toInt + 6 ≤ (L : Int)) (hn : n ≤ 600) (hw : LW n S) (hk : ∀ S', LW (n + 1) S' → Ho (k S' (some 4) (some 57) (some 126) (x + 6)) Q) : Ho (f_W_law_B1154 X L k S (some 4) (some 57) (some 126) x) Q := by
  obtain ⟨T, hI, t1, t2, t3, hr⟩ := hw
  unfold f_W_law_B1154
  refine r_sx (sx_ok hL h0 h6 1 (by decide)) (fun v202 q202 => ?_)
  refine r_sx (sx_ok hL h0 h6 2 (by decide)) (fun v203 q203 => ?_)
  refine r_b2 (ho_eqn (w_withdraw hI.1 t1 t3)) (fun v205 S204 p => ?_)
  obtain ⟨e1, T1, g1⟩ := p
  have g1 : Rl T (99999 :: kw_K72) S 10 700 T1 S204 := g1
  have f1 := FT_fr hI.2.2.2.1 g1 (by decide +kernel)
  have i1 := IV_K hI g1 t2 (by decide +kernel)
  refine r_sx (sx_ok hL h0 h6 1 (by decide)) (fun v206 q206 => ?_)
  rw [sx_v q202 q206]
  refine r_sx (sx_ok hL h0 h6 2 (by decide)) (fun v207 q207 => ?_)
  rw [sx_v q203 q207]
  refine r_rv g1.1 (t2.up g1.ty) rfl ?_
  refine r_b2 (ho_eqn (mm_withdraw g1.1 (t2.up g1.ty) i1.1 (by have := i1.2; omega))) (fun v210 S209 p2 => ?_)
  obtain ⟨e2, g2, m2⟩ := p2
  obtain ⟨th, an, rp⟩ := pf_withdraw hI hn hr e1 g1 e2 g2
  exact (hk _ (LW_M hI t1 t2 t3 g1 i1.2 f1 g2 m2 rp (by decide +kernel)))
theorem c_need {X : Nat → Int32} {L : Nat} {k : AS → Option Nat → Option Nat → Option Nat → Int32 → Option (Int32 × AS)} {Q : Int32 × AS → Prop} {n : Nat} {S : AS} {x : Int32} (hL : L ≤ 3072) (h0 : 0 ≤ x.toInt) (h6 : x.toInt + 6 ≤ (L : Int)) (hn : n ≤ 600) (hw : LW n S) (hk : ∀ S', LW (n + 1) S' → Ho (k S' (some 4) (some 57) (some 126) (x + 6)) Q) : Ho (f_W_law_B1194 X L k S (some 4) (some 57) (some 126) x) Q := by
  obtain ⟨T, hI, t1, t2, t3, hr⟩ := hw
  unfold f_W_law_B1194
  refine r_sx (sx_ok hL h0 h6 1 (by decide)) (fun v211 q211 => ?_)
  refine r_sx (sx_ok hL h0 h6 2 (by decide)) (fun v212 q212 => ?_)
  refine r_b2 (ho_eqn (w_need hI.1 t1 t3)) (fun v214 S213 p => ?_)
  obtain ⟨e1, T1, g1⟩ := p
  have g1 : Rl T (99999 :: kw_K73) S 10 700 T1 S213 := g1
  have f1 := FT_fr hI.2.2.2.1 g1 (by decide +kernel)
  have i1 := IV_K hI g1 t2 (by decide +kernel)
  refine r_sx (sx_ok hL h0 h6 1 (by decide)) (fun v215 q215 => ?_)
  rw [sx_v q211 q215]
  refine r_sx (sx_ok hL h0 h6 2 (by decide)) (fun v216 q216 => ?_)
  rw [sx_v q212 q216]
  refine r_rv g1.1 (t2.up g1.ty) rfl ?_
  refine r_b2 (ho_eqn (mm_need g1.1 (t2.up g1.ty) i1.1 (by have := i1.2; omega))) (fun v219 S218 p2 => ?_)
  obtain ⟨e2, g2, m2⟩ := p2
  obtain ⟨th, an, rp⟩ := pf_need hI hn hr e1 g1 e2 g2
  exact (hk _ (LW_M hI t1 t2 t3 g1 i1.2 f1 g2 m2 rp (by decide +kernel)))
theorem c_authorize {X : Nat → Int32} {L : Nat} {k : AS → Option Nat → Option Nat → Option Nat → Int32 → Option (Int32 × AS)} {Q : Int32 × AS → Prop} {n : Nat} {S : AS} {x : Int32} (hL : L ≤ 3072) (h0 : 0 ≤ x.toInt) (h6 : x.toInt + 6 ≤ (L : Int)) (hn : n ≤ 600) (hw : LW n S) (hk : ∀ S', LW (n + 1) S' → Ho (k S' (some 4) (some 57) (some 126) (x + 6)) Q) : Ho (f_W_law_B1234 X L k S (some 4) (some 57) (some 126) x) Q := by
  obtain ⟨T, hI, t1, t2, t3, hr⟩ := hw
  unfold f_W_law_B1234
  refine r_sx (sx_ok hL h0 h6 1 (by decide)) (fun v220 q220 => ?_)
  refine r_sx (sx_ok hL h0 h6 2 (by decide)) (fun v221 q221 => ?_)
  refine r_sx (sx_ok hL h0 h6 3 (by decide)) (fun v222 q222 => ?_)
  refine r_sx (sx_ok hL h0 h6 4 (by decide)) (fun v223 q223 => ?_)
  refine r_b2 (ho_eqn (w_authorize hI.1 t1 t3)) (fun v225 S224 p => ?_)
  obtain ⟨e1, T1, g1⟩ := p
  have g1 : Rl T (99999 :: kw_K74) S 10 700 T1 S224 := g1
  have f1 := FT_fr hI.2.2.2.1 g1 (by decide +kernel)
  have i1 := IV_K hI g1 t2 (by decide +kernel)
  refine r_sx (sx_ok hL h0 h6 1 (by decide)) (fun v226 q226 => ?_)
  rw [sx_v q220 q226]
  refine r_sx (sx_ok hL h0 h6 2 (by decide)) (fun v227 q227 => ?_)
  rw [sx_v q221 q227]
  refine r_sx (sx_ok hL h0 h6 3 (by decide)) (fun v228 q228 => ?_)
  rw [sx_v q222 q228]
  refine r_sx (sx_ok hL h0 h6 4 (by decide)) (fun v229 q229 => ?_)
  rw [sx_v q223 q229]
  refine r_rv g1.1 (t2.up g1.ty) rfl ?_
  refine r_b2 (ho_eqn (mm_authorize g1.1 (t2.up g1.ty) i1.1 (by have := i1.2; omega))) (fun v232 S231 p2 => ?_)
  obtain ⟨e2, g2, m2⟩ := p2
  obtain ⟨th, an, rp⟩ := pf_authorize hI hn hr e1 g1 e2 g2
  exact (hk _ (LW_M hI t1 t2 t3 g1 i1.2 f1 g2 m2 rp (by decide +kernel)))
theorem c_redeem {X : Nat → Int32} {L : Nat} {k : AS → Option Nat → Option Nat → Option Nat → Int32 → Option (Int32 × AS)} {Q : Int32 × AS → Prop} {n : Nat} {S : AS} {x : Int32} (hL : L ≤ 3072) (h0 : 0 ≤ x.toInt) (h6 : x.toInt + 6 ≤ (L : Int)) (hn : n ≤ 600) (hw : LW n S) (hk : ∀ S', LW (n + 1) S' → Ho (k S' (some 4) (some 57) (some 126) (x + 6)) Q) : Ho (f_W_law_B1298 X L k S (some 4) (some 57) (some 126) x) Q := by
  obtain ⟨T, hI, t1, t2, t3, hr⟩ := hw
  unfold f_W_law_B1298
  refine r_sx (sx_ok hL h0 h6 1 (by decide)) (fun v233 q233 => ?_)
  refine r_b2 (ho_eqn (w_redeem hI.1 t1 t3 hI.2.2.2.1)) (fun v235 S234 p => ?_)
  obtain ⟨e1, ⟨⟨T1, g1⟩, f1⟩⟩ := p
  have g1 : Rl T (99999 :: kw_K83) S 10 700 T1 S234 := g1
  have i1 := IV_K hI g1 t2 (by decide +kernel)
  refine r_sx (sx_ok hL h0 h6 1 (by decide)) (fun v236 q236 => ?_)
  rw [sx_v q233 q236]
  refine r_rv g1.1 (t2.up g1.ty) rfl ?_
  refine r_b2 (ho_eqn (mm_redeem g1.1 (t2.up g1.ty) i1.1 (by have := i1.2; omega))) (fun v239 S238 p2 => ?_)
  obtain ⟨e2, g2, m2⟩ := p2
  obtain ⟨th, an, rp⟩ := pf_redeem hI hn hr e1 g1 e2 g2
  exact (hk _ (LW_M hI t1 t2 t3 g1 i1.2 f1 g2 m2 rp (by decide +kernel)))
theorem c_refresh {X : Nat → Int32} {L : Nat} {k : AS → Option Nat → Option Nat → Option Nat → Int32 → Option (Int32 × AS)} {Q : Int32 × AS → Prop} {n : Nat} {S : AS} {x : Int32} (hL : L ≤ 3072) (h0 : 0 ≤ x.toInt) (h6 : x.toInt + 6 ≤ (L : Int)) (hn : n ≤ 600) (hw : LW n S) (hk : ∀ S', LW (n + 1) S' → Ho (k S' (some 4) (some 57) (some 126) (x + 6)) Q) : Ho (f_W_law_B1326 X L k S (some 4) (some 57) (some 126) x) Q := by
  obtain ⟨T, hI, t1, t2, t3, hr⟩ := hw
  unfold f_W_law_B1326
  refine r_sx (sx_ok hL h0 h6 1 (by decide)) (fun v240 q240 => ?_)
  refine r_sx (sx_ok hL h0 h6 2 (by decide)) (fun v241 q241 => ?_)
  refine r_b2 (ho_eqn (w_refresh hI.1 t1 t3)) (fun v243 S242 p => ?_)
  obtain ⟨e1, T1, g1⟩ := p
  have g1 : Rl T (99999 :: kw_K88) S 10 700 T1 S242 := g1
  have f1 := FT_fr hI.2.2.2.1 g1 (by decide +kernel)
  have i1 := IV_K hI g1 t2 (by decide +kernel)
  refine r_sx (sx_ok hL h0 h6 1 (by decide)) (fun v244 q244 => ?_)
  rw [sx_v q240 q244]
  refine r_sx (sx_ok hL h0 h6 2 (by decide)) (fun v245 q245 => ?_)
  rw [sx_v q241 q245]
  refine r_rv g1.1 (t2.up g1.ty) rfl ?_
  refine r_b2 (ho_eqn (mm_refresh g1.1 (t2.up g1.ty) i1.1 (by have := i1.2; omega))) (fun v248 S247 p2 => ?_)
  obtain ⟨e2, g2, m2⟩ := p2
  obtain ⟨th, an, rp⟩ := pf_refresh hI hn hr e1 g1 e2 g2
  exact (hk _ (LW_M hI t1 t2 t3 g1 i1.2 f1 g2 m2 rp (by decide +kernel)))
theorem c_isGood {X : Nat → Int32} {L : Nat} {k : AS → Option Nat → Option Nat → Option Nat → Int32 → Option (Int32 × AS)} {Q : Int32 × AS → Prop} {n : Nat} {S : AS} {x : Int32} (hL : L ≤ 3072) (h0 : 0 ≤ x.toInt) (h6 : x.toInt + 6 ≤ (L : Int)) (hn : n ≤ 600) (hw : LW n S) (hk : ∀ S', LW (n + 1) S' → Ho (k S' (some 4) (some 57) (some 126) (x + 6)) Q) : Ho (f_W_law_B1366 X L k S (some 4) (some 57) (some 126) x) Q := by
  obtain ⟨T, hI, t1, t2, t3, hr⟩ := hw
  unfold f_W_law_B1366
  refine r_sx (sx_ok hL h0 h6 1 (by decide)) (fun v249 q249 => ?_)
  refine r_b2 (ho_eqn (w_isGood hI.1 t1 t3)) (fun v251 S250 p => ?_)
  obtain ⟨e1, T1, g1⟩ := p
  have g1 : Rl T (99999 :: []) S 10 700 T1 S250 := g1
  have f1 := FT_fr hI.2.2.2.1 g1 (by decide +kernel)
  have i1 := IV_K hI g1 t2 (by decide +kernel)
  refine r_sx (sx_ok hL h0 h6 1 (by decide)) (fun v252 q252 => ?_)
  rw [sx_v q249 q252]
  refine r_rv g1.1 (t2.up g1.ty) rfl ?_
  refine r_b2 (ho_eqn (mm_isGood g1.1 (t2.up g1.ty) i1.1 (by have := i1.2; omega))) (fun v255 S254 p2 => ?_)
  obtain ⟨e2, g2, m2⟩ := p2
  obtain ⟨th, an, rp⟩ := pf_isGood hI hn hr e1 g1 e2 g2
  exact (hk _ (LW_M hI t1 t2 t3 g1 i1.2 f1 g2 m2 rp (by decide +kernel)))
theorem c_tokenOf {X : Nat → Int32} {L : Nat} {k : AS → Option Nat → Option Nat → Option Nat → Int32 → Option (Int32 × AS)} {Q : Int32 × AS → Prop} {n : Nat} {S : AS} {x : Int32} (hL : L ≤ 3072) (h0 : 0 ≤ x.toInt) (h6 : x.toInt + 6 ≤ (L : Int)) (hn : n ≤ 600) (hw : LW n S) (hk : ∀ S', LW (n + 1) S' → Ho (k S' (some 4) (some 57) (some 126) (x + 6)) Q) : Ho (f_W_law_B1394 X L k S (some 4) (some 57) (some 126) x) Q := by
  obtain ⟨T, hI, t1, t2, t3, hr⟩ := hw
  unfold f_W_law_B1394
  refine r_sx (sx_ok hL h0 h6 1 (by decide)) (fun v256 q256 => ?_)
  refine r_b2 (ho_eqn (w_tokenOf hI.1 t1 t3)) (fun v258 S257 p => ?_)
  obtain ⟨e1, T1, g1⟩ := p
  have g1 : Rl T (99999 :: []) S 10 700 T1 S257 := g1
  have f1 := FT_fr hI.2.2.2.1 g1 (by decide +kernel)
  have i1 := IV_K hI g1 t2 (by decide +kernel)
  refine r_sx (sx_ok hL h0 h6 1 (by decide)) (fun v259 q259 => ?_)
  rw [sx_v q256 q259]
  refine r_rv g1.1 (t2.up g1.ty) rfl ?_
  refine r_b2 (ho_eqn (mm_tokenOf g1.1 (t2.up g1.ty) i1.1 (by have := i1.2; omega))) (fun v262 S261 p2 => ?_)
  obtain ⟨e2, g2, m2⟩ := p2
  obtain ⟨th, an, rp⟩ := pf_tokenOf hI hn hr e1 g1 e2 g2
  exact (hk _ (LW_M hI t1 t2 t3 g1 i1.2 f1 g2 m2 rp (by decide +kernel)))
theorem c_exchange {X : Nat → Int32} {L : Nat} {k : AS → Option Nat → Option Nat → Option Nat → Int32 → Option (Int32 × AS)} {Q : Int32 × AS → Prop} {n : Nat} {S : AS} {x : Int32} (hL : L ≤ 3072) (h0 : 0 ≤ x.toInt) (h6 : x.toInt + 6 ≤ (L : Int)) (hn : n ≤ 600) (hw : LW n S) (hk : ∀ S', LW (n + 1) S' → Ho (k S' (some 4) (some 57) (some 126) (x + 6)) Q) : Ho (f_W_law_B1422 X L k S (some 4) (some 57) (some 126) x) Q := by
  obtain ⟨T, hI, t1, t2, t3, hr⟩ := hw
  unfold f_W_law_B1422
  refine r_sx (sx_ok hL h0 h6 1 (by decide)) (fun v263 q263 => ?_)
  refine r_sx (sx_ok hL h0 h6 2 (by decide)) (fun v264 q264 => ?_)
  refine r_sx (sx_ok hL h0 h6 3 (by decide)) (fun v265 q265 => ?_)
  refine r_b2 (ho_eqn (w_exchange hI.1 t1 t3)) (fun v267 S266 p => ?_)
  obtain ⟨e1, T1, g1⟩ := p
  have g1 : Rl T (99999 :: kw_K77) S 10 700 T1 S266 := g1
  have f1 := FT_fr hI.2.2.2.1 g1 (by decide +kernel)
  have i1 := IV_K hI g1 t2 (by decide +kernel)
  refine r_sx (sx_ok hL h0 h6 1 (by decide)) (fun v268 q268 => ?_)
  rw [sx_v q263 q268]
  refine r_sx (sx_ok hL h0 h6 2 (by decide)) (fun v269 q269 => ?_)
  rw [sx_v q264 q269]
  refine r_sx (sx_ok hL h0 h6 3 (by decide)) (fun v270 q270 => ?_)
  rw [sx_v q265 q270]
  refine r_rv g1.1 (t2.up g1.ty) rfl ?_
  refine r_b2 (ho_eqn (mm_exchange g1.1 (t2.up g1.ty) i1.1 (by have := i1.2; omega))) (fun v273 S272 p2 => ?_)
  obtain ⟨e2, g2, m2⟩ := p2
  obtain ⟨th, an, rp⟩ := pf_exchange hI hn hr e1 g1 e2 g2
  exact (hk _ (LW_M hI t1 t2 t3 g1 i1.2 f1 g2 m2 rp (by decide +kernel)))
theorem c_token {X : Nat → Int32} {L : Nat} {k : AS → Option Nat → Option Nat → Option Nat → Int32 → Option (Int32 × AS)} {Q : Int32 × AS → Prop} {n : Nat} {S : AS} {x : Int32} (hL : L ≤ 3072) (h0 : 0 ≤ x.toInt) (h6 : x.toInt + 6 ≤ (L : Int)) (hn : n ≤ 600) (hw : LW n S) (hk : ∀ S', LW (n + 1) S' → Ho (k S' (some 4) (some 57) (some 126) (x + 6)) Q) : Ho (f_W_law_B1474 X L k S (some 4) (some 57) (some 126) x) Q := by
  obtain ⟨T, hI, t1, t2, t3, hr⟩ := hw
  unfold f_W_law_B1474
  refine r_sx (sx_ok hL h0 h6 1 (by decide)) (fun v274 q274 => ?_)
  refine r_b2 (ho_eqn (w_token hI.1 t1 t3)) (fun v276 S275 p => ?_)
  obtain ⟨e1, T1, g1⟩ := p
  have g1 : Rl T (99999 :: []) S 10 700 T1 S275 := g1
  have f1 := FT_fr hI.2.2.2.1 g1 (by decide +kernel)
  have i1 := IV_K hI g1 t2 (by decide +kernel)
  refine r_sx (sx_ok hL h0 h6 1 (by decide)) (fun v277 q277 => ?_)
  rw [sx_v q274 q277]
  refine r_rv g1.1 (t2.up g1.ty) rfl ?_
  refine r_b2 (ho_eqn (mm_token g1.1 (t2.up g1.ty) i1.1 (by have := i1.2; omega))) (fun v280 S279 p2 => ?_)
  obtain ⟨e2, g2, m2⟩ := p2
  obtain ⟨th, an, rp⟩ := pf_token hI hn hr e1 g1 e2 g2
  exact (hk _ (LW_M hI t1 t2 t3 g1 i1.2 f1 g2 m2 rp (by decide +kernel)))
theorem c_turn {X : Nat → Int32} {L : Nat} {k : AS → Option Nat → Option Nat → Option Nat → Int32 → Option (Int32 × AS)} {Q : Int32 × AS → Prop} {n : Nat} {S : AS} {x : Int32} (hL : L ≤ 3072) (h0 : 0 ≤ x.toInt) (h6 : x.toInt + 6 ≤ (L : Int)) (hn : n ≤ 600) (hw : LW n S) (hk : ∀ S', LW (n + 1) S' → Ho (k S' (some 4) (some 57) (some 126) (x + 6)) Q) : Ho (f_W_law_B1502 X L k S (some 4) (some 57) (some 126) x) Q := by
  obtain ⟨T, hI, t1, t2, t3, hr⟩ := hw
  unfold f_W_law_B1502
  refine r_b2 (ho_eqn (w_turn hI.1 t1 t3)) (fun v282 S281 p => ?_)
  obtain ⟨e1, T1, g1⟩ := p
  have g1 : Rl T (99999 :: kw_K27) S 10 700 T1 S281 := g1
  have f1 := FT_fr hI.2.2.2.1 g1 (by decide +kernel)
  have i1 := IV_K hI g1 t2 (by decide +kernel)
  refine r_rv g1.1 (t2.up g1.ty) rfl ?_
  refine r_b2 (ho_eqn (mm_turn g1.1 (t2.up g1.ty) i1.1 (by have := i1.2; omega))) (fun v285 S284 p2 => ?_)
  obtain ⟨e2, g2, m2⟩ := p2
  obtain ⟨th, an, rp⟩ := pf_turn hI hn hr e1 g1 e2 g2
  exact (hk _ (LW_M hI t1 t2 t3 g1 i1.2 f1 g2 m2 rp (by decide +kernel)))
theorem c_emergency {X : Nat → Int32} {L : Nat} {k : AS → Option Nat → Option Nat → Option Nat → Int32 → Option (Int32 × AS)} {Q : Int32 × AS → Prop} {n : Nat} {S : AS} {x : Int32} (hL : L ≤ 3072) (h0 : 0 ≤ x.toInt) (h6 : x.toInt + 6 ≤ (L : Int)) (hn : n ≤ 600) (hw : LW n S) (hk : ∀ S', LW (n + 1) S' → Ho (k S' (some 4) (some 57) (some 126) (x + 6)) Q) : Ho (f_W_law_B1518 X L k S (some 4) (some 57) (some 126) x) Q := by
  obtain ⟨T, hI, t1, t2, t3, hr⟩ := hw
  unfold f_W_law_B1518
  refine r_b2 (ho_eqn (w_emergency hI.1 t1 t3)) (fun v287 S286 p => ?_)
  obtain ⟨e1, T1, g1⟩ := p
  have g1 : Rl T (99999 :: kw_K89) S 10 700 T1 S286 := g1
  have f1 := FT_fr hI.2.2.2.1 g1 (by decide +kernel)
  have i1 := IV_K hI g1 t2 (by decide +kernel)
  refine r_rv g1.1 (t2.up g1.ty) rfl ?_
  refine r_b2 (ho_eqn (mm_emergency g1.1 (t2.up g1.ty) i1.1 (by have := i1.2; omega))) (fun v290 S289 p2 => ?_)
  obtain ⟨e2, g2, m2⟩ := p2
  obtain ⟨th, an, rp⟩ := pf_emergency hI hn hr e1 g1 e2 g2
  exact (hk _ (LW_M hI t1 t2 t3 g1 i1.2 f1 g2 m2 rp (by decide +kernel)))
theorem c_signing {X : Nat → Int32} {L : Nat} {k : AS → Option Nat → Option Nat → Option Nat → Int32 → Option (Int32 × AS)} {Q : Int32 × AS → Prop} {n : Nat} {S : AS} {x : Int32} (hL : L ≤ 3072) (h0 : 0 ≤ x.toInt) (h6 : x.toInt + 6 ≤ (L : Int)) (hn : n ≤ 600) (hw : LW n S) (hk : ∀ S', LW (n + 1) S' → Ho (k S' (some 4) (some 57) (some 126) (x + 6)) Q) : Ho (f_W_law_B1534 X L k S (some 4) (some 57) (some 126) x) Q := by
  obtain ⟨T, hI, t1, t2, t3, hr⟩ := hw
  unfold f_W_law_B1534
  refine r_rv hI.1 t1 rfl ?_
  refine r_b2 (ho_eqn (t_K_signing hI.1 t1)) (fun v293 S292 p => ?_)
  obtain ⟨e1, e, -⟩ := p
  have e : S292 = S := e
  have g1 : Rl T (99999 :: []) S 10 700 T S292 := by
    rw [e]
    exact Rlweak (Rlrf hI.1) (fun _ z => List.mem_cons_of_mem _ z) (by decide) (by decide)
  have f1 := FT_fr hI.2.2.2.1 g1 (by decide +kernel)
  have i1 := IV_K hI g1 t2 (by decide +kernel)
  refine r_rv g1.1 (t2.up g1.ty) rfl ?_
  refine r_b2 (ho_eqn (mm_signing g1.1 (t2.up g1.ty) i1.1 (by have := i1.2; omega))) (fun v296 S295 p2 => ?_)
  obtain ⟨e2, g2, m2⟩ := p2
  obtain ⟨an, rp⟩ := pf_signing hI hn hr e1 g1 e2 g2
  exact (hk _ (LW_M hI t1 t2 t3 g1 i1.2 f1 g2 m2 rp (by decide +kernel)))
theorem c_isPublished {X : Nat → Int32} {L : Nat} {k : AS → Option Nat → Option Nat → Option Nat → Int32 → Option (Int32 × AS)} {Q : Int32 × AS → Prop} {n : Nat} {S : AS} {x : Int32} (hL : L ≤ 3072) (h0 : 0 ≤ x.toInt) (h6 : x.toInt + 6 ≤ (L : Int)) (hn : n ≤ 600) (hw : LW n S) (hk : ∀ S', LW (n + 1) S' → Ho (k S' (some 4) (some 57) (some 126) (x + 6)) Q) : Ho (f_W_law_B1547 X L k S (some 4) (some 57) (some 126) x) Q := by
  obtain ⟨T, hI, t1, t2, t3, hr⟩ := hw
  unfold f_W_law_B1547
  refine r_sx (sx_ok hL h0 h6 1 (by decide)) (fun v297 q297 => ?_)
  refine r_b2 (ho_eqn (w_isPublished hI.1 t1 t3)) (fun v299 S298 p => ?_)
  obtain ⟨e1, T1, g1⟩ := p
  have g1 : Rl T (99999 :: []) S 10 700 T1 S298 := g1
  have f1 := FT_fr hI.2.2.2.1 g1 (by decide +kernel)
  have i1 := IV_K hI g1 t2 (by decide +kernel)
  refine r_sx (sx_ok hL h0 h6 1 (by decide)) (fun v300 q300 => ?_)
  rw [sx_v q297 q300]
  refine r_rv g1.1 (t2.up g1.ty) rfl ?_
  refine r_b2 (ho_eqn (mm_isPublished g1.1 (t2.up g1.ty) i1.1 (by have := i1.2; omega))) (fun v303 S302 p2 => ?_)
  obtain ⟨e2, g2, m2⟩ := p2
  obtain ⟨th, an, rp⟩ := pf_isPublished hI hn hr e1 g1 e2 g2
  exact (hk _ (LW_M hI t1 t2 t3 g1 i1.2 f1 g2 m2 rp (by decide +kernel)))
theorem c_line {X : Nat → Int32} {L : Nat} {k : AS → Option Nat → Option Nat → Option Nat → Int32 → Option (Int32 × AS)} {Q : Int32 × AS → Prop} {n : Nat} {S : AS} {x : Int32} (hL : L ≤ 3072) (h0 : 0 ≤ x.toInt) (h6 : x.toInt + 6 ≤ (L : Int)) (hn : n ≤ 600) (hw : LW n S) (hk : ∀ S', LW (n + 1) S' → Ho (k S' (some 4) (some 57) (some 126) (x + 6)) Q) : Ho (f_W_law_B1575 X L k S (some 4) (some 57) (some 126) x) Q := by
  obtain ⟨T, hI, t1, t2, t3, hr⟩ := hw
  unfold f_W_law_B1575
  refine r_sx (sx_ok hL h0 h6 1 (by decide)) (fun v304 q304 => ?_)
  refine r_b2 (ho_eqn (w_line hI.1 t1 t3)) (fun v306 S305 p => ?_)
  obtain ⟨e1, T1, g1⟩ := p
  have g1 : Rl T (99999 :: kw_K91) S 10 700 T1 S305 := g1
  have f1 := FT_fr hI.2.2.2.1 g1 (by decide +kernel)
  have i1 := IV_K hI g1 t2 (by decide +kernel)
  refine r_sx (sx_ok hL h0 h6 1 (by decide)) (fun v307 q307 => ?_)
  rw [sx_v q304 q307]
  refine r_rv g1.1 (t2.up g1.ty) rfl ?_
  refine r_b2 (ho_eqn (mm_line g1.1 (t2.up g1.ty) i1.1 (by have := i1.2; omega))) (fun v310 S309 p2 => ?_)
  obtain ⟨e2, g2, m2⟩ := p2
  obtain ⟨th, an, rp⟩ := pf_line hI hn hr e1 g1 e2 g2
  exact (hk _ (LW_M hI t1 t2 t3 g1 i1.2 f1 g2 m2 rp (by decide +kernel)))
theorem c_check {X : Nat → Int32} {L : Nat} {k : AS → Option Nat → Option Nat → Option Nat → Int32 → Option (Int32 × AS)} {Q : Int32 × AS → Prop} {n : Nat} {S : AS} {x : Int32} (hL : L ≤ 3072) (h0 : 0 ≤ x.toInt) (h6 : x.toInt + 6 ≤ (L : Int)) (hn : n ≤ 600) (hw : LW n S) (hk : ∀ S', LW (n + 1) S' → Ho (k S' (some 4) (some 57) (some 126) (x + 6)) Q) : Ho (f_W_law_B1603 X L k S (some 4) (some 57) (some 126) x) Q := by
  obtain ⟨T, hI, t1, t2, t3, hr⟩ := hw
  unfold f_W_law_B1603
  refine r_sx (sx_ok hL h0 h6 1 (by decide)) (fun v311 q311 => ?_)
  refine r_sx (sx_ok hL h0 h6 2 (by decide)) (fun v312 q312 => ?_)
  refine r_sx (sx_ok hL h0 h6 3 (by decide)) (fun v313 q313 => ?_)
  refine r_b2 (ho_eqn (w_check hI.1 t1 t3)) (fun v315 S314 p => ?_)
  obtain ⟨e1, T1, g1⟩ := p
  have g1 : Rl T (99999 :: kw_K93) S 10 700 T1 S314 := g1
  have f1 := FT_fr hI.2.2.2.1 g1 (by decide +kernel)
  have i1 := IV_K hI g1 t2 (by decide +kernel)
  refine r_sx (sx_ok hL h0 h6 1 (by decide)) (fun v316 q316 => ?_)
  rw [sx_v q311 q316]
  refine r_sx (sx_ok hL h0 h6 2 (by decide)) (fun v317 q317 => ?_)
  rw [sx_v q312 q317]
  refine r_sx (sx_ok hL h0 h6 3 (by decide)) (fun v318 q318 => ?_)
  rw [sx_v q313 q318]
  refine r_rv g1.1 (t2.up g1.ty) rfl ?_
  refine r_b2 (ho_eqn (mm_check g1.1 (t2.up g1.ty) i1.1 (by have := i1.2; omega))) (fun v321 S320 p2 => ?_)
  obtain ⟨e2, g2, m2⟩ := p2
  obtain ⟨th, an, rp⟩ := pf_check hI hn hr e1 g1 e2 g2
  exact (hk _ (LW_M hI t1 t2 t3 g1 i1.2 f1 g2 m2 rp (by decide +kernel)))
theorem c_lag {X : Nat → Int32} {L : Nat} {k : AS → Option Nat → Option Nat → Option Nat → Int32 → Option (Int32 × AS)} {Q : Int32 × AS → Prop} {n : Nat} {S : AS} {x : Int32} (hL : L ≤ 3072) (h0 : 0 ≤ x.toInt) (h6 : x.toInt + 6 ≤ (L : Int)) (hn : n ≤ 600) (hw : LW n S) (hk : ∀ S', LW (n + 1) S' → Ho (k S' (some 4) (some 57) (some 126) (x + 6)) Q) : Ho (f_W_law_B1655 X L k S (some 4) (some 57) (some 126) x) Q := by
  obtain ⟨T, hI, t1, t2, t3, hr⟩ := hw
  unfold f_W_law_B1655
  refine r_sx (sx_ok hL h0 h6 1 (by decide)) (fun v322 q322 => ?_)
  refine r_b2 (ho_eqn (w_lag hI.1 t1 t3)) (fun v324 S323 p => ?_)
  obtain ⟨e1, T1, g1⟩ := p
  have g1 : Rl T (99999 :: []) S 10 700 T1 S323 := g1
  have f1 := FT_fr hI.2.2.2.1 g1 (by decide +kernel)
  have i1 := IV_K hI g1 t2 (by decide +kernel)
  refine r_sx (sx_ok hL h0 h6 1 (by decide)) (fun v325 q325 => ?_)
  rw [sx_v q322 q325]
  refine r_rv g1.1 (t2.up g1.ty) rfl ?_
  refine r_b2 (ho_eqn (mm_lag g1.1 (t2.up g1.ty) i1.1 (by have := i1.2; omega))) (fun v328 S327 p2 => ?_)
  obtain ⟨e2, g2, m2⟩ := p2
  obtain ⟨th, an, rp⟩ := pf_lag hI hn hr e1 g1 e2 g2
  exact (hk _ (LW_M hI t1 t2 t3 g1 i1.2 f1 g2 m2 rp (by decide +kernel)))
theorem c_recover {X : Nat → Int32} {L : Nat} {k : AS → Option Nat → Option Nat → Option Nat → Int32 → Option (Int32 × AS)} {Q : Int32 × AS → Prop} {n : Nat} {S : AS} {x : Int32} (hL : L ≤ 3072) (h0 : 0 ≤ x.toInt) (h6 : x.toInt + 6 ≤ (L : Int)) (hn : n ≤ 600) (hw : LW n S) (hk : ∀ S', LW (n + 1) S' → Ho (k S' (some 4) (some 57) (some 126) (x + 6)) Q) : Ho (f_W_law_B1683 X L k S (some 4) (some 57) (some 126) x) Q := by
  obtain ⟨T, hI, t1, t2, t3, hr⟩ := hw
  unfold f_W_law_B1683
  refine r_sx (sx_ok hL h0 h6 1 (by decide)) (fun v329 q329 => ?_)
  refine r_b2 (ho_eqn (w_recover hI.1 t1 t3)) (fun v331 S330 p => ?_)
  obtain ⟨e1, T1, g1⟩ := p
  have g1 : Rl T (99999 :: kw_K94) S 10 700 T1 S330 := g1
  have f1 := FT_fr hI.2.2.2.1 g1 (by decide +kernel)
  have i1 := IV_K hI g1 t2 (by decide +kernel)
  refine r_sx (sx_ok hL h0 h6 1 (by decide)) (fun v332 q332 => ?_)
  rw [sx_v q329 q332]
  refine r_rv g1.1 (t2.up g1.ty) rfl ?_
  refine r_b2 (ho_eqn (mm_recover g1.1 (t2.up g1.ty) i1.1 (by have := i1.2; omega))) (fun v335 S334 p2 => ?_)
  obtain ⟨e2, g2, m2⟩ := p2
  obtain ⟨th, an, rp⟩ := pf_recover hI hn hr e1 g1 e2 g2
  exact (hk _ (LW_M hI t1 t2 t3 g1 i1.2 f1 g2 m2 rp (by decide +kernel)))
theorem c_vouch {X : Nat → Int32} {L : Nat} {k : AS → Option Nat → Option Nat → Option Nat → Int32 → Option (Int32 × AS)} {Q : Int32 × AS → Prop} {n : Nat} {S : AS} {x : Int32} (hL : L ≤ 3072) (h0 : 0 ≤ x.toInt) (h6 : x.toInt + 6 ≤ (L : Int)) (hn : n ≤ 600) (hw : LW n S) (hk : ∀ S', LW (n + 1) S' → Ho (k S' (some 4) (some 57) (some 126) (x + 6)) Q) : Ho (f_W_law_B1711 X L k S (some 4) (some 57) (some 126) x) Q := by
  obtain ⟨T, hI, t1, t2, t3, hr⟩ := hw
  unfold f_W_law_B1711
  refine r_sx (sx_ok hL h0 h6 1 (by decide)) (fun v336 q336 => ?_)
  refine r_sx (sx_ok hL h0 h6 2 (by decide)) (fun v337 q337 => ?_)
  refine r_b2 (ho_eqn (w_vouch hI.1 t1 t3)) (fun v339 S338 p => ?_)
  obtain ⟨e1, T1, g1⟩ := p
  have g1 : Rl T (99999 :: kw_K96) S 10 700 T1 S338 := g1
  have f1 := FT_fr hI.2.2.2.1 g1 (by decide +kernel)
  have i1 := IV_K hI g1 t2 (by decide +kernel)
  refine r_sx (sx_ok hL h0 h6 1 (by decide)) (fun v340 q340 => ?_)
  rw [sx_v q336 q340]
  refine r_sx (sx_ok hL h0 h6 2 (by decide)) (fun v341 q341 => ?_)
  rw [sx_v q337 q341]
  refine r_rv g1.1 (t2.up g1.ty) rfl ?_
  refine r_b2 (ho_eqn (mm_vouch g1.1 (t2.up g1.ty) i1.1 (by have := i1.2; omega))) (fun v344 S343 p2 => ?_)
  obtain ⟨e2, g2, m2⟩ := p2
  obtain ⟨th, an, rp⟩ := pf_vouch hI hn hr e1 g1 e2 g2
  exact (hk _ (LW_M hI t1 t2 t3 g1 i1.2 f1 g2 m2 rp (by decide +kernel)))
theorem c_stop {X : Nat → Int32} {L : Nat} {k : AS → Option Nat → Option Nat → Option Nat → Int32 → Option (Int32 × AS)} {Q : Int32 × AS → Prop} {n : Nat} {S : AS} {x : Int32} (hL : L ≤ 3072) (h0 : 0 ≤ x.toInt) (h6 : x.toInt + 6 ≤ (L : Int)) (hn : n ≤ 600) (hw : LW n S) (hk : ∀ S', LW (n + 1) S' → Ho (k S' (some 4) (some 57) (some 126) (x + 6)) Q) : Ho (f_W_law_B1751 X L k S (some 4) (some 57) (some 126) x) Q := by
  obtain ⟨T, hI, t1, t2, t3, hr⟩ := hw
  unfold f_W_law_B1751
  refine r_sx (sx_ok hL h0 h6 1 (by decide)) (fun v345 q345 => ?_)
  refine r_sx (sx_ok hL h0 h6 2 (by decide)) (fun v346 q346 => ?_)
  refine r_b2 (ho_eqn (w_stop hI.1 t1 t3)) (fun v348 S347 p => ?_)
  obtain ⟨e1, T1, g1⟩ := p
  have g1 : Rl T (99999 :: kw_K97) S 10 700 T1 S347 := g1
  have f1 := FT_fr hI.2.2.2.1 g1 (by decide +kernel)
  have i1 := IV_K hI g1 t2 (by decide +kernel)
  refine r_sx (sx_ok hL h0 h6 1 (by decide)) (fun v349 q349 => ?_)
  rw [sx_v q345 q349]
  refine r_sx (sx_ok hL h0 h6 2 (by decide)) (fun v350 q350 => ?_)
  rw [sx_v q346 q350]
  refine r_rv g1.1 (t2.up g1.ty) rfl ?_
  refine r_b2 (ho_eqn (mm_stop g1.1 (t2.up g1.ty) i1.1 (by have := i1.2; omega))) (fun v353 S352 p2 => ?_)
  obtain ⟨e2, g2, m2⟩ := p2
  obtain ⟨th, an, rp⟩ := pf_stop hI hn hr e1 g1 e2 g2
  exact (hk _ (LW_M hI t1 t2 t3 g1 i1.2 f1 g2 m2 rp (by decide +kernel)))
theorem c_finish {X : Nat → Int32} {L : Nat} {k : AS → Option Nat → Option Nat → Option Nat → Int32 → Option (Int32 × AS)} {Q : Int32 × AS → Prop} {n : Nat} {S : AS} {x : Int32} (hL : L ≤ 3072) (h0 : 0 ≤ x.toInt) (h6 : x.toInt + 6 ≤ (L : Int)) (hn : n ≤ 600) (hw : LW n S) (hk : ∀ S', LW (n + 1) S' → Ho (k S' (some 4) (some 57) (some 126) (x + 6)) Q) : Ho (f_W_law_B1791 X L k S (some 4) (some 57) (some 126) x) Q := by
  obtain ⟨T, hI, t1, t2, t3, hr⟩ := hw
  unfold f_W_law_B1791
  refine r_sx (sx_ok hL h0 h6 1 (by decide)) (fun v354 q354 => ?_)
  refine r_b2 (ho_eqn (w_finish hI.1 t1 t3)) (fun v356 S355 p => ?_)
  obtain ⟨e1, T1, g1⟩ := p
  have g1 : Rl T (99999 :: kw_K101) S 10 700 T1 S355 := g1
  have f1 := FT_fr hI.2.2.2.1 g1 (by decide +kernel)
  have i1 := IV_K hI g1 t2 (by decide +kernel)
  refine r_sx (sx_ok hL h0 h6 1 (by decide)) (fun v357 q357 => ?_)
  rw [sx_v q354 q357]
  refine r_rv g1.1 (t2.up g1.ty) rfl ?_
  refine r_b2 (ho_eqn (mm_finish g1.1 (t2.up g1.ty) i1.1 (by have := i1.2; omega))) (fun v360 S359 p2 => ?_)
  obtain ⟨e2, g2, m2⟩ := p2
  obtain ⟨th, an, rp⟩ := pf_finish hI hn hr e1 g1 e2 g2
  exact (hk _ (LW_M hI t1 t2 t3 g1 i1.2 f1 g2 m2 rp (by decide +kernel)))
theorem c_link {X : Nat → Int32} {L : Nat} {k : AS → Option Nat → Option Nat → Option Nat → Int32 → Option (Int32 × AS)} {Q : Int32 × AS → Prop} {n : Nat} {S : AS} {x : Int32} (hL : L ≤ 3072) (h0 : 0 ≤ x.toInt) (h6 : x.toInt + 6 ≤ (L : Int)) (hn : n ≤ 600) (hw : LW n S) (hk : ∀ S', LW (n + 1) S' → Ho (k S' (some 4) (some 57) (some 126) (x + 6)) Q) : Ho (f_W_law_B1819 X L k S (some 4) (some 57) (some 126) x) Q := by
  obtain ⟨T, hI, t1, t2, t3, hr⟩ := hw
  unfold f_W_law_B1819
  refine r_sx (sx_ok hL h0 h6 1 (by decide)) (fun v361 q361 => ?_)
  refine r_sx (sx_ok hL h0 h6 2 (by decide)) (fun v362 q362 => ?_)
  refine r_b2 (ho_eqn (w_link hI.1 t1 t3)) (fun v364 S363 p => ?_)
  obtain ⟨e1, T1, g1⟩ := p
  have g1 : Rl T (99999 :: kw_K102) S 10 700 T1 S363 := g1
  have f1 := FT_fr hI.2.2.2.1 g1 (by decide +kernel)
  have i1 := IV_K hI g1 t2 (by decide +kernel)
  refine r_sx (sx_ok hL h0 h6 1 (by decide)) (fun v365 q365 => ?_)
  rw [sx_v q361 q365]
  refine r_sx (sx_ok hL h0 h6 2 (by decide)) (fun v366 q366 => ?_)
  rw [sx_v q362 q366]
  refine r_rv g1.1 (t2.up g1.ty) rfl ?_
  refine r_b2 (ho_eqn (mm_link g1.1 (t2.up g1.ty) i1.1 (by have := i1.2; omega))) (fun v369 S368 p2 => ?_)
  obtain ⟨e2, g2, m2⟩ := p2
  obtain ⟨th, an, rp⟩ := pf_link hI hn hr e1 g1 e2 g2
  exact (hk _ (LW_M hI t1 t2 t3 g1 i1.2 f1 g2 m2 rp (by decide +kernel)))
theorem c_foreign {X : Nat → Int32} {L : Nat} {k : AS → Option Nat → Option Nat → Option Nat → Int32 → Option (Int32 × AS)} {Q : Int32 × AS → Prop} {n : Nat} {S : AS} {x : Int32} (hL : L ≤ 3072) (h0 : 0 ≤ x.toInt) (h6 : x.toInt + 6 ≤ (L : Int)) (hn : n ≤ 600) (hw : LW n S) (hk : ∀ S', LW (n + 1) S' → Ho (k S' (some 4) (some 57) (some 126) (x + 6)) Q) : Ho (f_W_law_B1859 X L k S (some 4) (some 57) (some 126) x) Q := by
  obtain ⟨T, hI, t1, t2, t3, hr⟩ := hw
  unfold f_W_law_B1859
  refine r_sx (sx_ok hL h0 h6 1 (by decide)) (fun v370 q370 => ?_)
  refine r_b2 (ho_eqn (w_foreign hI.1 t1 t3)) (fun v372 S371 p => ?_)
  obtain ⟨e1, T1, g1⟩ := p
  have g1 : Rl T (99999 :: kw_K50) S 10 700 T1 S371 := g1
  have f1 := FT_fr hI.2.2.2.1 g1 (by decide +kernel)
  have i1 := IV_K hI g1 t2 (by decide +kernel)
  refine r_sx (sx_ok hL h0 h6 1 (by decide)) (fun v373 q373 => ?_)
  rw [sx_v q370 q373]
  refine r_rv g1.1 (t2.up g1.ty) rfl ?_
  refine r_b2 (ho_eqn (mm_foreign g1.1 (t2.up g1.ty) i1.1 (by have := i1.2; omega))) (fun v376 S375 p2 => ?_)
  obtain ⟨e2, g2, m2⟩ := p2
  obtain ⟨th, an, rp⟩ := pf_foreign hI hn hr e1 g1 e2 g2
  exact (hk _ (LW_M hI t1 t2 t3 g1 i1.2 f1 g2 m2 rp (by decide +kernel)))
theorem c_leave {X : Nat → Int32} {L : Nat} {k : AS → Option Nat → Option Nat → Option Nat → Int32 → Option (Int32 × AS)} {Q : Int32 × AS → Prop} {n : Nat} {S : AS} {x : Int32} (hL : L ≤ 3072) (h0 : 0 ≤ x.toInt) (h6 : x.toInt + 6 ≤ (L : Int)) (hn : n ≤ 600) (hw : LW n S) (hk : ∀ S', LW (n + 1) S' → Ho (k S' (some 4) (some 57) (some 126) (x + 6)) Q) : Ho (f_W_law_B1887 X L k S (some 4) (some 57) (some 126) x) Q := by
  obtain ⟨T, hI, t1, t2, t3, hr⟩ := hw
  unfold f_W_law_B1887
  refine r_sx (sx_ok hL h0 h6 1 (by decide)) (fun v377 q377 => ?_)
  refine r_b2 (ho_eqn (w_leave hI.1 t1 t3)) (fun v379 S378 p => ?_)
  obtain ⟨e1, T1, g1⟩ := p
  have g1 : Rl T (99999 :: kw_K106) S 10 700 T1 S378 := g1
  have f1 := FT_fr hI.2.2.2.1 g1 (by decide +kernel)
  have i1 := IV_K hI g1 t2 (by decide +kernel)
  refine r_sx (sx_ok hL h0 h6 1 (by decide)) (fun v380 q380 => ?_)
  rw [sx_v q377 q380]
  refine r_rv g1.1 (t2.up g1.ty) rfl ?_
  refine r_b2 (ho_eqn (mm_leave g1.1 (t2.up g1.ty) i1.1 (by have := i1.2; omega))) (fun v383 S382 p2 => ?_)
  obtain ⟨e2, g2, m2⟩ := p2
  obtain ⟨th, an, rp⟩ := pf_leave hI hn hr e1 g1 e2 g2
  exact (hk _ (LW_M hI t1 t2 t3 g1 i1.2 f1 g2 m2 rp (by decide +kernel)))
theorem c_audits {X : Nat → Int32} {L : Nat} {k : AS → Option Nat → Option Nat → Option Nat → Int32 → Option (Int32 × AS)} {Q : Int32 × AS → Prop} {n : Nat} {S : AS} {x : Int32} (hL : L ≤ 3072) (h0 : 0 ≤ x.toInt) (h6 : x.toInt + 6 ≤ (L : Int)) (hn : n ≤ 600) (hw : LW n S) (hk : ∀ S', LW (n + 1) S' → Ho (k S' (some 4) (some 57) (some 126) (x + 6)) Q) : Ho (f_W_law_B1915 X L k S (some 4) (some 57) (some 126) x) Q := by
  obtain ⟨T, hI, t1, t2, t3, hr⟩ := hw
  unfold f_W_law_B1915
  refine r_rv hI.1 t1 rfl ?_
  refine r_b2 (ho_eqn (t_K_audits hI.1 t1)) (fun v386 S385 p => ?_)
  obtain ⟨e1, e, -⟩ := p
  have e : S385 = S := e
  have g1 : Rl T (99999 :: []) S 10 700 T S385 := by
    rw [e]
    exact Rlweak (Rlrf hI.1) (fun _ z => List.mem_cons_of_mem _ z) (by decide) (by decide)
  have f1 := FT_fr hI.2.2.2.1 g1 (by decide +kernel)
  have i1 := IV_K hI g1 t2 (by decide +kernel)
  refine r_rv g1.1 (t2.up g1.ty) rfl ?_
  refine r_b2 (ho_eqn (mm_audits g1.1 (t2.up g1.ty) i1.1 (by have := i1.2; omega))) (fun v389 S388 p2 => ?_)
  obtain ⟨e2, g2, m2⟩ := p2
  obtain ⟨an, rp⟩ := pf_audits hI hn hr e1 g1 e2 g2
  exact (hk _ (LW_M hI t1 t2 t3 g1 i1.2 f1 g2 m2 rp (by decide +kernel)))
theorem c_audit {X : Nat → Int32} {L : Nat} {k : AS → Option Nat → Option Nat → Option Nat → Int32 → Option (Int32 × AS)} {Q : Int32 × AS → Prop} {n : Nat} {S : AS} {x : Int32} (hL : L ≤ 3072) (h0 : 0 ≤ x.toInt) (h6 : x.toInt + 6 ≤ (L : Int)) (hn : n ≤ 600) (hw : LW n S) (hk : ∀ S', LW (n + 1) S' → Ho (k S' (some 4) (some 57) (some 126) (x + 6)) Q) : Ho (f_W_law_B1928 X L k S (some 4) (some 57) (some 126) x) Q := by
  obtain ⟨T, hI, t1, t2, t3, hr⟩ := hw
  unfold f_W_law_B1928
  refine r_sx (sx_ok hL h0 h6 1 (by decide)) (fun v390 q390 => ?_)
  refine r_b2 ((w_audit hI.1 t1 t3)) (fun v392 S391 p => ?_)
  obtain ⟨T1, g1⟩ := p
  have f1 := FT_fr hI.2.2.2.1 g1 (by decide +kernel)
  have i1 := IV_K hI g1 t2 (by decide +kernel)
  refine r_sx (sx_ok hL h0 h6 1 (by decide)) (fun v393 q393 => ?_)
  rw [sx_v q390 q393]
  refine r_rv g1.1 (t2.up g1.ty) rfl ?_
  refine r_b2 ((mm_audit g1.1 (t2.up g1.ty) i1.1 (by have := i1.2; omega))) (fun v396 S395 p2 => ?_)
  obtain ⟨g2, m2⟩ := p2
  exact (hk _ (LW_M hI t1 t2 t3 g1 i1.2 f1 g2 m2 (RP_fr (RP_fr hr hI.1 g1 (by decide +kernel)) g1.1 g2 (by decide +kernel)) (by decide +kernel)))
theorem c_sum {X : Nat → Int32} {L : Nat} {k : AS → Option Nat → Option Nat → Option Nat → Int32 → Option (Int32 × AS)} {Q : Int32 × AS → Prop} {n : Nat} {S : AS} {x : Int32} (hL : L ≤ 3072) (h0 : 0 ≤ x.toInt) (h6 : x.toInt + 6 ≤ (L : Int)) (hn : n ≤ 600) (hw : LW n S) (hk : ∀ S', LW (n + 1) S' → Ho (k S' (some 4) (some 57) (some 126) (x + 6)) Q) : Ho (f_W_law_B1956 X L k S (some 4) (some 57) (some 126) x) Q := by
  obtain ⟨T, hI, t1, t2, t3, hr⟩ := hw
  unfold f_W_law_B1956
  refine r_rv hI.1 t1 rfl ?_
  refine r_b2 ((t_K_sum hI.1 t1)) (fun v399 S398 p => ?_)
  obtain ⟨e, -⟩ := p
  have e : S398 = S := e
  have g1 : Rl T (99999 :: []) S 10 700 T S398 := by
    rw [e]
    exact Rlweak (Rlrf hI.1) (fun _ z => List.mem_cons_of_mem _ z) (by decide) (by decide)
  have f1 := FT_fr hI.2.2.2.1 g1 (by decide +kernel)
  have i1 := IV_K hI g1 t2 (by decide +kernel)
  refine r_rv g1.1 (t2.up g1.ty) rfl ?_
  refine r_b2 ((mm_sum g1.1 (t2.up g1.ty) i1.1 (by have := i1.2; omega))) (fun v402 S401 p2 => ?_)
  obtain ⟨g2, m2⟩ := p2
  exact (hk _ (LW_M hI t1 t2 t3 g1 i1.2 f1 g2 m2 (RP_fr (RP_fr hr hI.1 g1 (by decide +kernel)) g1.1 g2 (by decide +kernel)) (by decide +kernel)))
theorem c_sumAnew {X : Nat → Int32} {L : Nat} {k : AS → Option Nat → Option Nat → Option Nat → Int32 → Option (Int32 × AS)} {Q : Int32 × AS → Prop} {n : Nat} {S : AS} {x : Int32} (hL : L ≤ 3072) (h0 : 0 ≤ x.toInt) (h6 : x.toInt + 6 ≤ (L : Int)) (hn : n ≤ 600) (hw : LW n S) (hk : ∀ S', LW (n + 1) S' → Ho (k S' (some 4) (some 57) (some 126) (x + 6)) Q) : Ho (f_W_law_B1969 X L k S (some 4) (some 57) (some 126) x) Q := by
  obtain ⟨T, hI, t1, t2, t3, hr⟩ := hw
  unfold f_W_law_B1969
  refine r_sx (sx_ok hL h0 h6 1 (by decide)) (fun v403 q403 => ?_)
  refine r_b2 ((w_sumAnew hI.1 t1 t3)) (fun v405 S404 p => ?_)
  obtain ⟨T1, g1⟩ := p
  have f1 := FT_fr hI.2.2.2.1 g1 (by decide +kernel)
  have i1 := IV_K hI g1 t2 (by decide +kernel)
  refine r_sx (sx_ok hL h0 h6 1 (by decide)) (fun v406 q406 => ?_)
  rw [sx_v q403 q406]
  refine r_rv g1.1 (t2.up g1.ty) rfl ?_
  refine r_b2 ((mm_sumAnew g1.1 (t2.up g1.ty) i1.1 (by have := i1.2; omega))) (fun v409 S408 p2 => ?_)
  obtain ⟨g2, m2⟩ := p2
  exact (hk _ (LW_M hI t1 t2 t3 g1 i1.2 f1 g2 m2 (RP_fr (RP_fr hr hI.1 g1 (by decide +kernel)) g1.1 g2 (by decide +kernel)) (by decide +kernel)))
