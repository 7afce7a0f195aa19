/-! ===== one lemma for each call of the law ===== -/
theorem c_pass {X : Nat → Int32} {L : Nat} {k : AS → Option Nat → Option Nat → Option Nat → Int32 → Option (Int32 × AS)} {Q : Int32 × AS → Prop} {n : Nat} {S : AS} {x : Int32} (hL : L ≤ 3072) (h0 : 0 ≤ x.toInt) (h6 : x.toInt + 6 ≤ (L : Int)) (hn : n ≤ 600) (hw : LW n S) (hk : ∀ S', LW (n + 1) S' → Ho (k S' (some 4) (some 57) (some 126) (x + 6)) Q) : Ho (f_W_law_B260 X L k S (some 4) (some 57) (some 126) x) Q := by
  obtain ⟨T, hI, t1, t2, t3, hr⟩ := hw
  unfold f_W_law_B260
  refine r_sx (sx_ok hL h0 h6 1 (by decide)) (fun v2 q2 => ?_)
  refine r_b2 (ho_eqn (w_pass hI.1 t1 t3)) (fun v4 S3 p => ?_)
  obtain ⟨e1, T1, g1⟩ := p
  have g1 : Rl T (99999 :: kw_K41) S 10 700 T1 S3 := g1
  have f1 := FT_fr hI.2.2.2.1 g1 (by decide +kernel)
  have i1 := IV_K hI g1 t2 (by decide +kernel)
  refine r_sx (sx_ok hL h0 h6 1 (by decide)) (fun v5 q5 => ?_)
  rw [sx_v q2 q5]
  refine r_rv g1.1 (t2.up g1.ty) rfl ?_
  refine r_b2 (ho_eqn (mm_pass g1.1 (t2.up g1.ty) i1.1 (by have := i1.2; omega))) (fun v8 S7 p2 => ?_)
  obtain ⟨e2, g2, m2⟩ := p2
  obtain ⟨th, an, rp⟩ := pf_pass hI hn hr e1 g1 e2 g2
  exact (hk _ (LW_M hI t1 t2 t3 g1 i1.2 f1 g2 m2 rp (by decide +kernel)))
theorem c_enroll {X : Nat → Int32} {L : Nat} {k : AS → Option Nat → Option Nat → Option Nat → Int32 → Option (Int32 × AS)} {Q : Int32 × AS → Prop} {n : Nat} {S : AS} {x : Int32} (hL : L ≤ 3072) (h0 : 0 ≤ x.toInt) (h6 : x.toInt + 6 ≤ (L : Int)) (hn : n ≤ 600) (hw : LW n S) (hk : ∀ S', LW (n + 1) S' → Ho (k S' (some 4) (some 57) (some 126) (x + 6)) Q) : Ho (f_W_law_B288 X L k S (some 4) (some 57) (some 126) x) Q := by
  obtain ⟨T, hI, t1, t2, t3, hr⟩ := hw
  unfold f_W_law_B288
  refine r_sx (sx_ok hL h0 h6 1 (by decide)) (fun v9 q9 => ?_)
  refine r_sx (sx_ok hL h0 h6 2 (by decide)) (fun v10 q10 => ?_)
  refine r_b2 (ho_eqn (w_enroll hI.1 t1 t3)) (fun v12 S11 p => ?_)
  obtain ⟨e1, T1, g1⟩ := p
  have g1 : Rl T (99999 :: kw_K11) S 10 700 T1 S11 := g1
  have f1 := FT_fr hI.2.2.2.1 g1 (by decide +kernel)
  have i1 := IV_K hI g1 t2 (by decide +kernel)
  refine r_sx (sx_ok hL h0 h6 1 (by decide)) (fun v13 q13 => ?_)
  rw [sx_v q9 q13]
  refine r_sx (sx_ok hL h0 h6 2 (by decide)) (fun v14 q14 => ?_)
  rw [sx_v q10 q14]
  refine r_rv g1.1 (t2.up g1.ty) rfl ?_
  refine r_b2 (ho_eqn (mm_enroll g1.1 (t2.up g1.ty) i1.1 (by have := i1.2; omega))) (fun v17 S16 p2 => ?_)
  obtain ⟨e2, g2, m2⟩ := p2
  obtain ⟨th, an, rp⟩ := pf_enroll hI hn hr e1 g1 e2 g2
  exact (hk _ (LW_M hI t1 t2 t3 g1 i1.2 f1 g2 m2 rp (by decide +kernel)))
theorem c_factor {X : Nat → Int32} {L : Nat} {k : AS → Option Nat → Option Nat → Option Nat → Int32 → Option (Int32 × AS)} {Q : Int32 × AS → Prop} {n : Nat} {S : AS} {x : Int32} (hL : L ≤ 3072) (h0 : 0 ≤ x.toInt) (h6 : x.toInt + 6 ≤ (L : Int)) (hn : n ≤ 600) (hw : LW n S) (hk : ∀ S', LW (n + 1) S' → Ho (k S' (some 4) (some 57) (some 126) (x + 6)) Q) : Ho (f_W_law_B328 X L k S (some 4) (some 57) (some 126) x) Q := by
  obtain ⟨T, hI, t1, t2, t3, hr⟩ := hw
  unfold f_W_law_B328
  refine r_sx (sx_ok hL h0 h6 1 (by decide)) (fun v18 q18 => ?_)
  refine r_sx (sx_ok hL h0 h6 2 (by decide)) (fun v19 q19 => ?_)
  refine r_b2 (ho_eqn (w_factor hI.1 t1 t3)) (fun v21 S20 p => ?_)
  obtain ⟨e1, T1, g1⟩ := p
  have g1 : Rl T (99999 :: []) S 10 700 T1 S20 := g1
  have f1 := FT_fr hI.2.2.2.1 g1 (by decide +kernel)
  have i1 := IV_K hI g1 t2 (by decide +kernel)
  refine r_sx (sx_ok hL h0 h6 1 (by decide)) (fun v22 q22 => ?_)
  rw [sx_v q18 q22]
  refine r_sx (sx_ok hL h0 h6 2 (by decide)) (fun v23 q23 => ?_)
  rw [sx_v q19 q23]
  refine r_rv g1.1 (t2.up g1.ty) rfl ?_
  refine r_b2 (ho_eqn (mm_factor g1.1 (t2.up g1.ty) i1.1 (by have := i1.2; omega))) (fun v26 S25 p2 => ?_)
  obtain ⟨e2, g2, m2⟩ := p2
  obtain ⟨th, an, rp⟩ := pf_factor hI hn hr e1 g1 e2 g2
  exact (hk _ (LW_M hI t1 t2 t3 g1 i1.2 f1 g2 m2 rp (by decide +kernel)))
theorem c_step {X : Nat → Int32} {L : Nat} {k : AS → Option Nat → Option Nat → Option Nat → Int32 → Option (Int32 × AS)} {Q : Int32 × AS → Prop} {n : Nat} {S : AS} {x : Int32} (hL : L ≤ 3072) (h0 : 0 ≤ x.toInt) (h6 : x.toInt + 6 ≤ (L : Int)) (hn : n ≤ 600) (hw : LW n S) (hk : ∀ S', LW (n + 1) S' → Ho (k S' (some 4) (some 57) (some 126) (x + 6)) Q) : Ho (f_W_law_B368 X L k S (some 4) (some 57) (some 126) x) Q := by
  obtain ⟨T, hI, t1, t2, t3, hr⟩ := hw
  unfold f_W_law_B368
  refine r_sx (sx_ok hL h0 h6 1 (by decide)) (fun v27 q27 => ?_)
  refine r_sx (sx_ok hL h0 h6 2 (by decide)) (fun v28 q28 => ?_)
  refine r_sx (sx_ok hL h0 h6 3 (by decide)) (fun v29 q29 => ?_)
  refine r_sx (sx_ok hL h0 h6 4 (by decide)) (fun v30 q30 => ?_)
  refine r_sx (sx_ok hL h0 h6 5 (by decide)) (fun v31 q31 => ?_)
  refine r_b2 (ho_eqn (w_step hI.1 t1 t3)) (fun v33 S32 p => ?_)
  obtain ⟨e1, T1, g1⟩ := p
  have g1 : Rl T (99999 :: kw_K13) S 10 700 T1 S32 := g1
  have f1 := FT_fr hI.2.2.2.1 g1 (by decide +kernel)
  have i1 := IV_K hI g1 t2 (by decide +kernel)
  refine r_sx (sx_ok hL h0 h6 1 (by decide)) (fun v34 q34 => ?_)
  rw [sx_v q27 q34]
  refine r_sx (sx_ok hL h0 h6 2 (by decide)) (fun v35 q35 => ?_)
  rw [sx_v q28 q35]
  refine r_sx (sx_ok hL h0 h6 3 (by decide)) (fun v36 q36 => ?_)
  rw [sx_v q29 q36]
  refine r_sx (sx_ok hL h0 h6 4 (by decide)) (fun v37 q37 => ?_)
  rw [sx_v q30 q37]
  refine r_sx (sx_ok hL h0 h6 5 (by decide)) (fun v38 q38 => ?_)
  rw [sx_v q31 q38]
  refine r_rv g1.1 (t2.up g1.ty) rfl ?_
  refine r_b2 (ho_eqn (mm_step g1.1 (t2.up g1.ty) i1.1 (by have := i1.2; omega))) (fun v41 S40 p2 => ?_)
  obtain ⟨e2, g2, m2⟩ := p2
  obtain ⟨th, an, rp⟩ := pr_step hI hr e1 g1 e2 g2
  exact (hk _ (LW_M hI t1 t2 t3 g1 i1.2 f1 g2 m2 rp (by decide +kernel)))
theorem c_clear {X : Nat → Int32} {L : Nat} {k : AS → Option Nat → Option Nat → Option Nat → Int32 → Option (Int32 × AS)} {Q : Int32 × AS → Prop} {n : Nat} {S : AS} {x : Int32} (hL : L ≤ 3072) (h0 : 0 ≤ x.toInt) (h6 : x.toInt + 6 ≤ (L : Int)) (hn : n ≤ 600) (hw : LW n S) (hk : ∀ S', LW (n + 1) S' → Ho (k S' (some 4) (some 57) (some 126) (x + 6)) Q) : Ho (f_W_law_B444 X L k S (some 4) (some 57) (some 126) x) Q := by
  obtain ⟨T, hI, t1, t2, t3, hr⟩ := hw
  unfold f_W_law_B444
  refine r_rv hI.1 t1 rfl ?_
  refine r_b2 (ho_eqn (t_K_clear hI.1 t1)) (fun v44 S43 p => ?_)
  obtain ⟨e1, e, -⟩ := p
  have g1 := Rlweak (c' := 10) (s' := 700) e (fun _ z => List.mem_cons_of_mem 99999 z) (by decide) (by decide)
  have f1 := FT_fr hI.2.2.2.1 g1 (by decide +kernel)
  have i1 := IV_K hI g1 t2 (by decide +kernel)
  refine r_rv g1.1 (t2.up g1.ty) rfl ?_
  refine r_b2 (ho_eqn (mm_clear g1.1 (t2.up g1.ty) i1.1 (by have := i1.2; omega))) (fun v47 S46 p2 => ?_)
  obtain ⟨e2, g2, m2⟩ := p2
  obtain ⟨an, rp⟩ := pr_clear hI hr e1 g1 e2 g2
  exact (hk _ (LW_M hI t1 t2 t3 g1 i1.2 f1 g2 m2 rp (by decide +kernel)))
theorem c_publish {X : Nat → Int32} {L : Nat} {k : AS → Option Nat → Option Nat → Option Nat → Int32 → Option (Int32 × AS)} {Q : Int32 × AS → Prop} {n : Nat} {S : AS} {x : Int32} (hL : L ≤ 3072) (h0 : 0 ≤ x.toInt) (h6 : x.toInt + 6 ≤ (L : Int)) (hn : n ≤ 600) (hw : LW n S) (hk : ∀ S', LW (n + 1) S' → Ho (k S' (some 4) (some 57) (some 126) (x + 6)) Q) : Ho (f_W_law_B457 X L k S (some 4) (some 57) (some 126) x) Q := by
  obtain ⟨T, hI, t1, t2, t3, hr⟩ := hw
  unfold f_W_law_B457
  refine r_b2 (ho_eqn (w_publish hI.1 t1 t3)) (fun v49 S48 p => ?_)
  obtain ⟨e1, T1, g1⟩ := p
  have g1 : Rl T (99999 :: kw_K44) S 10 700 T1 S48 := g1
  have f1 := FT_fr hI.2.2.2.1 g1 (by decide +kernel)
  have i1 := IV_K hI g1 t2 (by decide +kernel)
  refine r_rv g1.1 (t2.up g1.ty) rfl ?_
  refine r_b2 (ho_eqn (mm_publish g1.1 (t2.up g1.ty) i1.1 (by have := i1.2; omega))) (fun v52 S51 p2 => ?_)
  obtain ⟨e2, g2, m2⟩ := p2
  obtain ⟨th, an, rp⟩ := pr_publish hI hr e1 g1 e2 g2
  exact (hk _ (LW_M hI t1 t2 t3 g1 i1.2 f1 g2 m2 rp (by decide +kernel)))
theorem c_weakest {X : Nat → Int32} {L : Nat} {k : AS → Option Nat → Option Nat → Option Nat → Int32 → Option (Int32 × AS)} {Q : Int32 × AS → Prop} {n : Nat} {S : AS} {x : Int32} (hL : L ≤ 3072) (h0 : 0 ≤ x.toInt) (h6 : x.toInt + 6 ≤ (L : Int)) (hn : n ≤ 600) (hw : LW n S) (hk : ∀ S', LW (n + 1) S' → Ho (k S' (some 4) (some 57) (some 126) (x + 6)) Q) : Ho (f_W_law_B473 X L k S (some 4) (some 57) (some 126) x) Q := by
  obtain ⟨T, hI, t1, t2, t3, hr⟩ := hw
  unfold f_W_law_B473
  refine r_sx (sx_ok hL h0 h6 1 (by decide)) (fun v53 q53 => ?_)
  refine r_b2 (ho_eqn (w_weakest hI.1 t1 t3)) (fun v55 S54 p => ?_)
  obtain ⟨e1, T1, g1⟩ := p
  have g1 : Rl T (99999 :: kw_K14) S 10 700 T1 S54 := g1
  have f1 := FT_fr hI.2.2.2.1 g1 (by decide +kernel)
  have i1 := IV_K hI g1 t2 (by decide +kernel)
  refine r_sx (sx_ok hL h0 h6 1 (by decide)) (fun v56 q56 => ?_)
  rw [sx_v q53 q56]
  refine r_rv g1.1 (t2.up g1.ty) rfl ?_
  refine r_b2 (ho_eqn (mm_weakest g1.1 (t2.up g1.ty) i1.1 (by have := i1.2; omega))) (fun v59 S58 p2 => ?_)
  obtain ⟨e2, g2, m2⟩ := p2
  obtain ⟨th, an, rp⟩ := pf_weakest hI hn hr e1 g1 e2 g2
  exact (hk _ (LW_M hI t1 t2 t3 g1 i1.2 f1 g2 m2 rp (by decide +kernel)))
theorem c_points {X : Nat → Int32} {L : Nat} {k : AS → Option Nat → Option Nat → Option Nat → Int32 → Option (Int32 × AS)} {Q : Int32 × AS → Prop} {n : Nat} {S : AS} {x : Int32} (hL : L ≤ 3072) (h0 : 0 ≤ x.toInt) (h6 : x.toInt + 6 ≤ (L : Int)) (hn : n ≤ 600) (hw : LW n S) (hk : ∀ S', LW (n + 1) S' → Ho (k S' (some 4) (some 57) (some 126) (x + 6)) Q) : Ho (f_W_law_B501 X L k S (some 4) (some 57) (some 126) x) Q := by
  obtain ⟨T, hI, t1, t2, t3, hr⟩ := hw
  unfold f_W_law_B501
  refine r_sx (sx_ok hL h0 h6 1 (by decide)) (fun v68 q68 => ?_)
  refine r_sx (sx_ok hL h0 h6 2 (by decide)) (fun v69 q69 => ?_)
  refine r_sx (sx_ok hL h0 h6 3 (by decide)) (fun v70 q70 => ?_)
  refine r_if (fun cv70 => ?_) (fun cv70 => ?_)
  · skip
    unfold f_W_law_B528
    refine r_b2 (ho_eqn (w_points hI.1 t1 t3)) (fun v64 S63 p => ?_)
    obtain ⟨e1, T1, g1⟩ := p
    have g1 : Rl T (99999 :: kw_K47) S 10 700 T1 S63 := g1
    have f1 := FT_fr hI.2.2.2.1 g1 (by decide +kernel)
    have i1 := IV_K hI g1 t2 (by decide +kernel)
    refine r_sx (sx_ok hL h0 h6 1 (by decide)) (fun v65 q65 => ?_)
    rw [sx_v q68 q65]
    refine r_sx (sx_ok hL h0 h6 2 (by decide)) (fun v66 q66 => ?_)
    rw [sx_v q69 q66]
    refine r_sx (sx_ok hL h0 h6 3 (by decide)) (fun v67 q67 => ?_)
    rw [sx_v q70 q67]
    refine r_ifT cv70 ?_
    unfold f_W_law_B561
    refine r_rv g1.1 (t2.up g1.ty) rfl ?_
    refine r_b2 (ho_eqn (mm_points g1.1 (t2.up g1.ty) i1.1 (by have := i1.2; omega))) (fun v62 S61 p2 => ?_)
    obtain ⟨e2, g2, m2⟩ := p2
    obtain ⟨th, an, rp⟩ := pf_points hI hn hr e1 g1 e2 g2
    exact (hk _ (LW_M hI t1 t2 t3 g1 i1.2 f1 g2 m2 rp (by decide +kernel)))
  · skip
    unfold f_W_law_B528
    refine r_b2 (ho_eqn (w_points hI.1 t1 t3)) (fun v64 S63 p => ?_)
    obtain ⟨e1, T1, g1⟩ := p
    have g1 : Rl T (99999 :: kw_K47) S 10 700 T1 S63 := g1
    have f1 := FT_fr hI.2.2.2.1 g1 (by decide +kernel)
    have i1 := IV_K hI g1 t2 (by decide +kernel)
    refine r_sx (sx_ok hL h0 h6 1 (by decide)) (fun v65 q65 => ?_)
    rw [sx_v q68 q65]
    refine r_sx (sx_ok hL h0 h6 2 (by decide)) (fun v66 q66 => ?_)
    rw [sx_v q69 q66]
    refine r_sx (sx_ok hL h0 h6 3 (by decide)) (fun v67 q67 => ?_)
    rw [sx_v q70 q67]
    refine r_ifF cv70 ?_
    unfold f_W_law_B561
    refine r_rv g1.1 (t2.up g1.ty) rfl ?_
    refine r_b2 (ho_eqn (mm_points g1.1 (t2.up g1.ty) i1.1 (by have := i1.2; omega))) (fun v62 S61 p2 => ?_)
    obtain ⟨e2, g2, m2⟩ := p2
    obtain ⟨th, an, rp⟩ := pf_points hI hn hr e1 g1 e2 g2
    exact (hk _ (LW_M hI t1 t2 t3 g1 i1.2 f1 g2 m2 rp (by decide +kernel)))
theorem c_begin {X : Nat → Int32} {L : Nat} {k : AS → Option Nat → Option Nat → Option Nat → Int32 → Option (Int32 × AS)} {Q : Int32 × AS → Prop} {n : Nat} {S : AS} {x : Int32} (hL : L ≤ 3072) (h0 : 0 ≤ x.toInt) (h6 : x.toInt + 6 ≤ (L : Int)) (hn : n ≤ 600) (hw : LW n S) (hk : ∀ S', LW (n + 1) S' → Ho (k S' (some 4) (some 57) (some 126) (x + 6)) Q) : Ho (f_W_law_B569 X L k S (some 4) (some 57) (some 126) x) Q := by
  obtain ⟨T, hI, t1, t2, t3, hr⟩ := hw
  unfold f_W_law_B569
  refine r_sx (sx_ok hL h0 h6 1 (by decide)) (fun v71 q71 => ?_)
  refine r_sx (sx_ok hL h0 h6 2 (by decide)) (fun v72 q72 => ?_)
  refine r_sx (sx_ok hL h0 h6 3 (by decide)) (fun v73 q73 => ?_)
  refine r_b2 (ho_eqn (w_begin hI.1 t1 t3)) (fun v75 S74 p => ?_)
  obtain ⟨e1, T1, g1⟩ := p
  have g1 : Rl T (99999 :: kw_K57) S 10 700 T1 S74 := g1
  have f1 := FT_fr hI.2.2.2.1 g1 (by decide +kernel)
  have i1 := IV_K hI g1 t2 (by decide +kernel)
  refine r_sx (sx_ok hL h0 h6 1 (by decide)) (fun v76 q76 => ?_)
  rw [sx_v q71 q76]
  refine r_sx (sx_ok hL h0 h6 2 (by decide)) (fun v77 q77 => ?_)
  rw [sx_v q72 q77]
  refine r_sx (sx_ok hL h0 h6 3 (by decide)) (fun v78 q78 => ?_)
  rw [sx_v q73 q78]
  refine r_rv g1.1 (t2.up g1.ty) rfl ?_
  refine r_b2 (ho_eqn (mm_begin g1.1 (t2.up g1.ty) i1.1 (by have := i1.2; omega))) (fun v81 S80 p2 => ?_)
  obtain ⟨e2, g2, m2⟩ := p2
  obtain ⟨th, an, rp⟩ := pf_begin hI hn hr e1 g1 e2 g2
  exact (hk _ (LW_M hI t1 t2 t3 g1 i1.2 f1 g2 m2 rp (by decide +kernel)))
theorem c_answer {X : Nat → Int32} {L : Nat} {k : AS → Option Nat → Option Nat → Option Nat → Int32 → Option (Int32 × AS)} {Q : Int32 × AS → Prop} {n : Nat} {S : AS} {x : Int32} (hL : L ≤ 3072) (h0 : 0 ≤ x.toInt) (h6 : x.toInt + 6 ≤ (L : Int)) (hn : n ≤ 600) (hw : LW n S) (hk : ∀ S', LW (n + 1) S' → Ho (k S' (some 4) (some 57) (some 126) (x + 6)) Q) : Ho (f_W_law_B621 X L k S (some 4) (some 57) (some 126) x) Q := by
  obtain ⟨T, hI, t1, t2, t3, hr⟩ := hw
  unfold f_W_law_B621
  refine r_sx (sx_ok hL h0 h6 1 (by decide)) (fun v91 q91 => ?_)
  refine r_sx (sx_ok hL h0 h6 2 (by decide)) (fun v92 q92 => ?_)
  refine r_if (fun cv92 => ?_) (fun cv92 => ?_)
  · skip
    unfold f_W_law_B642
    refine r_sx (sx_ok hL h0 h6 3 (by decide)) (fun v86 q86 => ?_)
    refine r_b2 (ho_eqn (w_answer hI.1 t1 t3)) (fun v88 S87 p => ?_)
    obtain ⟨e1, T1, g1⟩ := p
    have g1 : Rl T (99999 :: kw_K63) S 10 700 T1 S87 := g1
    have f1 := FT_fr hI.2.2.2.1 g1 (by decide +kernel)
    have i1 := IV_K hI g1 t2 (by decide +kernel)
    refine r_sx (sx_ok hL h0 h6 1 (by decide)) (fun v89 q89 => ?_)
    rw [sx_v q91 q89]
    refine r_sx (sx_ok hL h0 h6 2 (by decide)) (fun v90 q90 => ?_)
    rw [sx_v q92 q90]
    refine r_ifT cv92 ?_
    unfold f_W_law_B675
    refine r_sx (sx_ok hL h0 h6 3 (by decide)) (fun v82 q82 => ?_)
    rw [sx_v q86 q82]
    refine r_rv g1.1 (t2.up g1.ty) rfl ?_
    refine r_b2 (ho_eqn (mm_answer g1.1 (t2.up g1.ty) i1.1 (by have := i1.2; omega))) (fun v85 S84 p2 => ?_)
    obtain ⟨e2, g2, m2⟩ := p2
    obtain ⟨th, an, rp⟩ := pf_answer hI hn hr e1 g1 e2 g2
    exact (hk _ (LW_M hI t1 t2 t3 g1 i1.2 f1 g2 m2 rp (by decide +kernel)))
  · skip
    unfold f_W_law_B642
    refine r_sx (sx_ok hL h0 h6 3 (by decide)) (fun v86 q86 => ?_)
    refine r_b2 (ho_eqn (w_answer hI.1 t1 t3)) (fun v88 S87 p => ?_)
    obtain ⟨e1, T1, g1⟩ := p
    have g1 : Rl T (99999 :: kw_K63) S 10 700 T1 S87 := g1
    have f1 := FT_fr hI.2.2.2.1 g1 (by decide +kernel)
    have i1 := IV_K hI g1 t2 (by decide +kernel)
    refine r_sx (sx_ok hL h0 h6 1 (by decide)) (fun v89 q89 => ?_)
    rw [sx_v q91 q89]
    refine r_sx (sx_ok hL h0 h6 2 (by decide)) (fun v90 q90 => ?_)
    rw [sx_v q92 q90]
    refine r_ifF cv92 ?_
    unfold f_W_law_B675
    refine r_sx (sx_ok hL h0 h6 3 (by decide)) (fun v82 q82 => ?_)
    rw [sx_v q86 q82]
    refine r_rv g1.1 (t2.up g1.ty) rfl ?_
    refine r_b2 (ho_eqn (mm_answer g1.1 (t2.up g1.ty) i1.1 (by have := i1.2; omega))) (fun v85 S84 p2 => ?_)
    obtain ⟨e2, g2, m2⟩ := p2
    obtain ⟨th, an, rp⟩ := pf_answer hI hn hr e1 g1 e2 g2
    exact (hk _ (LW_M hI t1 t2 t3 g1 i1.2 f1 g2 m2 rp (by decide +kernel)))
theorem c_state {X : Nat → Int32} {L : Nat} {k : AS → Option Nat → Option Nat → Option Nat → Int32 → Option (Int32 × AS)} {Q : Int32 × AS → Prop} {n : Nat} {S : AS} {x : Int32} (hL : L ≤ 3072) (h0 : 0 ≤ x.toInt) (h6 : x.toInt + 6 ≤ (L : Int)) (hn : n ≤ 600) (hw : LW n S) (hk : ∀ S', LW (n + 1) S' → Ho (k S' (some 4) (some 57) (some 126) (x + 6)) Q) : Ho (f_W_law_B689 X L k S (some 4) (some 57) (some 126) x) Q := by
  obtain ⟨T, hI, t1, t2, t3, hr⟩ := hw
  unfold f_W_law_B689
  refine r_sx (sx_ok hL h0 h6 1 (by decide)) (fun v93 q93 => ?_)
  refine r_b2 (ho_eqn (w_state hI.1 t1 t3)) (fun v95 S94 p => ?_)
  obtain ⟨e1, T1, g1⟩ := p
  have g1 : Rl T (99999 :: []) S 10 700 T1 S94 := g1
  have f1 := FT_fr hI.2.2.2.1 g1 (by decide +kernel)
  have i1 := IV_K hI g1 t2 (by decide +kernel)
  refine r_sx (sx_ok hL h0 h6 1 (by decide)) (fun v96 q96 => ?_)
  rw [sx_v q93 q96]
  refine r_rv g1.1 (t2.up g1.ty) rfl ?_
  refine r_b2 (ho_eqn (mm_state g1.1 (t2.up g1.ty) i1.1 (by have := i1.2; omega))) (fun v99 S98 p2 => ?_)
  obtain ⟨e2, g2, m2⟩ := p2
  obtain ⟨th, an, rp⟩ := pf_state hI hn hr e1 g1 e2 g2
  exact (hk _ (LW_M hI t1 t2 t3 g1 i1.2 f1 g2 m2 rp (by decide +kernel)))
theorem c_asked {X : Nat → Int32} {L : Nat} {k : AS → Option Nat → Option Nat → Option Nat → Int32 → Option (Int32 × AS)} {Q : Int32 × AS → Prop} {n : Nat} {S : AS} {x : Int32} (hL : L ≤ 3072) (h0 : 0 ≤ x.toInt) (h6 : x.toInt + 6 ≤ (L : Int)) (hn : n ≤ 600) (hw : LW n S) (hk : ∀ S', LW (n + 1) S' → Ho (k S' (some 4) (some 57) (some 126) (x + 6)) Q) : Ho (f_W_law_B717 X L k S (some 4) (some 57) (some 126) x) Q := by
  obtain ⟨T, hI, t1, t2, t3, hr⟩ := hw
  unfold f_W_law_B717
  refine r_sx (sx_ok hL h0 h6 1 (by decide)) (fun v100 q100 => ?_)
  refine r_b2 (ho_eqn (w_asked hI.1 t1 t3)) (fun v102 S101 p => ?_)
  obtain ⟨e1, T1, g1⟩ := p
  have g1 : Rl T (99999 :: []) S 10 700 T1 S101 := g1
  have f1 := FT_fr hI.2.2.2.1 g1 (by decide +kernel)
  have i1 := IV_K hI g1 t2 (by decide +kernel)
  refine r_sx (sx_ok hL h0 h6 1 (by decide)) (fun v103 q103 => ?_)
  rw [sx_v q100 q103]
  refine r_rv g1.1 (t2.up g1.ty) rfl ?_
  refine r_b2 (ho_eqn (mm_asked g1.1 (t2.up g1.ty) i1.1 (by have := i1.2; omega))) (fun v106 S105 p2 => ?_)
  obtain ⟨e2, g2, m2⟩ := p2
  obtain ⟨th, an, rp⟩ := pf_asked hI hn hr e1 g1 e2 g2
  exact (hk _ (LW_M hI t1 t2 t3 g1 i1.2 f1 g2 m2 rp (by decide +kernel)))
theorem c_sessionOf {X : Nat → Int32} {L : Nat} {k : AS → Option Nat → Option Nat → Option Nat → Int32 → Option (Int32 × AS)} {Q : Int32 × AS → Prop} {n : Nat} {S : AS} {x : Int32} (hL : L ≤ 3072) (h0 : 0 ≤ x.toInt) (h6 : x.toInt + 6 ≤ (L : Int)) (hn : n ≤ 600) (hw : LW n S) (hk : ∀ S', LW (n + 1) S' → Ho (k S' (some 4) (some 57) (some 126) (x + 6)) Q) : Ho (f_W_law_B745 X L k S (some 4) (some 57) (some 126) x) Q := by
  obtain ⟨T, hI, t1, t2, t3, hr⟩ := hw
  unfold f_W_law_B745
  refine r_sx (sx_ok hL h0 h6 1 (by decide)) (fun v107 q107 => ?_)
  refine r_b2 (ho_eqn (w_sessionOf hI.1 t1 t3)) (fun v109 S108 p => ?_)
  obtain ⟨e1, T1, g1⟩ := p
  have g1 : Rl T (99999 :: []) S 10 700 T1 S108 := g1
  have f1 := FT_fr hI.2.2.2.1 g1 (by decide +kernel)
  have i1 := IV_K hI g1 t2 (by decide +kernel)
  refine r_sx (sx_ok hL h0 h6 1 (by decide)) (fun v110 q110 => ?_)
  rw [sx_v q107 q110]
  refine r_rv g1.1 (t2.up g1.ty) rfl ?_
  refine r_b2 (ho_eqn (mm_sessionOf g1.1 (t2.up g1.ty) i1.1 (by have := i1.2; omega))) (fun v113 S112 p2 => ?_)
  obtain ⟨e2, g2, m2⟩ := p2
  obtain ⟨th, an, rp⟩ := pf_sessionOf hI hn hr e1 g1 e2 g2
  exact (hk _ (LW_M hI t1 t2 t3 g1 i1.2 f1 g2 m2 rp (by decide +kernel)))
theorem c_risk {X : Nat → Int32} {L : Nat} {k : AS → Option Nat → Option Nat → Option Nat → Int32 → Option (Int32 × AS)} {Q : Int32 × AS → Prop} {n : Nat} {S : AS} {x : Int32} (hL : L ≤ 3072) (h0 : 0 ≤ x.toInt) (h6 : x.toInt + 6 ≤ (L : Int)) (hn : n ≤ 600) (hw : LW n S) (hk : ∀ S', LW (n + 1) S' → Ho (k S' (some 4) (some 57) (some 126) (x + 6)) Q) : Ho (f_W_law_B773 X L k S (some 4) (some 57) (some 126) x) Q := by
  obtain ⟨T, hI, t1, t2, t3, hr⟩ := hw
  unfold f_W_law_B773
  refine r_sx (sx_ok hL h0 h6 1 (by decide)) (fun v114 q114 => ?_)
  refine r_b2 (ho_eqn (w_risk hI.1 t1 t3)) (fun v116 S115 p => ?_)
  obtain ⟨e1, T1, g1⟩ := p
  have g1 : Rl T (99999 :: []) S 10 700 T1 S115 := g1
  have f1 := FT_fr hI.2.2.2.1 g1 (by decide +kernel)
  have i1 := IV_K hI g1 t2 (by decide +kernel)
  refine r_sx (sx_ok hL h0 h6 1 (by decide)) (fun v117 q117 => ?_)
  rw [sx_v q114 q117]
  refine r_rv g1.1 (t2.up g1.ty) rfl ?_
  refine r_b2 (ho_eqn (mm_risk g1.1 (t2.up g1.ty) i1.1 (by have := i1.2; omega))) (fun v120 S119 p2 => ?_)
  obtain ⟨e2, g2, m2⟩ := p2
  obtain ⟨th, an, rp⟩ := pf_risk hI hn hr e1 g1 e2 g2
  exact (hk _ (LW_M hI t1 t2 t3 g1 i1.2 f1 g2 m2 rp (by decide +kernel)))
theorem c_trialRisk {X : Nat → Int32} {L : Nat} {k : AS → Option Nat → Option Nat → Option Nat → Int32 → Option (Int32 × AS)} {Q : Int32 × AS → Prop} {n : Nat} {S : AS} {x : Int32} (hL : L ≤ 3072) (h0 : 0 ≤ x.toInt) (h6 : x.toInt + 6 ≤ (L : Int)) (hn : n ≤ 600) (hw : LW n S) (hk : ∀ S', LW (n + 1) S' → Ho (k S' (some 4) (some 57) (some 126) (x + 6)) Q) : Ho (f_W_law_B801 X L k S (some 4) (some 57) (some 126) x) Q := by
  obtain ⟨T, hI, t1, t2, t3, hr⟩ := hw
  unfold f_W_law_B801
  refine r_sx (sx_ok hL h0 h6 1 (by decide)) (fun v121 q121 => ?_)
  refine r_b2 (ho_eqn (w_trialRisk hI.1 t1 t3)) (fun v123 S122 p => ?_)
  obtain ⟨e1, T1, g1⟩ := p
  have g1 : Rl T (99999 :: []) S 10 700 T1 S122 := g1
  have f1 := FT_fr hI.2.2.2.1 g1 (by decide +kernel)
  have i1 := IV_K hI g1 t2 (by decide +kernel)
  refine r_sx (sx_ok hL h0 h6 1 (by decide)) (fun v124 q124 => ?_)
  rw [sx_v q121 q124]
  refine r_rv g1.1 (t2.up g1.ty) rfl ?_
  refine r_b2 (ho_eqn (mm_trialRisk g1.1 (t2.up g1.ty) i1.1 (by have := i1.2; omega))) (fun v127 S126 p2 => ?_)
  obtain ⟨e2, g2, m2⟩ := p2
  obtain ⟨th, an, rp⟩ := pf_trialRisk hI hn hr e1 g1 e2 g2
  exact (hk _ (LW_M hI t1 t2 t3 g1 i1.2 f1 g2 m2 rp (by decide +kernel)))
theorem c_sessions {X : Nat → Int32} {L : Nat} {k : AS → Option Nat → Option Nat → Option Nat → Int32 → Option (Int32 × AS)} {Q : Int32 × AS → Prop} {n : Nat} {S : AS} {x : Int32} (hL : L ≤ 3072) (h0 : 0 ≤ x.toInt) (h6 : x.toInt + 6 ≤ (L : Int)) (hn : n ≤ 600) (hw : LW n S) (hk : ∀ S', LW (n + 1) S' → Ho (k S' (some 4) (some 57) (some 126) (x + 6)) Q) : Ho (f_W_law_B829 X L k S (some 4) (some 57) (some 126) x) Q := by
  obtain ⟨T, hI, t1, t2, t3, hr⟩ := hw
  unfold f_W_law_B829
  refine r_rv hI.1 t1 rfl ?_
  refine r_b2 (ho_eqn (t_K_sessions hI.1 t1)) (fun v130 S129 p => ?_)
  obtain ⟨e1, e, -⟩ := p
  have e : S129 = S := e
  have g1 : Rl T (99999 :: []) S 10 700 T S129 := by
    rw [e]
    exact Rlweak (Rlrf hI.1) (fun _ z => List.mem_cons_of_mem _ z) (by decide) (by decide)
  have f1 := FT_fr hI.2.2.2.1 g1 (by decide +kernel)
  have i1 := IV_K hI g1 t2 (by decide +kernel)
  refine r_rv g1.1 (t2.up g1.ty) rfl ?_
  refine r_b2 (ho_eqn (mm_sessions g1.1 (t2.up g1.ty) i1.1 (by have := i1.2; omega))) (fun v133 S132 p2 => ?_)
  obtain ⟨e2, g2, m2⟩ := p2
  obtain ⟨an, rp⟩ := pf_sessions hI hn hr e1 g1 e2 g2
  exact (hk _ (LW_M hI t1 t2 t3 g1 i1.2 f1 g2 m2 rp (by decide +kernel)))
theorem c_isLive {X : Nat → Int32} {L : Nat} {k : AS → Option Nat → Option Nat → Option Nat → Int32 → Option (Int32 × AS)} {Q : Int32 × AS → Prop} {n : Nat} {S : AS} {x : Int32} (hL : L ≤ 3072) (h0 : 0 ≤ x.toInt) (h6 : x.toInt + 6 ≤ (L : Int)) (hn : n ≤ 600) (hw : LW n S) (hk : ∀ S', LW (n + 1) S' → Ho (k S' (some 4) (some 57) (some 126) (x + 6)) Q) : Ho (f_W_law_B842 X L k S (some 4) (some 57) (some 126) x) Q := by
  obtain ⟨T, hI, t1, t2, t3, hr⟩ := hw
  unfold f_W_law_B842
  refine r_sx (sx_ok hL h0 h6 1 (by decide)) (fun v134 q134 => ?_)
  refine r_b2 (ho_eqn (w_isLive hI.1 t1 t3)) (fun v136 S135 p => ?_)
  obtain ⟨e1, T1, g1⟩ := p
  have g1 : Rl T (99999 :: []) S 10 700 T1 S135 := g1
  have f1 := FT_fr hI.2.2.2.1 g1 (by decide +kernel)
  have i1 := IV_K hI g1 t2 (by decide +kernel)
  refine r_sx (sx_ok hL h0 h6 1 (by decide)) (fun v137 q137 => ?_)
  rw [sx_v q134 q137]
  refine r_rv g1.1 (t2.up g1.ty) rfl ?_
  refine r_b2 (ho_eqn (mm_isLive g1.1 (t2.up g1.ty) i1.1 (by have := i1.2; omega))) (fun v140 S139 p2 => ?_)
  obtain ⟨e2, g2, m2⟩ := p2
  obtain ⟨th, an, rp⟩ := pf_isLive hI hn hr e1 g1 e2 g2
  exact (hk _ (LW_M hI t1 t2 t3 g1 i1.2 f1 g2 m2 rp (by decide +kernel)))
theorem c_isLiveByAudit {X : Nat → Int32} {L : Nat} {k : AS → Option Nat → Option Nat → Option Nat → Int32 → Option (Int32 × AS)} {Q : Int32 × AS → Prop} {n : Nat} {S : AS} {x : Int32} (hL : L ≤ 3072) (h0 : 0 ≤ x.toInt) (h6 : x.toInt + 6 ≤ (L : Int)) (hn : n ≤ 600) (hw : LW n S) (hk : ∀ S', LW (n + 1) S' → Ho (k S' (some 4) (some 57) (some 126) (x + 6)) Q) : Ho (f_W_law_B870 X L k S (some 4) (some 57) (some 126) x) Q := by
  obtain ⟨T, hI, t1, t2, t3, hr⟩ := hw
  unfold f_W_law_B870
  refine r_sx (sx_ok hL h0 h6 1 (by decide)) (fun v141 q141 => ?_)
  refine r_b2 (ho_eqn (w_isLiveByAudit hI.1 t1 t3)) (fun v143 S142 p => ?_)
  obtain ⟨e1, T1, g1⟩ := p
  have g1 : Rl T (99999 :: []) S 10 700 T1 S142 := g1
  have f1 := FT_fr hI.2.2.2.1 g1 (by decide +kernel)
  have i1 := IV_K hI g1 t2 (by decide +kernel)
  refine r_sx (sx_ok hL h0 h6 1 (by decide)) (fun v144 q144 => ?_)
  rw [sx_v q141 q144]
  refine r_rv g1.1 (t2.up g1.ty) rfl ?_
  refine r_b2 (ho_eqn (mm_isLiveByAudit g1.1 (t2.up g1.ty) i1.1 (by have := i1.2; omega))) (fun v147 S146 p2 => ?_)
  obtain ⟨e2, g2, m2⟩ := p2
  obtain ⟨th, an, rp⟩ := pf_isLiveByAudit hI hn hr e1 g1 e2 g2
  exact (hk _ (LW_M hI t1 t2 t3 g1 i1.2 f1 g2 m2 rp (by decide +kernel)))
theorem c_level {X : Nat → Int32} {L : Nat} {k : AS → Option Nat → Option Nat → Option Nat → Int32 → Option (Int32 × AS)} {Q : Int32 × AS → Prop} {n : Nat} {S : AS} {x : Int32} (hL : L ≤ 3072) (h0 : 0 ≤ x.toInt) (h6 : x.toInt + 6 ≤ (L : Int)) (hn : n ≤ 600) (hw : LW n S) (hk : ∀ S', LW (n + 1) S' → Ho (k S' (some 4) (some 57) (some 126) (x + 6)) Q) : Ho (f_W_law_B898 X L k S (some 4) (some 57) (some 126) x) Q := by
  obtain ⟨T, hI, t1, t2, t3, hr⟩ := hw
  unfold f_W_law_B898
  refine r_sx (sx_ok hL h0 h6 1 (by decide)) (fun v148 q148 => ?_)
  refine r_b2 (ho_eqn (w_level hI.1 t1 t3)) (fun v150 S149 p => ?_)
  obtain ⟨e1, T1, g1⟩ := p
  have g1 : Rl T (99999 :: []) S 10 700 T1 S149 := g1
  have f1 := FT_fr hI.2.2.2.1 g1 (by decide +kernel)
  have i1 := IV_K hI g1 t2 (by decide +kernel)
  refine r_sx (sx_ok hL h0 h6 1 (by decide)) (fun v151 q151 => ?_)
  rw [sx_v q148 q151]
  refine r_rv g1.1 (t2.up g1.ty) rfl ?_
  refine r_b2 (ho_eqn (mm_level g1.1 (t2.up g1.ty) i1.1 (by have := i1.2; omega))) (fun v154 S153 p2 => ?_)
  obtain ⟨e2, g2, m2⟩ := p2
  obtain ⟨th, an, rp⟩ := pf_level hI hn hr e1 g1 e2 g2
  exact (hk _ (LW_M hI t1 t2 t3 g1 i1.2 f1 g2 m2 rp (by decide +kernel)))
theorem c_stepUp {X : Nat → Int32} {L : Nat} {k : AS → Option Nat → Option Nat → Option Nat → Int32 → Option (Int32 × AS)} {Q : Int32 × AS → Prop} {n : Nat} {S : AS} {x : Int32} (hL : L ≤ 3072) (h0 : 0 ≤ x.toInt) (h6 : x.toInt + 6 ≤ (L : Int)) (hn : n ≤ 600) (hw : LW n S) (hk : ∀ S', LW (n + 1) S' → Ho (k S' (some 4) (some 57) (some 126) (x + 6)) Q) : Ho (f_W_law_B926 X L k S (some 4) (some 57) (some 126) x) Q := by
  obtain ⟨T, hI, t1, t2, t3, hr⟩ := hw
  unfold f_W_law_B926
  refine r_sx (sx_ok hL h0 h6 1 (by decide)) (fun v165 q165 => ?_)
  refine r_sx (sx_ok hL h0 h6 2 (by decide)) (fun v166 q166 => ?_)
  refine r_sx (sx_ok hL h0 h6 3 (by decide)) (fun v167 q167 => ?_)
  refine r_if (fun cv167 => ?_) (fun cv167 => ?_)
  · skip
    unfold f_W_law_B953
    refine r_sx (sx_ok hL h0 h6 4 (by decide)) (fun v159 q159 => ?_)
    refine r_b2 (ho_eqn (w_stepUp hI.1 t1 t3)) (fun v161 S160 p => ?_)
    obtain ⟨e1, T1, g1⟩ := p
    have g1 : Rl T (99999 :: kw_K67) S 10 700 T1 S160 := g1
    have f1 := FT_fr hI.2.2.2.1 g1 (by decide +kernel)
    have i1 := IV_K hI g1 t2 (by decide +kernel)
    refine r_sx (sx_ok hL h0 h6 1 (by decide)) (fun v162 q162 => ?_)
    rw [sx_v q165 q162]
    refine r_sx (sx_ok hL h0 h6 2 (by decide)) (fun v163 q163 => ?_)
    rw [sx_v q166 q163]
    refine r_sx (sx_ok hL h0 h6 3 (by decide)) (fun v164 q164 => ?_)
    rw [sx_v q167 q164]
    refine r_ifT cv167 ?_
    unfold f_W_law_B992
    refine r_sx (sx_ok hL h0 h6 4 (by decide)) (fun v155 q155 => ?_)
    rw [sx_v q159 q155]
    refine r_rv g1.1 (t2.up g1.ty) rfl ?_
    refine r_b2 (ho_eqn (mm_stepUp g1.1 (t2.up g1.ty) i1.1 (by have := i1.2; omega))) (fun v158 S157 p2 => ?_)
    obtain ⟨e2, g2, m2⟩ := p2
    obtain ⟨th, an, rp⟩ := pf_stepUp hI hn hr e1 g1 e2 g2
    exact (hk _ (LW_M hI t1 t2 t3 g1 i1.2 f1 g2 m2 rp (by decide +kernel)))
  · skip
    unfold f_W_law_B953
    refine r_sx (sx_ok hL h0 h6 4 (by decide)) (fun v159 q159 => ?_)
    refine r_b2 (ho_eqn (w_stepUp hI.1 t1 t3)) (fun v161 S160 p => ?_)
    obtain ⟨e1, T1, g1⟩ := p
    have g1 : Rl T (99999 :: kw_K67) S 10 700 T1 S160 := g1
    have f1 := FT_fr hI.2.2.2.1 g1 (by decide +kernel)
    have i1 := IV_K hI g1 t2 (by decide +kernel)
    refine r_sx (sx_ok hL h0 h6 1 (by decide)) (fun v162 q162 => ?_)
    rw [sx_v q165 q162]
    refine r_sx (sx_ok hL h0 h6 2 (by decide)) (fun v163 q163 => ?_)
    rw [sx_v q166 q163]
    refine r_sx (sx_ok hL h0 h6 3 (by decide)) (fun v164 q164 => ?_)
    rw [sx_v q167 q164]
    refine r_ifF cv167 ?_
    unfold f_W_law_B992
    refine r_sx (sx_ok hL h0 h6 4 (by decide)) (fun v155 q155 => ?_)
    rw [sx_v q159 q155]
    refine r_rv g1.1 (t2.up g1.ty) rfl ?_
    refine r_b2 (ho_eqn (mm_stepUp g1.1 (t2.up g1.ty) i1.1 (by have := i1.2; omega))) (fun v158 S157 p2 => ?_)
    obtain ⟨e2, g2, m2⟩ := p2
    obtain ⟨th, an, rp⟩ := pf_stepUp hI hn hr e1 g1 e2 g2
    exact (hk _ (LW_M hI t1 t2 t3 g1 i1.2 f1 g2 m2 rp (by decide +kernel)))
theorem c_signOut {X : Nat → Int32} {L : Nat} {k : AS → Option Nat → Option Nat → Option Nat → Int32 → Option (Int32 × AS)} {Q : Int32 × AS → Prop} {n : Nat} {S : AS} {x : Int32} (hL : L ≤ 3072) (h0 : 0 ≤ x.toInt) (h6 : x.toInt + 6 ≤ (L : Int)) (hn : n ≤ 600) (hw : LW n S) (hk : ∀ S', LW (n + 1) S' → Ho (k S' (some 4) (some 57) (some 126) (x + 6)) Q) : Ho (f_W_law_B1006 X L k S (some 4) (some 57) (some 126) x) Q := by
  obtain ⟨T, hI, t1, t2, t3, hr⟩ := hw
  unfold f_W_law_B1006
  refine r_sx (sx_ok hL h0 h6 1 (by decide)) (fun v168 q168 => ?_)
  refine r_b2 (ho_eqn (w_signOut hI.1 t1 t3)) (fun v170 S169 p => ?_)
  obtain ⟨e1, T1, g1⟩ := p
  have g1 : Rl T (99999 :: kw_K38) S 10 700 T1 S169 := g1
  have f1 := FT_fr hI.2.2.2.1 g1 (by decide +kernel)
  have i1 := IV_K hI g1 t2 (by decide +kernel)
  refine r_sx (sx_ok hL h0 h6 1 (by decide)) (fun v171 q171 => ?_)
  rw [sx_v q168 q171]
  refine r_rv g1.1 (t2.up g1.ty) rfl ?_
  refine r_b2 (ho_eqn (mm_signOut g1.1 (t2.up g1.ty) i1.1 (by have := i1.2; omega))) (fun v174 S173 p2 => ?_)
  obtain ⟨e2, g2, m2⟩ := p2
  obtain ⟨th, an, rp⟩ := pf_signOut hI hn hr e1 g1 e2 g2
  exact (hk _ (LW_M hI t1 t2 t3 g1 i1.2 f1 g2 m2 rp (by decide +kernel)))
theorem c_helper {X : Nat → Int32} {L : Nat} {k : AS → Option Nat → Option Nat → Option Nat → Int32 → Option (Int32 × AS)} {Q : Int32 × AS → Prop} {n : Nat} {S : AS} {x : Int32} (hL : L ≤ 3072) (h0 : 0 ≤ x.toInt) (h6 : x.toInt + 6 ≤ (L : Int)) (hn : n ≤ 600) (hw : LW n S) (hk : ∀ S', LW (n + 1) S' → Ho (k S' (some 4) (some 57) (some 126) (x + 6)) Q) : Ho (f_W_law_B1034 X L k S (some 4) (some 57) (some 126) x) Q := by
  obtain ⟨T, hI, t1, t2, t3, hr⟩ := hw
  unfold f_W_law_B1034
  refine r_sx (sx_ok hL h0 h6 1 (by decide)) (fun v175 q175 => ?_)
  refine r_b2 (ho_eqn (w_helper hI.1 t1 t3)) (fun v177 S176 p => ?_)
  obtain ⟨e1, T1, g1⟩ := p
  have g1 : Rl T (99999 :: kw_K68) S 10 700 T1 S176 := g1
  have f1 := FT_fr hI.2.2.2.1 g1 (by decide +kernel)
  have i1 := IV_K hI g1 t2 (by decide +kernel)
  refine r_sx (sx_ok hL h0 h6 1 (by decide)) (fun v178 q178 => ?_)
  rw [sx_v q175 q178]
  refine r_rv g1.1 (t2.up g1.ty) rfl ?_
  refine r_b2 (ho_eqn (mm_helper g1.1 (t2.up g1.ty) i1.1 (by have := i1.2; omega))) (fun v181 S180 p2 => ?_)
  obtain ⟨e2, g2, m2⟩ := p2
  obtain ⟨th, an, rp⟩ := pf_helper hI hn hr e1 g1 e2 g2
  exact (hk _ (LW_M hI t1 t2 t3 g1 i1.2 f1 g2 m2 rp (by decide +kernel)))
theorem c_act {X : Nat → Int32} {L : Nat} {k : AS → Option Nat → Option Nat → Option Nat → Int32 → Option (Int32 × AS)} {Q : Int32 × AS → Prop} {n : Nat} {S : AS} {x : Int32} (hL : L ≤ 3072) (h0 : 0 ≤ x.toInt) (h6 : x.toInt + 6 ≤ (L : Int)) (hn : n ≤ 600) (hw : LW n S) (hk : ∀ S', LW (n + 1) S' → Ho (k S' (some 4) (some 57) (some 126) (x + 6)) Q) : Ho (f_W_law_B1062 X L k S (some 4) (some 57) (some 126) x) Q := by
  obtain ⟨T, hI, t1, t2, t3, hr⟩ := hw
  unfold f_W_law_B1062
  refine r_sx (sx_ok hL h0 h6 1 (by decide)) (fun v182 q182 => ?_)
  refine r_sx (sx_ok hL h0 h6 2 (by decide)) (fun v183 q183 => ?_)
  refine r_b2 (ho_eqn (w_act hI.1 t1 t3)) (fun v185 S184 p => ?_)
  obtain ⟨e1, T1, g1⟩ := p
  have g1 : Rl T (99999 :: kw_K50) S 10 700 T1 S184 := g1
  have f1 := FT_fr hI.2.2.2.1 g1 (by decide +kernel)
  have i1 := IV_K hI g1 t2 (by decide +kernel)
  refine r_sx (sx_ok hL h0 h6 1 (by decide)) (fun v186 q186 => ?_)
  rw [sx_v q182 q186]
  refine r_sx (sx_ok hL h0 h6 2 (by decide)) (fun v187 q187 => ?_)
  rw [sx_v q183 q187]
  refine r_rv g1.1 (t2.up g1.ty) rfl ?_
  refine r_b2 (ho_eqn (mm_act g1.1 (t2.up g1.ty) i1.1 (by have := i1.2; omega))) (fun v190 S189 p2 => ?_)
  obtain ⟨e2, g2, m2⟩ := p2
  obtain ⟨th, an, rp⟩ := pf_act hI hn hr e1 g1 e2 g2
  exact (hk _ (LW_M hI t1 t2 t3 g1 i1.2 f1 g2 m2 rp (by decide +kernel)))
theorem c_consent {X : Nat → Int32} {L : Nat} {k : AS → Option Nat → Option Nat → Option Nat → Int32 → Option (Int32 × AS)} {Q : Int32 × AS → Prop} {n : Nat} {S : AS} {x : Int32} (hL : L ≤ 3072) (h0 : 0 ≤ x.toInt) (h6 : x.toInt + 6 ≤ (L : Int)) (hn : n ≤ 600) (hw : LW n S) (hk : ∀ S', LW (n + 1) S' → Ho (k S' (some 4) (some 57) (some 126) (x + 6)) Q) : Ho (f_W_law_B1102 X L k S (some 4) (some 57) (some 126) x) Q := by
  obtain ⟨T, hI, t1, t2, t3, hr⟩ := hw
  unfold f_W_law_B1102
  refine r_sx (sx_ok hL h0 h6 1 (by decide)) (fun v191 q191 => ?_)
  refine r_sx (sx_ok hL h0 h6 2 (by decide)) (fun v192 q192 => ?_)
  refine r_sx (sx_ok hL h0 h6 3 (by decide)) (fun v193 q193 => ?_)
  refine r_b2 (ho_eqn (w_consent hI.1 t1 t3)) (fun v195 S194 p => ?_)
  obtain ⟨e1, T1, g1⟩ := p
  have g1 : Rl T (99999 :: kw_K71) S 10 700 T1 S194 := g1
  have f1 := FT_fr hI.2.2.2.1 g1 (by decide +kernel)
  have i1 := IV_K hI g1 t2 (by decide +kernel)
  refine r_sx (sx_ok hL h0 h6 1 (by decide)) (fun v196 q196 => ?_)
  rw [sx_v q191 q196]
  refine r_sx (sx_ok hL h0 h6 2 (by decide)) (fun v197 q197 => ?_)
  rw [sx_v q192 q197]
  refine r_sx (sx_ok hL h0 h6 3 (by decide)) (fun v198 q198 => ?_)
  rw [sx_v q193 q198]
  refine r_rv g1.1 (t2.up g1.ty) rfl ?_
  refine r_b2 (ho_eqn (mm_consent g1.1 (t2.up g1.ty) i1.1 (by have := i1.2; omega))) (fun v201 S200 p2 => ?_)
  obtain ⟨e2, g2, m2⟩ := p2
  obtain ⟨th, an, rp⟩ := pf_consent hI hn hr e1 g1 e2 g2
  exact (hk _ (LW_M hI t1 t2 t3 g1 i1.2 f1 g2 m2 rp (by decide +kernel)))
theorem c_withdraw {X : Nat → Int32} {L : Nat} {k : AS → Option Nat → Option Nat → Option Nat → Int32 → Option (Int32 × AS)} {Q : Int32 × AS → Prop} {n : Nat} {S : AS} {x : Int32} (hL : L ≤ 3072) (h0 : 0 ≤ x.toInt) (h6 : x.toInt + 6 ≤ (L : Int)) (hn : n ≤ 600) (hw : LW n S) (hk : ∀ S', LW (n + 1) S' → Ho (k S' (some 4) (some 57) (some 126) (x + 6)) Q) : Ho (f_W_law_B1154 X L k S (some 4) (some 57) (some 126) x) Q := by
  obtain ⟨T, hI, t1, t2, t3, hr⟩ := hw
  unfold f_W_law_B1154
  refine r_sx (sx_ok hL h0 h6 1 (by decide)) (fun v202 q202 => ?_)
  refine r_sx (sx_ok hL h0 h6 2 (by decide)) (fun v203 q203 => ?_)
  refine r_b2 (ho_eqn (w_withdraw hI.1 t1 t3)) (fun v205 S204 p => ?_)
  obtain ⟨e1, T1, g1⟩ := p
  have g1 : Rl T (99999 :: kw_K72) S 10 700 T1 S204 := g1
  have f1 := FT_fr hI.2.2.2.1 g1 (by decide +kernel)
  have i1 := IV_K hI g1 t2 (by decide +kernel)
  refine r_sx (sx_ok hL h0 h6 1 (by decide)) (fun v206 q206 => ?_)
  rw [sx_v q202 q206]
  refine r_sx (sx_ok hL h0 h6 2 (by decide)) (fun v207 q207 => ?_)
  rw [sx_v q203 q207]
  refine r_rv g1.1 (t2.up g1.ty) rfl ?_
  refine r_b2 (ho_eqn (mm_withdraw g1.1 (t2.up g1.ty) i1.1 (by have := i1.2; omega))) (fun v210 S209 p2 => ?_)
  obtain ⟨e2, g2, m2⟩ := p2
  obtain ⟨th, an, rp⟩ := pf_withdraw hI hn hr e1 g1 e2 g2
  exact (hk _ (LW_M hI t1 t2 t3 g1 i1.2 f1 g2 m2 rp (by decide +kernel)))
theorem c_need {X : Nat → Int32} {L : Nat} {k : AS → Option Nat → Option Nat → Option Nat → Int32 → Option (Int32 × AS)} {Q : Int32 × AS → Prop} {n : Nat} {S : AS} {x : Int32} (hL : L ≤ 3072) (h0 : 0 ≤ x.toInt) (h6 : x.toInt + 6 ≤ (L : Int)) (hn : n ≤ 600) (hw : LW n S) (hk : ∀ S', LW (n + 1) S' → Ho (k S' (some 4) (some 57) (some 126) (x + 6)) Q) : Ho (f_W_law_B1194 X L k S (some 4) (some 57) (some 126) x) Q := by
  obtain ⟨T, hI, t1, t2, t3, hr⟩ := hw
  unfold f_W_law_B1194
  refine r_sx (sx_ok hL h0 h6 1 (by decide)) (fun v211 q211 => ?_)
  refine r_sx (sx_ok hL h0 h6 2 (by decide)) (fun v212 q212 => ?_)
  refine r_b2 (ho_eqn (w_need hI.1 t1 t3)) (fun v214 S213 p => ?_)
  obtain ⟨e1, T1, g1⟩ := p
  have g1 : Rl T (99999 :: kw_K73) S 10 700 T1 S213 := g1
  have f1 := FT_fr hI.2.2.2.1 g1 (by decide +kernel)
  have i1 := IV_K hI g1 t2 (by decide +kernel)
  refine r_sx (sx_ok hL h0 h6 1 (by decide)) (fun v215 q215 => ?_)
  rw [sx_v q211 q215]
  refine r_sx (sx_ok hL h0 h6 2 (by decide)) (fun v216 q216 => ?_)
  rw [sx_v q212 q216]
  refine r_rv g1.1 (t2.up g1.ty) rfl ?_
  refine r_b2 (ho_eqn (mm_need g1.1 (t2.up g1.ty) i1.1 (by have := i1.2; omega))) (fun v219 S218 p2 => ?_)
  obtain ⟨e2, g2, m2⟩ := p2
  obtain ⟨th, an, rp⟩ := pf_need hI hn hr e1 g1 e2 g2
  exact (hk _ (LW_M hI t1 t2 t3 g1 i1.2 f1 g2 m2 rp (by decide +kernel)))
theorem c_authorize {X : Nat → Int32} {L : Nat} {k : AS → Option Nat → Option Nat → Option Nat → Int32 → Option (Int32 × AS)} {Q : Int32 × AS → Prop} {n : Nat} {S : AS} {x : Int32} (hL : L ≤ 3072) (h0 : 0 ≤ x.toInt) (h6 : x.toInt + 6 ≤ (L : Int)) (hn : n ≤ 600) (hw : LW n S) (hk : ∀ S', LW (n + 1) S' → Ho (k S' (some 4) (some 57) (some 126) (x + 6)) Q) : Ho (f_W_law_B1234 X L k S (some 4) (some 57) (some 126) x) Q := by
  obtain ⟨T, hI, t1, t2, t3, hr⟩ := hw
  unfold f_W_law_B1234
  refine r_sx (sx_ok hL h0 h6 1 (by decide)) (fun v220 q220 => ?_)
  refine r_sx (sx_ok hL h0 h6 2 (by decide)) (fun v221 q221 => ?_)
  refine r_sx (sx_ok hL h0 h6 3 (by decide)) (fun v222 q222 => ?_)
  refine r_sx (sx_ok hL h0 h6 4 (by decide)) (fun v223 q223 => ?_)
  refine r_b2 (ho_eqn (w_authorize hI.1 t1 t3)) (fun v225 S224 p => ?_)
  obtain ⟨e1, T1, g1⟩ := p
  have g1 : Rl T (99999 :: kw_K74) S 10 700 T1 S224 := g1
  have f1 := FT_fr hI.2.2.2.1 g1 (by decide +kernel)
  have i1 := IV_K hI g1 t2 (by decide +kernel)
  refine r_sx (sx_ok hL h0 h6 1 (by decide)) (fun v226 q226 => ?_)
  rw [sx_v q220 q226]
  refine r_sx (sx_ok hL h0 h6 2 (by decide)) (fun v227 q227 => ?_)
  rw [sx_v q221 q227]
  refine r_sx (sx_ok hL h0 h6 3 (by decide)) (fun v228 q228 => ?_)
  rw [sx_v q222 q228]
  refine r_sx (sx_ok hL h0 h6 4 (by decide)) (fun v229 q229 => ?_)
  rw [sx_v q223 q229]
  refine r_rv g1.1 (t2.up g1.ty) rfl ?_
  refine r_b2 (ho_eqn (mm_authorize g1.1 (t2.up g1.ty) i1.1 (by have := i1.2; omega))) (fun v232 S231 p2 => ?_)
  obtain ⟨e2, g2, m2⟩ := p2
  obtain ⟨th, an, rp⟩ := pf_authorize hI hn hr e1 g1 e2 g2
  exact (hk _ (LW_M hI t1 t2 t3 g1 i1.2 f1 g2 m2 rp (by decide +kernel)))
theorem c_redeem {X : Nat → Int32} {L : Nat} {k : AS → Option Nat → Option Nat → Option Nat → Int32 → Option (Int32 × AS)} {Q : Int32 × AS → Prop} {n : Nat} {S : AS} {x : Int32} (hL : L ≤ 3072) (h0 : 0 ≤ x.toInt) (h6 : x.toInt + 6 ≤ (L : Int)) (hn : n ≤ 600) (hw : LW n S) (hk : ∀ S', LW (n + 1) S' → Ho (k S' (some 4) (some 57) (some 126) (x + 6)) Q) : Ho (f_W_law_B1298 X L k S (some 4) (some 57) (some 126) x) Q := by
  obtain ⟨T, hI, t1, t2, t3, hr⟩ := hw
  unfold f_W_law_B1298
  refine r_sx (sx_ok hL h0 h6 1 (by decide)) (fun v233 q233 => ?_)
  refine r_b2 (ho_eqn (w_redeem hI.1 t1 t3 hI.2.2.2.1)) (fun v235 S234 p => ?_)
  obtain ⟨e1, ⟨⟨T1, g1⟩, f1⟩⟩ := p
  have g1 : Rl T (99999 :: kw_K83) S 10 700 T1 S234 := g1
  have i1 := IV_K hI g1 t2 (by decide +kernel)
  refine r_sx (sx_ok hL h0 h6 1 (by decide)) (fun v236 q236 => ?_)
  rw [sx_v q233 q236]
  refine r_rv g1.1 (t2.up g1.ty) rfl ?_
  refine r_b2 (ho_eqn (mm_redeem g1.1 (t2.up g1.ty) i1.1 (by have := i1.2; omega))) (fun v239 S238 p2 => ?_)
  obtain ⟨e2, g2, m2⟩ := p2
  obtain ⟨th, an, rp⟩ := pf_redeem hI hn hr e1 g1 e2 g2
  refine r_rv g2.1 (t2.up g1.ty) rfl ?_
  rw [x_thrown g2.1, b2_s]
  refine r_ifT th ?_
  refine r_if (fun k0 => ?_) (fun _ => (hk _ (LW_M hI t1 t2 t3 g1 i1.2 f1 g2 m2 rp (by decide +kernel))))
  rw [x_aJ g2.1, Option.bind_some]
  refine r_ifT ?_ (hk _ (LW_M hI t1 t2 t3 g1 i1.2 f1 g2 m2 rp (by decide +kernel)))
  rw [g2.fJ 126 0 (by rw [g1.ty 126 (by rw [hI.1.t9.2.2.2.2.2]; decide), hI.1.t9.2.2.2.2.2]; decide) (by decide +kernel), an k0]
  exact lg_rf _
theorem c_refresh {X : Nat → Int32} {L : Nat} {k : AS → Option Nat → Option Nat → Option Nat → Int32 → Option (Int32 × AS)} {Q : Int32 × AS → Prop} {n : Nat} {S : AS} {x : Int32} (hL : L ≤ 3072) (h0 : 0 ≤ x.toInt) (h6 : x.toInt + 6 ≤ (L : Int)) (hn : n ≤ 600) (hw : LW n S) (hk : ∀ S', LW (n + 1) S' → Ho (k S' (some 4) (some 57) (some 126) (x + 6)) Q) : Ho (f_W_law_B1354 X L k S (some 4) (some 57) (some 126) x) Q := by
  obtain ⟨T, hI, t1, t2, t3, hr⟩ := hw
  unfold f_W_law_B1354
  refine r_sx (sx_ok hL h0 h6 1 (by decide)) (fun v244 q244 => ?_)
  refine r_sx (sx_ok hL h0 h6 2 (by decide)) (fun v245 q245 => ?_)
  refine r_b2 (ho_eqn (w_refresh hI.1 t1 t3)) (fun v247 S246 p => ?_)
  obtain ⟨e1, T1, g1⟩ := p
  have g1 : Rl T (99999 :: kw_K88) S 10 700 T1 S246 := g1
  have f1 := FT_fr hI.2.2.2.1 g1 (by decide +kernel)
  have i1 := IV_K hI g1 t2 (by decide +kernel)
  refine r_sx (sx_ok hL h0 h6 1 (by decide)) (fun v248 q248 => ?_)
  rw [sx_v q244 q248]
  refine r_sx (sx_ok hL h0 h6 2 (by decide)) (fun v249 q249 => ?_)
  rw [sx_v q245 q249]
  refine r_rv g1.1 (t2.up g1.ty) rfl ?_
  refine r_b2 (ho_eqn (mm_refresh g1.1 (t2.up g1.ty) i1.1 (by have := i1.2; omega))) (fun v252 S251 p2 => ?_)
  obtain ⟨e2, g2, m2⟩ := p2
  obtain ⟨th, an, rp⟩ := pf_refresh hI hn hr e1 g1 e2 g2
  exact (hk _ (LW_M hI t1 t2 t3 g1 i1.2 f1 g2 m2 rp (by decide +kernel)))
theorem c_isGood {X : Nat → Int32} {L : Nat} {k : AS → Option Nat → Option Nat → Option Nat → Int32 → Option (Int32 × AS)} {Q : Int32 × AS → Prop} {n : Nat} {S : AS} {x : Int32} (hL : L ≤ 3072) (h0 : 0 ≤ x.toInt) (h6 : x.toInt + 6 ≤ (L : Int)) (hn : n ≤ 600) (hw : LW n S) (hk : ∀ S', LW (n + 1) S' → Ho (k S' (some 4) (some 57) (some 126) (x + 6)) Q) : Ho (f_W_law_B1394 X L k S (some 4) (some 57) (some 126) x) Q := by
  obtain ⟨T, hI, t1, t2, t3, hr⟩ := hw
  unfold f_W_law_B1394
  refine r_sx (sx_ok hL h0 h6 1 (by decide)) (fun v253 q253 => ?_)
  refine r_b2 (ho_eqn (w_isGood hI.1 t1 t3)) (fun v255 S254 p => ?_)
  obtain ⟨e1, T1, g1⟩ := p
  have g1 : Rl T (99999 :: []) S 10 700 T1 S254 := g1
  have f1 := FT_fr hI.2.2.2.1 g1 (by decide +kernel)
  have i1 := IV_K hI g1 t2 (by decide +kernel)
  refine r_sx (sx_ok hL h0 h6 1 (by decide)) (fun v256 q256 => ?_)
  rw [sx_v q253 q256]
  refine r_rv g1.1 (t2.up g1.ty) rfl ?_
  refine r_b2 (ho_eqn (mm_isGood g1.1 (t2.up g1.ty) i1.1 (by have := i1.2; omega))) (fun v259 S258 p2 => ?_)
  obtain ⟨e2, g2, m2⟩ := p2
  obtain ⟨th, an, rp⟩ := pf_isGood hI hn hr e1 g1 e2 g2
  exact (hk _ (LW_M hI t1 t2 t3 g1 i1.2 f1 g2 m2 rp (by decide +kernel)))
theorem c_tokenOf {X : Nat → Int32} {L : Nat} {k : AS → Option Nat → Option Nat → Option Nat → Int32 → Option (Int32 × AS)} {Q : Int32 × AS → Prop} {n : Nat} {S : AS} {x : Int32} (hL : L ≤ 3072) (h0 : 0 ≤ x.toInt) (h6 : x.toInt + 6 ≤ (L : Int)) (hn : n ≤ 600) (hw : LW n S) (hk : ∀ S', LW (n + 1) S' → Ho (k S' (some 4) (some 57) (some 126) (x + 6)) Q) : Ho (f_W_law_B1422 X L k S (some 4) (some 57) (some 126) x) Q := by
  obtain ⟨T, hI, t1, t2, t3, hr⟩ := hw
  unfold f_W_law_B1422
  refine r_sx (sx_ok hL h0 h6 1 (by decide)) (fun v260 q260 => ?_)
  refine r_b2 (ho_eqn (w_tokenOf hI.1 t1 t3)) (fun v262 S261 p => ?_)
  obtain ⟨e1, T1, g1⟩ := p
  have g1 : Rl T (99999 :: []) S 10 700 T1 S261 := g1
  have f1 := FT_fr hI.2.2.2.1 g1 (by decide +kernel)
  have i1 := IV_K hI g1 t2 (by decide +kernel)
  refine r_sx (sx_ok hL h0 h6 1 (by decide)) (fun v263 q263 => ?_)
  rw [sx_v q260 q263]
  refine r_rv g1.1 (t2.up g1.ty) rfl ?_
  refine r_b2 (ho_eqn (mm_tokenOf g1.1 (t2.up g1.ty) i1.1 (by have := i1.2; omega))) (fun v266 S265 p2 => ?_)
  obtain ⟨e2, g2, m2⟩ := p2
  obtain ⟨th, an, rp⟩ := pf_tokenOf hI hn hr e1 g1 e2 g2
  exact (hk _ (LW_M hI t1 t2 t3 g1 i1.2 f1 g2 m2 rp (by decide +kernel)))
theorem c_exchange {X : Nat → Int32} {L : Nat} {k : AS → Option Nat → Option Nat → Option Nat → Int32 → Option (Int32 × AS)} {Q : Int32 × AS → Prop} {n : Nat} {S : AS} {x : Int32} (hL : L ≤ 3072) (h0 : 0 ≤ x.toInt) (h6 : x.toInt + 6 ≤ (L : Int)) (hn : n ≤ 600) (hw : LW n S) (hk : ∀ S', LW (n + 1) S' → Ho (k S' (some 4) (some 57) (some 126) (x + 6)) Q) : Ho (f_W_law_B1450 X L k S (some 4) (some 57) (some 126) x) Q := by
  obtain ⟨T, hI, t1, t2, t3, hr⟩ := hw
  unfold f_W_law_B1450
  refine r_sx (sx_ok hL h0 h6 1 (by decide)) (fun v267 q267 => ?_)
  refine r_sx (sx_ok hL h0 h6 2 (by decide)) (fun v268 q268 => ?_)
  refine r_sx (sx_ok hL h0 h6 3 (by decide)) (fun v269 q269 => ?_)
  refine r_b2 (ho_eqn (w_exchange hI.1 t1 t3)) (fun v271 S270 p => ?_)
  obtain ⟨e1, T1, g1⟩ := p
  have g1 : Rl T (99999 :: kw_K77) S 10 700 T1 S270 := g1
  have f1 := FT_fr hI.2.2.2.1 g1 (by decide +kernel)
  have i1 := IV_K hI g1 t2 (by decide +kernel)
  refine r_sx (sx_ok hL h0 h6 1 (by decide)) (fun v272 q272 => ?_)
  rw [sx_v q267 q272]
  refine r_sx (sx_ok hL h0 h6 2 (by decide)) (fun v273 q273 => ?_)
  rw [sx_v q268 q273]
  refine r_sx (sx_ok hL h0 h6 3 (by decide)) (fun v274 q274 => ?_)
  rw [sx_v q269 q274]
  refine r_rv g1.1 (t2.up g1.ty) rfl ?_
  refine r_b2 (ho_eqn (mm_exchange g1.1 (t2.up g1.ty) i1.1 (by have := i1.2; omega))) (fun v277 S276 p2 => ?_)
  obtain ⟨e2, g2, m2⟩ := p2
  obtain ⟨th, an, rp⟩ := pf_exchange hI hn hr e1 g1 e2 g2
  exact (hk _ (LW_M hI t1 t2 t3 g1 i1.2 f1 g2 m2 rp (by decide +kernel)))
theorem c_token {X : Nat → Int32} {L : Nat} {k : AS → Option Nat → Option Nat → Option Nat → Int32 → Option (Int32 × AS)} {Q : Int32 × AS → Prop} {n : Nat} {S : AS} {x : Int32} (hL : L ≤ 3072) (h0 : 0 ≤ x.toInt) (h6 : x.toInt + 6 ≤ (L : Int)) (hn : n ≤ 600) (hw : LW n S) (hk : ∀ S', LW (n + 1) S' → Ho (k S' (some 4) (some 57) (some 126) (x + 6)) Q) : Ho (f_W_law_B1502 X L k S (some 4) (some 57) (some 126) x) Q := by
  obtain ⟨T, hI, t1, t2, t3, hr⟩ := hw
  unfold f_W_law_B1502
  refine r_sx (sx_ok hL h0 h6 1 (by decide)) (fun v278 q278 => ?_)
  refine r_b2 (ho_eqn (w_token hI.1 t1 t3)) (fun v280 S279 p => ?_)
  obtain ⟨e1, T1, g1⟩ := p
  have g1 : Rl T (99999 :: []) S 10 700 T1 S279 := g1
  have f1 := FT_fr hI.2.2.2.1 g1 (by decide +kernel)
  have i1 := IV_K hI g1 t2 (by decide +kernel)
  refine r_sx (sx_ok hL h0 h6 1 (by decide)) (fun v281 q281 => ?_)
  rw [sx_v q278 q281]
  refine r_rv g1.1 (t2.up g1.ty) rfl ?_
  refine r_b2 (ho_eqn (mm_token g1.1 (t2.up g1.ty) i1.1 (by have := i1.2; omega))) (fun v284 S283 p2 => ?_)
  obtain ⟨e2, g2, m2⟩ := p2
  obtain ⟨th, an, rp⟩ := pf_token hI hn hr e1 g1 e2 g2
  exact (hk _ (LW_M hI t1 t2 t3 g1 i1.2 f1 g2 m2 rp (by decide +kernel)))
theorem c_turn {X : Nat → Int32} {L : Nat} {k : AS → Option Nat → Option Nat → Option Nat → Int32 → Option (Int32 × AS)} {Q : Int32 × AS → Prop} {n : Nat} {S : AS} {x : Int32} (hL : L ≤ 3072) (h0 : 0 ≤ x.toInt) (h6 : x.toInt + 6 ≤ (L : Int)) (hn : n ≤ 600) (hw : LW n S) (hk : ∀ S', LW (n + 1) S' → Ho (k S' (some 4) (some 57) (some 126) (x + 6)) Q) : Ho (f_W_law_B1530 X L k S (some 4) (some 57) (some 126) x) Q := by
  obtain ⟨T, hI, t1, t2, t3, hr⟩ := hw
  unfold f_W_law_B1530
  refine r_b2 (ho_eqn (w_turn hI.1 t1 t3)) (fun v286 S285 p => ?_)
  obtain ⟨e1, T1, g1⟩ := p
  have g1 : Rl T (99999 :: kw_K27) S 10 700 T1 S285 := g1
  have f1 := FT_fr hI.2.2.2.1 g1 (by decide +kernel)
  have i1 := IV_K hI g1 t2 (by decide +kernel)
  refine r_rv g1.1 (t2.up g1.ty) rfl ?_
  refine r_b2 (ho_eqn (mm_turn g1.1 (t2.up g1.ty) i1.1 (by have := i1.2; omega))) (fun v289 S288 p2 => ?_)
  obtain ⟨e2, g2, m2⟩ := p2
  obtain ⟨th, an, rp⟩ := pf_turn hI hn hr e1 g1 e2 g2
  exact (hk _ (LW_M hI t1 t2 t3 g1 i1.2 f1 g2 m2 rp (by decide +kernel)))
theorem c_emergency {X : Nat → Int32} {L : Nat} {k : AS → Option Nat → Option Nat → Option Nat → Int32 → Option (Int32 × AS)} {Q : Int32 × AS → Prop} {n : Nat} {S : AS} {x : Int32} (hL : L ≤ 3072) (h0 : 0 ≤ x.toInt) (h6 : x.toInt + 6 ≤ (L : Int)) (hn : n ≤ 600) (hw : LW n S) (hk : ∀ S', LW (n + 1) S' → Ho (k S' (some 4) (some 57) (some 126) (x + 6)) Q) : Ho (f_W_law_B1546 X L k S (some 4) (some 57) (some 126) x) Q := by
  obtain ⟨T, hI, t1, t2, t3, hr⟩ := hw
  unfold f_W_law_B1546
  refine r_b2 (ho_eqn (w_emergency hI.1 t1 t3)) (fun v291 S290 p => ?_)
  obtain ⟨e1, T1, g1⟩ := p
  have g1 : Rl T (99999 :: kw_K89) S 10 700 T1 S290 := g1
  have f1 := FT_fr hI.2.2.2.1 g1 (by decide +kernel)
  have i1 := IV_K hI g1 t2 (by decide +kernel)
  refine r_rv g1.1 (t2.up g1.ty) rfl ?_
  refine r_b2 (ho_eqn (mm_emergency g1.1 (t2.up g1.ty) i1.1 (by have := i1.2; omega))) (fun v294 S293 p2 => ?_)
  obtain ⟨e2, g2, m2⟩ := p2
  obtain ⟨th, an, rp⟩ := pf_emergency hI hn hr e1 g1 e2 g2
  exact (hk _ (LW_M hI t1 t2 t3 g1 i1.2 f1 g2 m2 rp (by decide +kernel)))
theorem c_signing {X : Nat → Int32} {L : Nat} {k : AS → Option Nat → Option Nat → Option Nat → Int32 → Option (Int32 × AS)} {Q : Int32 × AS → Prop} {n : Nat} {S : AS} {x : Int32} (hL : L ≤ 3072) (h0 : 0 ≤ x.toInt) (h6 : x.toInt + 6 ≤ (L : Int)) (hn : n ≤ 600) (hw : LW n S) (hk : ∀ S', LW (n + 1) S' → Ho (k S' (some 4) (some 57) (some 126) (x + 6)) Q) : Ho (f_W_law_B1562 X L k S (some 4) (some 57) (some 126) x) Q := by
  obtain ⟨T, hI, t1, t2, t3, hr⟩ := hw
  unfold f_W_law_B1562
  refine r_rv hI.1 t1 rfl ?_
  refine r_b2 (ho_eqn (t_K_signing hI.1 t1)) (fun v297 S296 p => ?_)
  obtain ⟨e1, e, -⟩ := p
  have e : S296 = S := e
  have g1 : Rl T (99999 :: []) S 10 700 T S296 := by
    rw [e]
    exact Rlweak (Rlrf hI.1) (fun _ z => List.mem_cons_of_mem _ z) (by decide) (by decide)
  have f1 := FT_fr hI.2.2.2.1 g1 (by decide +kernel)
  have i1 := IV_K hI g1 t2 (by decide +kernel)
  refine r_rv g1.1 (t2.up g1.ty) rfl ?_
  refine r_b2 (ho_eqn (mm_signing g1.1 (t2.up g1.ty) i1.1 (by have := i1.2; omega))) (fun v300 S299 p2 => ?_)
  obtain ⟨e2, g2, m2⟩ := p2
  obtain ⟨an, rp⟩ := pf_signing hI hn hr e1 g1 e2 g2
  exact (hk _ (LW_M hI t1 t2 t3 g1 i1.2 f1 g2 m2 rp (by decide +kernel)))
theorem c_isPublished {X : Nat → Int32} {L : Nat} {k : AS → Option Nat → Option Nat → Option Nat → Int32 → Option (Int32 × AS)} {Q : Int32 × AS → Prop} {n : Nat} {S : AS} {x : Int32} (hL : L ≤ 3072) (h0 : 0 ≤ x.toInt) (h6 : x.toInt + 6 ≤ (L : Int)) (hn : n ≤ 600) (hw : LW n S) (hk : ∀ S', LW (n + 1) S' → Ho (k S' (some 4) (some 57) (some 126) (x + 6)) Q) : Ho (f_W_law_B1575 X L k S (some 4) (some 57) (some 126) x) Q := by
  obtain ⟨T, hI, t1, t2, t3, hr⟩ := hw
  unfold f_W_law_B1575
  refine r_sx (sx_ok hL h0 h6 1 (by decide)) (fun v301 q301 => ?_)
  refine r_b2 (ho_eqn (w_isPublished hI.1 t1 t3)) (fun v303 S302 p => ?_)
  obtain ⟨e1, T1, g1⟩ := p
  have g1 : Rl T (99999 :: []) S 10 700 T1 S302 := g1
  have f1 := FT_fr hI.2.2.2.1 g1 (by decide +kernel)
  have i1 := IV_K hI g1 t2 (by decide +kernel)
  refine r_sx (sx_ok hL h0 h6 1 (by decide)) (fun v304 q304 => ?_)
  rw [sx_v q301 q304]
  refine r_rv g1.1 (t2.up g1.ty) rfl ?_
  refine r_b2 (ho_eqn (mm_isPublished g1.1 (t2.up g1.ty) i1.1 (by have := i1.2; omega))) (fun v307 S306 p2 => ?_)
  obtain ⟨e2, g2, m2⟩ := p2
  obtain ⟨th, an, rp⟩ := pf_isPublished hI hn hr e1 g1 e2 g2
  exact (hk _ (LW_M hI t1 t2 t3 g1 i1.2 f1 g2 m2 rp (by decide +kernel)))
theorem c_line {X : Nat → Int32} {L : Nat} {k : AS → Option Nat → Option Nat → Option Nat → Int32 → Option (Int32 × AS)} {Q : Int32 × AS → Prop} {n : Nat} {S : AS} {x : Int32} (hL : L ≤ 3072) (h0 : 0 ≤ x.toInt) (h6 : x.toInt + 6 ≤ (L : Int)) (hn : n ≤ 600) (hw : LW n S) (hk : ∀ S', LW (n + 1) S' → Ho (k S' (some 4) (some 57) (some 126) (x + 6)) Q) : Ho (f_W_law_B1603 X L k S (some 4) (some 57) (some 126) x) Q := by
  obtain ⟨T, hI, t1, t2, t3, hr⟩ := hw
  unfold f_W_law_B1603
  refine r_sx (sx_ok hL h0 h6 1 (by decide)) (fun v308 q308 => ?_)
  refine r_b2 (ho_eqn (w_line hI.1 t1 t3)) (fun v310 S309 p => ?_)
  obtain ⟨e1, T1, g1⟩ := p
  have g1 : Rl T (99999 :: kw_K91) S 10 700 T1 S309 := g1
  have f1 := FT_fr hI.2.2.2.1 g1 (by decide +kernel)
  have i1 := IV_K hI g1 t2 (by decide +kernel)
  refine r_sx (sx_ok hL h0 h6 1 (by decide)) (fun v311 q311 => ?_)
  rw [sx_v q308 q311]
  refine r_rv g1.1 (t2.up g1.ty) rfl ?_
  refine r_b2 (ho_eqn (mm_line g1.1 (t2.up g1.ty) i1.1 (by have := i1.2; omega))) (fun v314 S313 p2 => ?_)
  obtain ⟨e2, g2, m2⟩ := p2
  obtain ⟨th, an, rp⟩ := pf_line hI hn hr e1 g1 e2 g2
  exact (hk _ (LW_M hI t1 t2 t3 g1 i1.2 f1 g2 m2 rp (by decide +kernel)))
theorem c_check {X : Nat → Int32} {L : Nat} {k : AS → Option Nat → Option Nat → Option Nat → Int32 → Option (Int32 × AS)} {Q : Int32 × AS → Prop} {n : Nat} {S : AS} {x : Int32} (hL : L ≤ 3072) (h0 : 0 ≤ x.toInt) (h6 : x.toInt + 6 ≤ (L : Int)) (hn : n ≤ 600) (hw : LW n S) (hk : ∀ S', LW (n + 1) S' → Ho (k S' (some 4) (some 57) (some 126) (x + 6)) Q) : Ho (f_W_law_B1631 X L k S (some 4) (some 57) (some 126) x) Q := by
  obtain ⟨T, hI, t1, t2, t3, hr⟩ := hw
  unfold f_W_law_B1631
  refine r_sx (sx_ok hL h0 h6 1 (by decide)) (fun v315 q315 => ?_)
  refine r_sx (sx_ok hL h0 h6 2 (by decide)) (fun v316 q316 => ?_)
  refine r_sx (sx_ok hL h0 h6 3 (by decide)) (fun v317 q317 => ?_)
  refine r_b2 (ho_eqn (w_check hI.1 t1 t3)) (fun v319 S318 p => ?_)
  obtain ⟨e1, T1, g1⟩ := p
  have g1 : Rl T (99999 :: kw_K93) S 10 700 T1 S318 := g1
  have f1 := FT_fr hI.2.2.2.1 g1 (by decide +kernel)
  have i1 := IV_K hI g1 t2 (by decide +kernel)
  refine r_sx (sx_ok hL h0 h6 1 (by decide)) (fun v320 q320 => ?_)
  rw [sx_v q315 q320]
  refine r_sx (sx_ok hL h0 h6 2 (by decide)) (fun v321 q321 => ?_)
  rw [sx_v q316 q321]
  refine r_sx (sx_ok hL h0 h6 3 (by decide)) (fun v322 q322 => ?_)
  rw [sx_v q317 q322]
  refine r_rv g1.1 (t2.up g1.ty) rfl ?_
  refine r_b2 (ho_eqn (mm_check g1.1 (t2.up g1.ty) i1.1 (by have := i1.2; omega))) (fun v325 S324 p2 => ?_)
  obtain ⟨e2, g2, m2⟩ := p2
  obtain ⟨th, an, rp⟩ := pf_check hI hn hr e1 g1 e2 g2
  exact (hk _ (LW_M hI t1 t2 t3 g1 i1.2 f1 g2 m2 rp (by decide +kernel)))
theorem c_lag {X : Nat → Int32} {L : Nat} {k : AS → Option Nat → Option Nat → Option Nat → Int32 → Option (Int32 × AS)} {Q : Int32 × AS → Prop} {n : Nat} {S : AS} {x : Int32} (hL : L ≤ 3072) (h0 : 0 ≤ x.toInt) (h6 : x.toInt + 6 ≤ (L : Int)) (hn : n ≤ 600) (hw : LW n S) (hk : ∀ S', LW (n + 1) S' → Ho (k S' (some 4) (some 57) (some 126) (x + 6)) Q) : Ho (f_W_law_B1683 X L k S (some 4) (some 57) (some 126) x) Q := by
  obtain ⟨T, hI, t1, t2, t3, hr⟩ := hw
  unfold f_W_law_B1683
  refine r_sx (sx_ok hL h0 h6 1 (by decide)) (fun v326 q326 => ?_)
  refine r_b2 (ho_eqn (w_lag hI.1 t1 t3)) (fun v328 S327 p => ?_)
  obtain ⟨e1, T1, g1⟩ := p
  have g1 : Rl T (99999 :: []) S 10 700 T1 S327 := g1
  have f1 := FT_fr hI.2.2.2.1 g1 (by decide +kernel)
  have i1 := IV_K hI g1 t2 (by decide +kernel)
  refine r_sx (sx_ok hL h0 h6 1 (by decide)) (fun v329 q329 => ?_)
  rw [sx_v q326 q329]
  refine r_rv g1.1 (t2.up g1.ty) rfl ?_
  refine r_b2 (ho_eqn (mm_lag g1.1 (t2.up g1.ty) i1.1 (by have := i1.2; omega))) (fun v332 S331 p2 => ?_)
  obtain ⟨e2, g2, m2⟩ := p2
  obtain ⟨th, an, rp⟩ := pf_lag hI hn hr e1 g1 e2 g2
  exact (hk _ (LW_M hI t1 t2 t3 g1 i1.2 f1 g2 m2 rp (by decide +kernel)))
theorem c_recover {X : Nat → Int32} {L : Nat} {k : AS → Option Nat → Option Nat → Option Nat → Int32 → Option (Int32 × AS)} {Q : Int32 × AS → Prop} {n : Nat} {S : AS} {x : Int32} (hL : L ≤ 3072) (h0 : 0 ≤ x.toInt) (h6 : x.toInt + 6 ≤ (L : Int)) (hn : n ≤ 600) (hw : LW n S) (hk : ∀ S', LW (n + 1) S' → Ho (k S' (some 4) (some 57) (some 126) (x + 6)) Q) : Ho (f_W_law_B1711 X L k S (some 4) (some 57) (some 126) x) Q := by
  obtain ⟨T, hI, t1, t2, t3, hr⟩ := hw
  unfold f_W_law_B1711
  refine r_sx (sx_ok hL h0 h6 1 (by decide)) (fun v333 q333 => ?_)
  refine r_b2 (ho_eqn (w_recover hI.1 t1 t3)) (fun v335 S334 p => ?_)
  obtain ⟨e1, T1, g1⟩ := p
  have g1 : Rl T (99999 :: kw_K94) S 10 700 T1 S334 := g1
  have f1 := FT_fr hI.2.2.2.1 g1 (by decide +kernel)
  have i1 := IV_K hI g1 t2 (by decide +kernel)
  refine r_sx (sx_ok hL h0 h6 1 (by decide)) (fun v336 q336 => ?_)
  rw [sx_v q333 q336]
  refine r_rv g1.1 (t2.up g1.ty) rfl ?_
  refine r_b2 (ho_eqn (mm_recover g1.1 (t2.up g1.ty) i1.1 (by have := i1.2; omega))) (fun v339 S338 p2 => ?_)
  obtain ⟨e2, g2, m2⟩ := p2
  obtain ⟨th, an, rp⟩ := pf_recover hI hn hr e1 g1 e2 g2
  exact (hk _ (LW_M hI t1 t2 t3 g1 i1.2 f1 g2 m2 rp (by decide +kernel)))
theorem c_vouch {X : Nat → Int32} {L : Nat} {k : AS → Option Nat → Option Nat → Option Nat → Int32 → Option (Int32 × AS)} {Q : Int32 × AS → Prop} {n : Nat} {S : AS} {x : Int32} (hL : L ≤ 3072) (h0 : 0 ≤ x.toInt) (h6 : x.toInt + 6 ≤ (L : Int)) (hn : n ≤ 600) (hw : LW n S) (hk : ∀ S', LW (n + 1) S' → Ho (k S' (some 4) (some 57) (some 126) (x + 6)) Q) : Ho (f_W_law_B1739 X L k S (some 4) (some 57) (some 126) x) Q := by
  obtain ⟨T, hI, t1, t2, t3, hr⟩ := hw
  unfold f_W_law_B1739
  refine r_sx (sx_ok hL h0 h6 1 (by decide)) (fun v340 q340 => ?_)
  refine r_sx (sx_ok hL h0 h6 2 (by decide)) (fun v341 q341 => ?_)
  refine r_b2 (ho_eqn (w_vouch hI.1 t1 t3)) (fun v343 S342 p => ?_)
  obtain ⟨e1, T1, g1⟩ := p
  have g1 : Rl T (99999 :: kw_K96) S 10 700 T1 S342 := g1
  have f1 := FT_fr hI.2.2.2.1 g1 (by decide +kernel)
  have i1 := IV_K hI g1 t2 (by decide +kernel)
  refine r_sx (sx_ok hL h0 h6 1 (by decide)) (fun v344 q344 => ?_)
  rw [sx_v q340 q344]
  refine r_sx (sx_ok hL h0 h6 2 (by decide)) (fun v345 q345 => ?_)
  rw [sx_v q341 q345]
  refine r_rv g1.1 (t2.up g1.ty) rfl ?_
  refine r_b2 (ho_eqn (mm_vouch g1.1 (t2.up g1.ty) i1.1 (by have := i1.2; omega))) (fun v348 S347 p2 => ?_)
  obtain ⟨e2, g2, m2⟩ := p2
  obtain ⟨th, an, rp⟩ := pf_vouch hI hn hr e1 g1 e2 g2
  exact (hk _ (LW_M hI t1 t2 t3 g1 i1.2 f1 g2 m2 rp (by decide +kernel)))
theorem c_stop {X : Nat → Int32} {L : Nat} {k : AS → Option Nat → Option Nat → Option Nat → Int32 → Option (Int32 × AS)} {Q : Int32 × AS → Prop} {n : Nat} {S : AS} {x : Int32} (hL : L ≤ 3072) (h0 : 0 ≤ x.toInt) (h6 : x.toInt + 6 ≤ (L : Int)) (hn : n ≤ 600) (hw : LW n S) (hk : ∀ S', LW (n + 1) S' → Ho (k S' (some 4) (some 57) (some 126) (x + 6)) Q) : Ho (f_W_law_B1779 X L k S (some 4) (some 57) (some 126) x) Q := by
  obtain ⟨T, hI, t1, t2, t3, hr⟩ := hw
  unfold f_W_law_B1779
  refine r_sx (sx_ok hL h0 h6 1 (by decide)) (fun v349 q349 => ?_)
  refine r_sx (sx_ok hL h0 h6 2 (by decide)) (fun v350 q350 => ?_)
  refine r_b2 (ho_eqn (w_stop hI.1 t1 t3)) (fun v352 S351 p => ?_)
  obtain ⟨e1, T1, g1⟩ := p
  have g1 : Rl T (99999 :: kw_K97) S 10 700 T1 S351 := g1
  have f1 := FT_fr hI.2.2.2.1 g1 (by decide +kernel)
  have i1 := IV_K hI g1 t2 (by decide +kernel)
  refine r_sx (sx_ok hL h0 h6 1 (by decide)) (fun v353 q353 => ?_)
  rw [sx_v q349 q353]
  refine r_sx (sx_ok hL h0 h6 2 (by decide)) (fun v354 q354 => ?_)
  rw [sx_v q350 q354]
  refine r_rv g1.1 (t2.up g1.ty) rfl ?_
  refine r_b2 (ho_eqn (mm_stop g1.1 (t2.up g1.ty) i1.1 (by have := i1.2; omega))) (fun v357 S356 p2 => ?_)
  obtain ⟨e2, g2, m2⟩ := p2
  obtain ⟨th, an, rp⟩ := pf_stop hI hn hr e1 g1 e2 g2
  exact (hk _ (LW_M hI t1 t2 t3 g1 i1.2 f1 g2 m2 rp (by decide +kernel)))
theorem c_finish {X : Nat → Int32} {L : Nat} {k : AS → Option Nat → Option Nat → Option Nat → Int32 → Option (Int32 × AS)} {Q : Int32 × AS → Prop} {n : Nat} {S : AS} {x : Int32} (hL : L ≤ 3072) (h0 : 0 ≤ x.toInt) (h6 : x.toInt + 6 ≤ (L : Int)) (hn : n ≤ 600) (hw : LW n S) (hk : ∀ S', LW (n + 1) S' → Ho (k S' (some 4) (some 57) (some 126) (x + 6)) Q) : Ho (f_W_law_B1819 X L k S (some 4) (some 57) (some 126) x) Q := by
  obtain ⟨T, hI, t1, t2, t3, hr⟩ := hw
  unfold f_W_law_B1819
  refine r_sx (sx_ok hL h0 h6 1 (by decide)) (fun v358 q358 => ?_)
  refine r_b2 (ho_eqn (w_finish hI.1 t1 t3)) (fun v360 S359 p => ?_)
  obtain ⟨e1, T1, g1⟩ := p
  have g1 : Rl T (99999 :: kw_K101) S 10 700 T1 S359 := g1
  have f1 := FT_fr hI.2.2.2.1 g1 (by decide +kernel)
  have i1 := IV_K hI g1 t2 (by decide +kernel)
  refine r_sx (sx_ok hL h0 h6 1 (by decide)) (fun v361 q361 => ?_)
  rw [sx_v q358 q361]
  refine r_rv g1.1 (t2.up g1.ty) rfl ?_
  refine r_b2 (ho_eqn (mm_finish g1.1 (t2.up g1.ty) i1.1 (by have := i1.2; omega))) (fun v364 S363 p2 => ?_)
  obtain ⟨e2, g2, m2⟩ := p2
  obtain ⟨th, an, rp⟩ := pf_finish hI hn hr e1 g1 e2 g2
  exact (hk _ (LW_M hI t1 t2 t3 g1 i1.2 f1 g2 m2 rp (by decide +kernel)))
theorem c_link {X : Nat → Int32} {L : Nat} {k : AS → Option Nat → Option Nat → Option Nat → Int32 → Option (Int32 × AS)} {Q : Int32 × AS → Prop} {n : Nat} {S : AS} {x : Int32} (hL : L ≤ 3072) (h0 : 0 ≤ x.toInt) (h6 : x.toInt + 6 ≤ (L : Int)) (hn : n ≤ 600) (hw : LW n S) (hk : ∀ S', LW (n + 1) S' → Ho (k S' (some 4) (some 57) (some 126) (x + 6)) Q) : Ho (f_W_law_B1847 X L k S (some 4) (some 57) (some 126) x) Q := by
  obtain ⟨T, hI, t1, t2, t3, hr⟩ := hw
  unfold f_W_law_B1847
  refine r_sx (sx_ok hL h0 h6 1 (by decide)) (fun v365 q365 => ?_)
  refine r_sx (sx_ok hL h0 h6 2 (by decide)) (fun v366 q366 => ?_)
  refine r_b2 (ho_eqn (w_link hI.1 t1 t3)) (fun v368 S367 p => ?_)
  obtain ⟨e1, T1, g1⟩ := p
  have g1 : Rl T (99999 :: kw_K102) S 10 700 T1 S367 := g1
  have f1 := FT_fr hI.2.2.2.1 g1 (by decide +kernel)
  have i1 := IV_K hI g1 t2 (by decide +kernel)
  refine r_sx (sx_ok hL h0 h6 1 (by decide)) (fun v369 q369 => ?_)
  rw [sx_v q365 q369]
  refine r_sx (sx_ok hL h0 h6 2 (by decide)) (fun v370 q370 => ?_)
  rw [sx_v q366 q370]
  refine r_rv g1.1 (t2.up g1.ty) rfl ?_
  refine r_b2 (ho_eqn (mm_link g1.1 (t2.up g1.ty) i1.1 (by have := i1.2; omega))) (fun v373 S372 p2 => ?_)
  obtain ⟨e2, g2, m2⟩ := p2
  obtain ⟨th, an, rp⟩ := pf_link hI hn hr e1 g1 e2 g2
  exact (hk _ (LW_M hI t1 t2 t3 g1 i1.2 f1 g2 m2 rp (by decide +kernel)))
theorem c_foreign {X : Nat → Int32} {L : Nat} {k : AS → Option Nat → Option Nat → Option Nat → Int32 → Option (Int32 × AS)} {Q : Int32 × AS → Prop} {n : Nat} {S : AS} {x : Int32} (hL : L ≤ 3072) (h0 : 0 ≤ x.toInt) (h6 : x.toInt + 6 ≤ (L : Int)) (hn : n ≤ 600) (hw : LW n S) (hk : ∀ S', LW (n + 1) S' → Ho (k S' (some 4) (some 57) (some 126) (x + 6)) Q) : Ho (f_W_law_B1887 X L k S (some 4) (some 57) (some 126) x) Q := by
  obtain ⟨T, hI, t1, t2, t3, hr⟩ := hw
  unfold f_W_law_B1887
  refine r_sx (sx_ok hL h0 h6 1 (by decide)) (fun v374 q374 => ?_)
  refine r_b2 (ho_eqn (w_foreign hI.1 t1 t3)) (fun v376 S375 p => ?_)
  obtain ⟨e1, T1, g1⟩ := p
  have g1 : Rl T (99999 :: kw_K50) S 10 700 T1 S375 := g1
  have f1 := FT_fr hI.2.2.2.1 g1 (by decide +kernel)
  have i1 := IV_K hI g1 t2 (by decide +kernel)
  refine r_sx (sx_ok hL h0 h6 1 (by decide)) (fun v377 q377 => ?_)
  rw [sx_v q374 q377]
  refine r_rv g1.1 (t2.up g1.ty) rfl ?_
  refine r_b2 (ho_eqn (mm_foreign g1.1 (t2.up g1.ty) i1.1 (by have := i1.2; omega))) (fun v380 S379 p2 => ?_)
  obtain ⟨e2, g2, m2⟩ := p2
  obtain ⟨th, an, rp⟩ := pf_foreign hI hn hr e1 g1 e2 g2
  exact (hk _ (LW_M hI t1 t2 t3 g1 i1.2 f1 g2 m2 rp (by decide +kernel)))
theorem c_leave {X : Nat → Int32} {L : Nat} {k : AS → Option Nat → Option Nat → Option Nat → Int32 → Option (Int32 × AS)} {Q : Int32 × AS → Prop} {n : Nat} {S : AS} {x : Int32} (hL : L ≤ 3072) (h0 : 0 ≤ x.toInt) (h6 : x.toInt + 6 ≤ (L : Int)) (hn : n ≤ 600) (hw : LW n S) (hk : ∀ S', LW (n + 1) S' → Ho (k S' (some 4) (some 57) (some 126) (x + 6)) Q) : Ho (f_W_law_B1915 X L k S (some 4) (some 57) (some 126) x) Q := by
  obtain ⟨T, hI, t1, t2, t3, hr⟩ := hw
  unfold f_W_law_B1915
  refine r_sx (sx_ok hL h0 h6 1 (by decide)) (fun v381 q381 => ?_)
  refine r_b2 (ho_eqn (w_leave hI.1 t1 t3)) (fun v383 S382 p => ?_)
  obtain ⟨e1, T1, g1⟩ := p
  have g1 : Rl T (99999 :: kw_K106) S 10 700 T1 S382 := g1
  have f1 := FT_fr hI.2.2.2.1 g1 (by decide +kernel)
  have i1 := IV_K hI g1 t2 (by decide +kernel)
  refine r_sx (sx_ok hL h0 h6 1 (by decide)) (fun v384 q384 => ?_)
  rw [sx_v q381 q384]
  refine r_rv g1.1 (t2.up g1.ty) rfl ?_
  refine r_b2 (ho_eqn (mm_leave g1.1 (t2.up g1.ty) i1.1 (by have := i1.2; omega))) (fun v387 S386 p2 => ?_)
  obtain ⟨e2, g2, m2⟩ := p2
  obtain ⟨th, an, rp⟩ := pf_leave hI hn hr e1 g1 e2 g2
  exact (hk _ (LW_M hI t1 t2 t3 g1 i1.2 f1 g2 m2 rp (by decide +kernel)))
theorem c_audits {X : Nat → Int32} {L : Nat} {k : AS → Option Nat → Option Nat → Option Nat → Int32 → Option (Int32 × AS)} {Q : Int32 × AS → Prop} {n : Nat} {S : AS} {x : Int32} (hL : L ≤ 3072) (h0 : 0 ≤ x.toInt) (h6 : x.toInt + 6 ≤ (L : Int)) (hn : n ≤ 600) (hw : LW n S) (hk : ∀ S', LW (n + 1) S' → Ho (k S' (some 4) (some 57) (some 126) (x + 6)) Q) : Ho (f_W_law_B1943 X L k S (some 4) (some 57) (some 126) x) Q := by
  obtain ⟨T, hI, t1, t2, t3, hr⟩ := hw
  unfold f_W_law_B1943
  refine r_rv hI.1 t1 rfl ?_
  refine r_b2 (ho_eqn (t_K_audits hI.1 t1)) (fun v390 S389 p => ?_)
  obtain ⟨e1, e, -⟩ := p
  have e : S389 = S := e
  have g1 : Rl T (99999 :: []) S 10 700 T S389 := by
    rw [e]
    exact Rlweak (Rlrf hI.1) (fun _ z => List.mem_cons_of_mem _ z) (by decide) (by decide)
  have f1 := FT_fr hI.2.2.2.1 g1 (by decide +kernel)
  have i1 := IV_K hI g1 t2 (by decide +kernel)
  refine r_rv g1.1 (t2.up g1.ty) rfl ?_
  refine r_b2 (ho_eqn (mm_audits g1.1 (t2.up g1.ty) i1.1 (by have := i1.2; omega))) (fun v393 S392 p2 => ?_)
  obtain ⟨e2, g2, m2⟩ := p2
  obtain ⟨an, rp⟩ := pf_audits hI hn hr e1 g1 e2 g2
  exact (hk _ (LW_M hI t1 t2 t3 g1 i1.2 f1 g2 m2 rp (by decide +kernel)))
theorem c_audit {X : Nat → Int32} {L : Nat} {k : AS → Option Nat → Option Nat → Option Nat → Int32 → Option (Int32 × AS)} {Q : Int32 × AS → Prop} {n : Nat} {S : AS} {x : Int32} (hL : L ≤ 3072) (h0 : 0 ≤ x.toInt) (h6 : x.toInt + 6 ≤ (L : Int)) (hn : n ≤ 600) (hw : LW n S) (hk : ∀ S', LW (n + 1) S' → Ho (k S' (some 4) (some 57) (some 126) (x + 6)) Q) : Ho (f_W_law_B1956 X L k S (some 4) (some 57) (some 126) x) Q := by
  obtain ⟨T, hI, t1, t2, t3, hr⟩ := hw
  unfold f_W_law_B1956
  refine r_sx (sx_ok hL h0 h6 1 (by decide)) (fun v394 q394 => ?_)
  refine r_b2 ((w_audit hI.1 t1 t3)) (fun v396 S395 p => ?_)
  obtain ⟨T1, g1⟩ := p
  have f1 := FT_fr hI.2.2.2.1 g1 (by decide +kernel)
  have i1 := IV_K hI g1 t2 (by decide +kernel)
  refine r_sx (sx_ok hL h0 h6 1 (by decide)) (fun v397 q397 => ?_)
  rw [sx_v q394 q397]
  refine r_rv g1.1 (t2.up g1.ty) rfl ?_
  refine r_b2 ((mm_audit g1.1 (t2.up g1.ty) i1.1 (by have := i1.2; omega))) (fun v400 S399 p2 => ?_)
  obtain ⟨g2, m2⟩ := p2
  exact (hk _ (LW_M hI t1 t2 t3 g1 i1.2 f1 g2 m2 (RP_fr (RP_fr hr hI.1 g1 (by decide +kernel)) g1.1 g2 (by decide +kernel)) (by decide +kernel)))
theorem c_sum {X : Nat → Int32} {L : Nat} {k : AS → Option Nat → Option Nat → Option Nat → Int32 → Option (Int32 × AS)} {Q : Int32 × AS → Prop} {n : Nat} {S : AS} {x : Int32} (hL : L ≤ 3072) (h0 : 0 ≤ x.toInt) (h6 : x.toInt + 6 ≤ (L : Int)) (hn : n ≤ 600) (hw : LW n S) (hk : ∀ S', LW (n + 1) S' → Ho (k S' (some 4) (some 57) (some 126) (x + 6)) Q) : Ho (f_W_law_B1984 X L k S (some 4) (some 57) (some 126) x) Q := by
  obtain ⟨T, hI, t1, t2, t3, hr⟩ := hw
  unfold f_W_law_B1984
  refine r_rv hI.1 t1 rfl ?_
  refine r_b2 ((t_K_sum hI.1 t1)) (fun v403 S402 p => ?_)
  obtain ⟨e, -⟩ := p
  have e : S402 = S := e
  have g1 : Rl T (99999 :: []) S 10 700 T S402 := by
    rw [e]
    exact Rlweak (Rlrf hI.1) (fun _ z => List.mem_cons_of_mem _ z) (by decide) (by decide)
  have f1 := FT_fr hI.2.2.2.1 g1 (by decide +kernel)
  have i1 := IV_K hI g1 t2 (by decide +kernel)
  refine r_rv g1.1 (t2.up g1.ty) rfl ?_
  refine r_b2 ((mm_sum g1.1 (t2.up g1.ty) i1.1 (by have := i1.2; omega))) (fun v406 S405 p2 => ?_)
  obtain ⟨g2, m2⟩ := p2
  exact (hk _ (LW_M hI t1 t2 t3 g1 i1.2 f1 g2 m2 (RP_fr (RP_fr hr hI.1 g1 (by decide +kernel)) g1.1 g2 (by decide +kernel)) (by decide +kernel)))
theorem c_sumAnew {X : Nat → Int32} {L : Nat} {k : AS → Option Nat → Option Nat → Option Nat → Int32 → Option (Int32 × AS)} {Q : Int32 × AS → Prop} {n : Nat} {S : AS} {x : Int32} (hL : L ≤ 3072) (h0 : 0 ≤ x.toInt) (h6 : x.toInt + 6 ≤ (L : Int)) (hn : n ≤ 600) (hw : LW n S) (hk : ∀ S', LW (n + 1) S' → Ho (k S' (some 4) (some 57) (some 126) (x + 6)) Q) : Ho (f_W_law_B1997 X L k S (some 4) (some 57) (some 126) x) Q := by
  obtain ⟨T, hI, t1, t2, t3, hr⟩ := hw
  unfold f_W_law_B1997
  refine r_sx (sx_ok hL h0 h6 1 (by decide)) (fun v407 q407 => ?_)
  refine r_b2 ((w_sumAnew hI.1 t1 t3)) (fun v409 S408 p => ?_)
  obtain ⟨T1, g1⟩ := p
  have f1 := FT_fr hI.2.2.2.1 g1 (by decide +kernel)
  have i1 := IV_K hI g1 t2 (by decide +kernel)
  refine r_sx (sx_ok hL h0 h6 1 (by decide)) (fun v410 q410 => ?_)
  rw [sx_v q407 q410]
  refine r_rv g1.1 (t2.up g1.ty) rfl ?_
  refine r_b2 ((mm_sumAnew g1.1 (t2.up g1.ty) i1.1 (by have := i1.2; omega))) (fun v413 S412 p2 => ?_)
  obtain ⟨g2, m2⟩ := p2
  exact (hk _ (LW_M hI t1 t2 t3 g1 i1.2 f1 g2 m2 (RP_fr (RP_fr hr hI.1 g1 (by decide +kernel)) g1.1 g2 (by decide +kernel)) (by decide +kernel)))
