/-! ===== one lemma for each call of the law ===== -/
theorem c_pass {X : Nat → Int32} {L : Nat} {k : AS → Option Nat → Option Nat → Option Nat → Int32 → Option (Int32 × AS)} {Q : Int32 × AS → Prop} {n : Nat} {S : AS} {x : Int32} (hL : L ≤ 3072) (h0 : 0 ≤ x.toInt) (h6 : x.toInt + 6 ≤ (L : Int)) (hn : n ≤ 600) (hw : LW n S) (hk : ∀ S', LW (n + 1) S' → Ho (k S' (some 4) (some 57) (some 126) (x + 6)) Q) : Ho (f_W_law_B260 X L k S (some 4) (some 57) (some 126) x) Q := by
  obtain ⟨T, hI, t1, t2, t3, hr⟩ := hw
  unfold f_W_law_B260
  refine r_sx (sx_ok hL h0 h6 1 (by decide)) (fun v2 _ => ?_)
  refine r_b2 (w_pass hI.1 t1 t3) (fun v4 S3 p => ?_)
  obtain ⟨T1, g1⟩ := p
  have f1 := FT_fr hI.2.2.2.1 g1 (by decide +kernel)
  have i1 := IV_K hI g1 t2 (by decide +kernel)
  have r1 := RP_fr hr g1 (by decide +kernel)
  refine r_sx (sx_ok hL h0 h6 1 (by decide)) (fun v5 _ => ?_)
  refine r_rv g1.1 (t2.up g1.ty) rfl ?_
  refine r_b2 (mm_pass g1.1 (t2.up g1.ty) i1.1 (by have := i1.2; omega)) (fun v8 S7 p => ?_)
  obtain ⟨g2, m2⟩ := p
  exact hk _ (LW_M hI t1 t2 t3 g1 i1.2 f1 g2 m2 (RP_fr r1 g2 (by decide +kernel)) (by decide +kernel))
theorem c_enroll {X : Nat → Int32} {L : Nat} {k : AS → Option Nat → Option Nat → Option Nat → Int32 → Option (Int32 × AS)} {Q : Int32 × AS → Prop} {n : Nat} {S : AS} {x : Int32} (hL : L ≤ 3072) (h0 : 0 ≤ x.toInt) (h6 : x.toInt + 6 ≤ (L : Int)) (hn : n ≤ 600) (hw : LW n S) (hk : ∀ S', LW (n + 1) S' → Ho (k S' (some 4) (some 57) (some 126) (x + 6)) Q) : Ho (f_W_law_B288 X L k S (some 4) (some 57) (some 126) x) Q := by
  obtain ⟨T, hI, t1, t2, t3, hr⟩ := hw
  unfold f_W_law_B288
  refine r_sx (sx_ok hL h0 h6 1 (by decide)) (fun v9 _ => ?_)
  refine r_sx (sx_ok hL h0 h6 2 (by decide)) (fun v10 _ => ?_)
  refine r_b2 (w_enroll hI.1 t1 t3) (fun v12 S11 p => ?_)
  obtain ⟨T1, g1⟩ := p
  have f1 := FT_fr hI.2.2.2.1 g1 (by decide +kernel)
  have i1 := IV_K hI g1 t2 (by decide +kernel)
  have r1 := RP_fr hr g1 (by decide +kernel)
  refine r_sx (sx_ok hL h0 h6 1 (by decide)) (fun v13 _ => ?_)
  refine r_sx (sx_ok hL h0 h6 2 (by decide)) (fun v14 _ => ?_)
  refine r_rv g1.1 (t2.up g1.ty) rfl ?_
  refine r_b2 (mm_enroll g1.1 (t2.up g1.ty) i1.1 (by have := i1.2; omega)) (fun v17 S16 p => ?_)
  obtain ⟨g2, m2⟩ := p
  exact hk _ (LW_M hI t1 t2 t3 g1 i1.2 f1 g2 m2 (RP_fr r1 g2 (by decide +kernel)) (by decide +kernel))
theorem c_factor {X : Nat → Int32} {L : Nat} {k : AS → Option Nat → Option Nat → Option Nat → Int32 → Option (Int32 × AS)} {Q : Int32 × AS → Prop} {n : Nat} {S : AS} {x : Int32} (hL : L ≤ 3072) (h0 : 0 ≤ x.toInt) (h6 : x.toInt + 6 ≤ (L : Int)) (hn : n ≤ 600) (hw : LW n S) (hk : ∀ S', LW (n + 1) S' → Ho (k S' (some 4) (some 57) (some 126) (x + 6)) Q) : Ho (f_W_law_B328 X L k S (some 4) (some 57) (some 126) x) Q := by
  obtain ⟨T, hI, t1, t2, t3, hr⟩ := hw
  unfold f_W_law_B328
  refine r_sx (sx_ok hL h0 h6 1 (by decide)) (fun v18 _ => ?_)
  refine r_sx (sx_ok hL h0 h6 2 (by decide)) (fun v19 _ => ?_)
  refine r_b2 (w_factor hI.1 t1 t3) (fun v21 S20 p => ?_)
  obtain ⟨T1, g1⟩ := p
  have f1 := FT_fr hI.2.2.2.1 g1 (by decide +kernel)
  have i1 := IV_K hI g1 t2 (by decide +kernel)
  have r1 := RP_fr hr g1 (by decide +kernel)
  refine r_sx (sx_ok hL h0 h6 1 (by decide)) (fun v22 _ => ?_)
  refine r_sx (sx_ok hL h0 h6 2 (by decide)) (fun v23 _ => ?_)
  refine r_rv g1.1 (t2.up g1.ty) rfl ?_
  refine r_b2 (mm_factor g1.1 (t2.up g1.ty) i1.1 (by have := i1.2; omega)) (fun v26 S25 p => ?_)
  obtain ⟨g2, m2⟩ := p
  exact hk _ (LW_M hI t1 t2 t3 g1 i1.2 f1 g2 m2 (RP_fr r1 g2 (by decide +kernel)) (by decide +kernel))
theorem c_weakest {X : Nat → Int32} {L : Nat} {k : AS → Option Nat → Option Nat → Option Nat → Int32 → Option (Int32 × AS)} {Q : Int32 × AS → Prop} {n : Nat} {S : AS} {x : Int32} (hL : L ≤ 3072) (h0 : 0 ≤ x.toInt) (h6 : x.toInt + 6 ≤ (L : Int)) (hn : n ≤ 600) (hw : LW n S) (hk : ∀ S', LW (n + 1) S' → Ho (k S' (some 4) (some 57) (some 126) (x + 6)) Q) : Ho (f_W_law_B473 X L k S (some 4) (some 57) (some 126) x) Q := by
  obtain ⟨T, hI, t1, t2, t3, hr⟩ := hw
  unfold f_W_law_B473
  refine r_sx (sx_ok hL h0 h6 1 (by decide)) (fun v53 _ => ?_)
  refine r_b2 (w_weakest hI.1 t1 t3) (fun v55 S54 p => ?_)
  obtain ⟨T1, g1⟩ := p
  have f1 := FT_fr hI.2.2.2.1 g1 (by decide +kernel)
  have i1 := IV_K hI g1 t2 (by decide +kernel)
  have r1 := RP_fr hr g1 (by decide +kernel)
  refine r_sx (sx_ok hL h0 h6 1 (by decide)) (fun v56 _ => ?_)
  refine r_rv g1.1 (t2.up g1.ty) rfl ?_
  refine r_b2 (mm_weakest g1.1 (t2.up g1.ty) i1.1 (by have := i1.2; omega)) (fun v59 S58 p => ?_)
  obtain ⟨g2, m2⟩ := p
  exact hk _ (LW_M hI t1 t2 t3 g1 i1.2 f1 g2 m2 (RP_fr r1 g2 (by decide +kernel)) (by decide +kernel))
theorem c_points {X : Nat → Int32} {L : Nat} {k : AS → Option Nat → Option Nat → Option Nat → Int32 → Option (Int32 × AS)} {Q : Int32 × AS → Prop} {n : Nat} {S : AS} {x : Int32} (hL : L ≤ 3072) (h0 : 0 ≤ x.toInt) (h6 : x.toInt + 6 ≤ (L : Int)) (hn : n ≤ 600) (hw : LW n S) (hk : ∀ S', LW (n + 1) S' → Ho (k S' (some 4) (some 57) (some 126) (x + 6)) Q) : Ho (f_W_law_B501 X L k S (some 4) (some 57) (some 126) x) Q := by
  obtain ⟨T, hI, t1, t2, t3, hr⟩ := hw
  unfold f_W_law_B501
  refine r_sx (sx_ok hL h0 h6 1 (by decide)) (fun v68 _ => ?_)
  refine r_sx (sx_ok hL h0 h6 2 (by decide)) (fun v69 _ => ?_)
  refine r_sx (sx_ok hL h0 h6 3 (by decide)) (fun v70 _ => ?_)
  refine r_if (fun _ => ?_) (fun _ => ?_)
  · skip
    unfold f_W_law_B528
    refine r_b2 (w_points hI.1 t1 t3) (fun v64 S63 p => ?_)
    obtain ⟨T1, g1⟩ := p
    have f1 := FT_fr hI.2.2.2.1 g1 (by decide +kernel)
    have i1 := IV_K hI g1 t2 (by decide +kernel)
    have r1 := RP_fr hr g1 (by decide +kernel)
    refine r_sx (sx_ok hL h0 h6 1 (by decide)) (fun v65 _ => ?_)
    refine r_sx (sx_ok hL h0 h6 2 (by decide)) (fun v66 _ => ?_)
    refine r_sx (sx_ok hL h0 h6 3 (by decide)) (fun v67 _ => ?_)
    refine r_if (fun _ => ?_) (fun _ => ?_)
    · skip
      unfold f_W_law_B561
      refine r_rv g1.1 (t2.up g1.ty) rfl ?_
      refine r_b2 (mm_points g1.1 (t2.up g1.ty) i1.1 (by have := i1.2; omega)) (fun v62 S61 p => ?_)
      obtain ⟨g2, m2⟩ := p
      exact hk _ (LW_M hI t1 t2 t3 g1 i1.2 f1 g2 m2 (RP_fr r1 g2 (by decide +kernel)) (by decide +kernel))
    · skip
      unfold f_W_law_B561
      refine r_rv g1.1 (t2.up g1.ty) rfl ?_
      refine r_b2 (mm_points g1.1 (t2.up g1.ty) i1.1 (by have := i1.2; omega)) (fun v62 S61 p => ?_)
      obtain ⟨g2, m2⟩ := p
      exact hk _ (LW_M hI t1 t2 t3 g1 i1.2 f1 g2 m2 (RP_fr r1 g2 (by decide +kernel)) (by decide +kernel))
  · skip
    unfold f_W_law_B528
    refine r_b2 (w_points hI.1 t1 t3) (fun v64 S63 p => ?_)
    obtain ⟨T1, g1⟩ := p
    have f1 := FT_fr hI.2.2.2.1 g1 (by decide +kernel)
    have i1 := IV_K hI g1 t2 (by decide +kernel)
    have r1 := RP_fr hr g1 (by decide +kernel)
    refine r_sx (sx_ok hL h0 h6 1 (by decide)) (fun v65 _ => ?_)
    refine r_sx (sx_ok hL h0 h6 2 (by decide)) (fun v66 _ => ?_)
    refine r_sx (sx_ok hL h0 h6 3 (by decide)) (fun v67 _ => ?_)
    refine r_if (fun _ => ?_) (fun _ => ?_)
    · skip
      unfold f_W_law_B561
      refine r_rv g1.1 (t2.up g1.ty) rfl ?_
      refine r_b2 (mm_points g1.1 (t2.up g1.ty) i1.1 (by have := i1.2; omega)) (fun v62 S61 p => ?_)
      obtain ⟨g2, m2⟩ := p
      exact hk _ (LW_M hI t1 t2 t3 g1 i1.2 f1 g2 m2 (RP_fr r1 g2 (by decide +kernel)) (by decide +kernel))
    · skip
      unfold f_W_law_B561
      refine r_rv g1.1 (t2.up g1.ty) rfl ?_
      refine r_b2 (mm_points g1.1 (t2.up g1.ty) i1.1 (by have := i1.2; omega)) (fun v62 S61 p => ?_)
      obtain ⟨g2, m2⟩ := p
      exact hk _ (LW_M hI t1 t2 t3 g1 i1.2 f1 g2 m2 (RP_fr r1 g2 (by decide +kernel)) (by decide +kernel))
theorem c_begin {X : Nat → Int32} {L : Nat} {k : AS → Option Nat → Option Nat → Option Nat → Int32 → Option (Int32 × AS)} {Q : Int32 × AS → Prop} {n : Nat} {S : AS} {x : Int32} (hL : L ≤ 3072) (h0 : 0 ≤ x.toInt) (h6 : x.toInt + 6 ≤ (L : Int)) (hn : n ≤ 600) (hw : LW n S) (hk : ∀ S', LW (n + 1) S' → Ho (k S' (some 4) (some 57) (some 126) (x + 6)) Q) : Ho (f_W_law_B569 X L k S (some 4) (some 57) (some 126) x) Q := by
  obtain ⟨T, hI, t1, t2, t3, hr⟩ := hw
  unfold f_W_law_B569
  refine r_sx (sx_ok hL h0 h6 1 (by decide)) (fun v71 _ => ?_)
  refine r_sx (sx_ok hL h0 h6 2 (by decide)) (fun v72 _ => ?_)
  refine r_sx (sx_ok hL h0 h6 3 (by decide)) (fun v73 _ => ?_)
  refine r_b2 (w_begin hI.1 t1 t3) (fun v75 S74 p => ?_)
  obtain ⟨T1, g1⟩ := p
  have f1 := FT_fr hI.2.2.2.1 g1 (by decide +kernel)
  have i1 := IV_K hI g1 t2 (by decide +kernel)
  have r1 := RP_fr hr g1 (by decide +kernel)
  refine r_sx (sx_ok hL h0 h6 1 (by decide)) (fun v76 _ => ?_)
  refine r_sx (sx_ok hL h0 h6 2 (by decide)) (fun v77 _ => ?_)
  refine r_sx (sx_ok hL h0 h6 3 (by decide)) (fun v78 _ => ?_)
  refine r_rv g1.1 (t2.up g1.ty) rfl ?_
  refine r_b2 (mm_begin g1.1 (t2.up g1.ty) i1.1 (by have := i1.2; omega)) (fun v81 S80 p => ?_)
  obtain ⟨g2, m2⟩ := p
  exact hk _ (LW_M hI t1 t2 t3 g1 i1.2 f1 g2 m2 (RP_fr r1 g2 (by decide +kernel)) (by decide +kernel))
theorem c_answer {X : Nat → Int32} {L : Nat} {k : AS → Option Nat → Option Nat → Option Nat → Int32 → Option (Int32 × AS)} {Q : Int32 × AS → Prop} {n : Nat} {S : AS} {x : Int32} (hL : L ≤ 3072) (h0 : 0 ≤ x.toInt) (h6 : x.toInt + 6 ≤ (L : Int)) (hn : n ≤ 600) (hw : LW n S) (hk : ∀ S', LW (n + 1) S' → Ho (k S' (some 4) (some 57) (some 126) (x + 6)) Q) : Ho (f_W_law_B621 X L k S (some 4) (some 57) (some 126) x) Q := by
  obtain ⟨T, hI, t1, t2, t3, hr⟩ := hw
  unfold f_W_law_B621
  refine r_sx (sx_ok hL h0 h6 1 (by decide)) (fun v91 _ => ?_)
  refine r_sx (sx_ok hL h0 h6 2 (by decide)) (fun v92 _ => ?_)
  refine r_if (fun _ => ?_) (fun _ => ?_)
  · skip
    unfold f_W_law_B642
    refine r_sx (sx_ok hL h0 h6 3 (by decide)) (fun v86 _ => ?_)
    refine r_b2 (w_answer hI.1 t1 t3) (fun v88 S87 p => ?_)
    obtain ⟨T1, g1⟩ := p
    have f1 := FT_fr hI.2.2.2.1 g1 (by decide +kernel)
    have i1 := IV_K hI g1 t2 (by decide +kernel)
    have r1 := RP_fr hr g1 (by decide +kernel)
    refine r_sx (sx_ok hL h0 h6 1 (by decide)) (fun v89 _ => ?_)
    refine r_sx (sx_ok hL h0 h6 2 (by decide)) (fun v90 _ => ?_)
    refine r_if (fun _ => ?_) (fun _ => ?_)
    · skip
      unfold f_W_law_B675
      refine r_sx (sx_ok hL h0 h6 3 (by decide)) (fun v82 _ => ?_)
      refine r_rv g1.1 (t2.up g1.ty) rfl ?_
      refine r_b2 (mm_answer g1.1 (t2.up g1.ty) i1.1 (by have := i1.2; omega)) (fun v85 S84 p => ?_)
      obtain ⟨g2, m2⟩ := p
      exact hk _ (LW_M hI t1 t2 t3 g1 i1.2 f1 g2 m2 (RP_fr r1 g2 (by decide +kernel)) (by decide +kernel))
    · skip
      unfold f_W_law_B675
      refine r_sx (sx_ok hL h0 h6 3 (by decide)) (fun v82 _ => ?_)
      refine r_rv g1.1 (t2.up g1.ty) rfl ?_
      refine r_b2 (mm_answer g1.1 (t2.up g1.ty) i1.1 (by have := i1.2; omega)) (fun v85 S84 p => ?_)
      obtain ⟨g2, m2⟩ := p
      exact hk _ (LW_M hI t1 t2 t3 g1 i1.2 f1 g2 m2 (RP_fr r1 g2 (by decide +kernel)) (by decide +kernel))
  · skip
    unfold f_W_law_B642
    refine r_sx (sx_ok hL h0 h6 3 (by decide)) (fun v86 _ => ?_)
    refine r_b2 (w_answer hI.1 t1 t3) (fun v88 S87 p => ?_)
    obtain ⟨T1, g1⟩ := p
    have f1 := FT_fr hI.2.2.2.1 g1 (by decide +kernel)
    have i1 := IV_K hI g1 t2 (by decide +kernel)
    have r1 := RP_fr hr g1 (by decide +kernel)
    refine r_sx (sx_ok hL h0 h6 1 (by decide)) (fun v89 _ => ?_)
    refine r_sx (sx_ok hL h0 h6 2 (by decide)) (fun v90 _ => ?_)
    refine r_if (fun _ => ?_) (fun _ => ?_)
    · skip
      unfold f_W_law_B675
      refine r_sx (sx_ok hL h0 h6 3 (by decide)) (fun v82 _ => ?_)
      refine r_rv g1.1 (t2.up g1.ty) rfl ?_
      refine r_b2 (mm_answer g1.1 (t2.up g1.ty) i1.1 (by have := i1.2; omega)) (fun v85 S84 p => ?_)
      obtain ⟨g2, m2⟩ := p
      exact hk _ (LW_M hI t1 t2 t3 g1 i1.2 f1 g2 m2 (RP_fr r1 g2 (by decide +kernel)) (by decide +kernel))
    · skip
      unfold f_W_law_B675
      refine r_sx (sx_ok hL h0 h6 3 (by decide)) (fun v82 _ => ?_)
      refine r_rv g1.1 (t2.up g1.ty) rfl ?_
      refine r_b2 (mm_answer g1.1 (t2.up g1.ty) i1.1 (by have := i1.2; omega)) (fun v85 S84 p => ?_)
      obtain ⟨g2, m2⟩ := p
      exact hk _ (LW_M hI t1 t2 t3 g1 i1.2 f1 g2 m2 (RP_fr r1 g2 (by decide +kernel)) (by decide +kernel))
theorem c_state {X : Nat → Int32} {L : Nat} {k : AS → Option Nat → Option Nat → Option Nat → Int32 → Option (Int32 × AS)} {Q : Int32 × AS → Prop} {n : Nat} {S : AS} {x : Int32} (hL : L ≤ 3072) (h0 : 0 ≤ x.toInt) (h6 : x.toInt + 6 ≤ (L : Int)) (hn : n ≤ 600) (hw : LW n S) (hk : ∀ S', LW (n + 1) S' → Ho (k S' (some 4) (some 57) (some 126) (x + 6)) Q) : Ho (f_W_law_B689 X L k S (some 4) (some 57) (some 126) x) Q := by
  obtain ⟨T, hI, t1, t2, t3, hr⟩ := hw
  unfold f_W_law_B689
  refine r_sx (sx_ok hL h0 h6 1 (by decide)) (fun v93 _ => ?_)
  refine r_b2 (w_state hI.1 t1 t3) (fun v95 S94 p => ?_)
  obtain ⟨T1, g1⟩ := p
  have f1 := FT_fr hI.2.2.2.1 g1 (by decide +kernel)
  have i1 := IV_K hI g1 t2 (by decide +kernel)
  have r1 := RP_fr hr g1 (by decide +kernel)
  refine r_sx (sx_ok hL h0 h6 1 (by decide)) (fun v96 _ => ?_)
  refine r_rv g1.1 (t2.up g1.ty) rfl ?_
  refine r_b2 (mm_state g1.1 (t2.up g1.ty) i1.1 (by have := i1.2; omega)) (fun v99 S98 p => ?_)
  obtain ⟨g2, m2⟩ := p
  exact hk _ (LW_M hI t1 t2 t3 g1 i1.2 f1 g2 m2 (RP_fr r1 g2 (by decide +kernel)) (by decide +kernel))
theorem c_asked {X : Nat → Int32} {L : Nat} {k : AS → Option Nat → Option Nat → Option Nat → Int32 → Option (Int32 × AS)} {Q : Int32 × AS → Prop} {n : Nat} {S : AS} {x : Int32} (hL : L ≤ 3072) (h0 : 0 ≤ x.toInt) (h6 : x.toInt + 6 ≤ (L : Int)) (hn : n ≤ 600) (hw : LW n S) (hk : ∀ S', LW (n + 1) S' → Ho (k S' (some 4) (some 57) (some 126) (x + 6)) Q) : Ho (f_W_law_B717 X L k S (some 4) (some 57) (some 126) x) Q := by
  obtain ⟨T, hI, t1, t2, t3, hr⟩ := hw
  unfold f_W_law_B717
  refine r_sx (sx_ok hL h0 h6 1 (by decide)) (fun v100 _ => ?_)
  refine r_b2 (w_asked hI.1 t1 t3) (fun v102 S101 p => ?_)
  obtain ⟨T1, g1⟩ := p
  have f1 := FT_fr hI.2.2.2.1 g1 (by decide +kernel)
  have i1 := IV_K hI g1 t2 (by decide +kernel)
  have r1 := RP_fr hr g1 (by decide +kernel)
  refine r_sx (sx_ok hL h0 h6 1 (by decide)) (fun v103 _ => ?_)
  refine r_rv g1.1 (t2.up g1.ty) rfl ?_
  refine r_b2 (mm_asked g1.1 (t2.up g1.ty) i1.1 (by have := i1.2; omega)) (fun v106 S105 p => ?_)
  obtain ⟨g2, m2⟩ := p
  exact hk _ (LW_M hI t1 t2 t3 g1 i1.2 f1 g2 m2 (RP_fr r1 g2 (by decide +kernel)) (by decide +kernel))
theorem c_sessionOf {X : Nat → Int32} {L : Nat} {k : AS → Option Nat → Option Nat → Option Nat → Int32 → Option (Int32 × AS)} {Q : Int32 × AS → Prop} {n : Nat} {S : AS} {x : Int32} (hL : L ≤ 3072) (h0 : 0 ≤ x.toInt) (h6 : x.toInt + 6 ≤ (L : Int)) (hn : n ≤ 600) (hw : LW n S) (hk : ∀ S', LW (n + 1) S' → Ho (k S' (some 4) (some 57) (some 126) (x + 6)) Q) : Ho (f_W_law_B745 X L k S (some 4) (some 57) (some 126) x) Q := by
  obtain ⟨T, hI, t1, t2, t3, hr⟩ := hw
  unfold f_W_law_B745
  refine r_sx (sx_ok hL h0 h6 1 (by decide)) (fun v107 _ => ?_)
  refine r_b2 (w_sessionOf hI.1 t1 t3) (fun v109 S108 p => ?_)
  obtain ⟨T1, g1⟩ := p
  have f1 := FT_fr hI.2.2.2.1 g1 (by decide +kernel)
  have i1 := IV_K hI g1 t2 (by decide +kernel)
  have r1 := RP_fr hr g1 (by decide +kernel)
  refine r_sx (sx_ok hL h0 h6 1 (by decide)) (fun v110 _ => ?_)
  refine r_rv g1.1 (t2.up g1.ty) rfl ?_
  refine r_b2 (mm_sessionOf g1.1 (t2.up g1.ty) i1.1 (by have := i1.2; omega)) (fun v113 S112 p => ?_)
  obtain ⟨g2, m2⟩ := p
  exact hk _ (LW_M hI t1 t2 t3 g1 i1.2 f1 g2 m2 (RP_fr r1 g2 (by decide +kernel)) (by decide +kernel))
theorem c_risk {X : Nat → Int32} {L : Nat} {k : AS → Option Nat → Option Nat → Option Nat → Int32 → Option (Int32 × AS)} {Q : Int32 × AS → Prop} {n : Nat} {S : AS} {x : Int32} (hL : L ≤ 3072) (h0 : 0 ≤ x.toInt) (h6 : x.toInt + 6 ≤ (L : Int)) (hn : n ≤ 600) (hw : LW n S) (hk : ∀ S', LW (n + 1) S' → Ho (k S' (some 4) (some 57) (some 126) (x + 6)) Q) : Ho (f_W_law_B773 X L k S (some 4) (some 57) (some 126) x) Q := by
  obtain ⟨T, hI, t1, t2, t3, hr⟩ := hw
  unfold f_W_law_B773
  refine r_sx (sx_ok hL h0 h6 1 (by decide)) (fun v114 _ => ?_)
  refine r_b2 (w_risk hI.1 t1 t3) (fun v116 S115 p => ?_)
  obtain ⟨T1, g1⟩ := p
  have f1 := FT_fr hI.2.2.2.1 g1 (by decide +kernel)
  have i1 := IV_K hI g1 t2 (by decide +kernel)
  have r1 := RP_fr hr g1 (by decide +kernel)
  refine r_sx (sx_ok hL h0 h6 1 (by decide)) (fun v117 _ => ?_)
  refine r_rv g1.1 (t2.up g1.ty) rfl ?_
  refine r_b2 (mm_risk g1.1 (t2.up g1.ty) i1.1 (by have := i1.2; omega)) (fun v120 S119 p => ?_)
  obtain ⟨g2, m2⟩ := p
  exact hk _ (LW_M hI t1 t2 t3 g1 i1.2 f1 g2 m2 (RP_fr r1 g2 (by decide +kernel)) (by decide +kernel))
theorem c_trialRisk {X : Nat → Int32} {L : Nat} {k : AS → Option Nat → Option Nat → Option Nat → Int32 → Option (Int32 × AS)} {Q : Int32 × AS → Prop} {n : Nat} {S : AS} {x : Int32} (hL : L ≤ 3072) (h0 : 0 ≤ x.toInt) (h6 : x.toInt + 6 ≤ (L : Int)) (hn : n ≤ 600) (hw : LW n S) (hk : ∀ S', LW (n + 1) S' → Ho (k S' (some 4) (some 57) (some 126) (x + 6)) Q) : Ho (f_W_law_B801 X L k S (some 4) (some 57) (some 126) x) Q := by
  obtain ⟨T, hI, t1, t2, t3, hr⟩ := hw
  unfold f_W_law_B801
  refine r_sx (sx_ok hL h0 h6 1 (by decide)) (fun v121 _ => ?_)
  refine r_b2 (w_trialRisk hI.1 t1 t3) (fun v123 S122 p => ?_)
  obtain ⟨T1, g1⟩ := p
  have f1 := FT_fr hI.2.2.2.1 g1 (by decide +kernel)
  have i1 := IV_K hI g1 t2 (by decide +kernel)
  have r1 := RP_fr hr g1 (by decide +kernel)
  refine r_sx (sx_ok hL h0 h6 1 (by decide)) (fun v124 _ => ?_)
  refine r_rv g1.1 (t2.up g1.ty) rfl ?_
  refine r_b2 (mm_trialRisk g1.1 (t2.up g1.ty) i1.1 (by have := i1.2; omega)) (fun v127 S126 p => ?_)
  obtain ⟨g2, m2⟩ := p
  exact hk _ (LW_M hI t1 t2 t3 g1 i1.2 f1 g2 m2 (RP_fr r1 g2 (by decide +kernel)) (by decide +kernel))
theorem c_sessions {X : Nat → Int32} {L : Nat} {k : AS → Option Nat → Option Nat → Option Nat → Int32 → Option (Int32 × AS)} {Q : Int32 × AS → Prop} {n : Nat} {S : AS} {x : Int32} (hL : L ≤ 3072) (h0 : 0 ≤ x.toInt) (h6 : x.toInt + 6 ≤ (L : Int)) (hn : n ≤ 600) (hw : LW n S) (hk : ∀ S', LW (n + 1) S' → Ho (k S' (some 4) (some 57) (some 126) (x + 6)) Q) : Ho (f_W_law_B829 X L k S (some 4) (some 57) (some 126) x) Q := by
  obtain ⟨T, hI, t1, t2, t3, hr⟩ := hw
  unfold f_W_law_B829
  refine r_rv hI.1 t1 rfl ?_
  refine r_b2 (t_K_sessions hI.1 t1) (fun v130 S129 p => ?_)
  obtain ⟨e, -⟩ := p
  have e : S129 = S := e
  have g1 : Rl T (99999 :: []) S 10 700 T S129 := by
    rw [e]
    exact Rlweak (Rlrf hI.1) (fun _ z => List.mem_cons_of_mem _ z) (by decide) (by decide)
  have f1 := FT_fr hI.2.2.2.1 g1 (by decide +kernel)
  have i1 := IV_K hI g1 t2 (by decide +kernel)
  have r1 := RP_fr hr g1 (by decide +kernel)
  refine r_rv g1.1 (t2.up g1.ty) rfl ?_
  refine r_b2 (mm_sessions g1.1 (t2.up g1.ty) i1.1 (by have := i1.2; omega)) (fun v133 S132 p => ?_)
  obtain ⟨g2, m2⟩ := p
  exact hk _ (LW_M hI t1 t2 t3 g1 i1.2 f1 g2 m2 (RP_fr r1 g2 (by decide +kernel)) (by decide +kernel))
theorem c_isLive {X : Nat → Int32} {L : Nat} {k : AS → Option Nat → Option Nat → Option Nat → Int32 → Option (Int32 × AS)} {Q : Int32 × AS → Prop} {n : Nat} {S : AS} {x : Int32} (hL : L ≤ 3072) (h0 : 0 ≤ x.toInt) (h6 : x.toInt + 6 ≤ (L : Int)) (hn : n ≤ 600) (hw : LW n S) (hk : ∀ S', LW (n + 1) S' → Ho (k S' (some 4) (some 57) (some 126) (x + 6)) Q) : Ho (f_W_law_B842 X L k S (some 4) (some 57) (some 126) x) Q := by
  obtain ⟨T, hI, t1, t2, t3, hr⟩ := hw
  unfold f_W_law_B842
  refine r_sx (sx_ok hL h0 h6 1 (by decide)) (fun v134 _ => ?_)
  refine r_b2 (w_isLive hI.1 t1 t3) (fun v136 S135 p => ?_)
  obtain ⟨T1, g1⟩ := p
  have f1 := FT_fr hI.2.2.2.1 g1 (by decide +kernel)
  have i1 := IV_K hI g1 t2 (by decide +kernel)
  have r1 := RP_fr hr g1 (by decide +kernel)
  refine r_sx (sx_ok hL h0 h6 1 (by decide)) (fun v137 _ => ?_)
  refine r_rv g1.1 (t2.up g1.ty) rfl ?_
  refine r_b2 (mm_isLive g1.1 (t2.up g1.ty) i1.1 (by have := i1.2; omega)) (fun v140 S139 p => ?_)
  obtain ⟨g2, m2⟩ := p
  exact hk _ (LW_M hI t1 t2 t3 g1 i1.2 f1 g2 m2 (RP_fr r1 g2 (by decide +kernel)) (by decide +kernel))
theorem c_isLiveByAudit {X : Nat → Int32} {L : Nat} {k : AS → Option Nat → Option Nat → Option Nat → Int32 → Option (Int32 × AS)} {Q : Int32 × AS → Prop} {n : Nat} {S : AS} {x : Int32} (hL : L ≤ 3072) (h0 : 0 ≤ x.toInt) (h6 : x.toInt + 6 ≤ (L : Int)) (hn : n ≤ 600) (hw : LW n S) (hk : ∀ S', LW (n + 1) S' → Ho (k S' (some 4) (some 57) (some 126) (x + 6)) Q) : Ho (f_W_law_B870 X L k S (some 4) (some 57) (some 126) x) Q := by
  obtain ⟨T, hI, t1, t2, t3, hr⟩ := hw
  unfold f_W_law_B870
  refine r_sx (sx_ok hL h0 h6 1 (by decide)) (fun v141 _ => ?_)
  refine r_b2 (w_isLiveByAudit hI.1 t1 t3) (fun v143 S142 p => ?_)
  obtain ⟨T1, g1⟩ := p
  have f1 := FT_fr hI.2.2.2.1 g1 (by decide +kernel)
  have i1 := IV_K hI g1 t2 (by decide +kernel)
  have r1 := RP_fr hr g1 (by decide +kernel)
  refine r_sx (sx_ok hL h0 h6 1 (by decide)) (fun v144 _ => ?_)
  refine r_rv g1.1 (t2.up g1.ty) rfl ?_
  refine r_b2 (mm_isLiveByAudit g1.1 (t2.up g1.ty) i1.1 (by have := i1.2; omega)) (fun v147 S146 p => ?_)
  obtain ⟨g2, m2⟩ := p
  exact hk _ (LW_M hI t1 t2 t3 g1 i1.2 f1 g2 m2 (RP_fr r1 g2 (by decide +kernel)) (by decide +kernel))
theorem c_level {X : Nat → Int32} {L : Nat} {k : AS → Option Nat → Option Nat → Option Nat → Int32 → Option (Int32 × AS)} {Q : Int32 × AS → Prop} {n : Nat} {S : AS} {x : Int32} (hL : L ≤ 3072) (h0 : 0 ≤ x.toInt) (h6 : x.toInt + 6 ≤ (L : Int)) (hn : n ≤ 600) (hw : LW n S) (hk : ∀ S', LW (n + 1) S' → Ho (k S' (some 4) (some 57) (some 126) (x + 6)) Q) : Ho (f_W_law_B898 X L k S (some 4) (some 57) (some 126) x) Q := by
  obtain ⟨T, hI, t1, t2, t3, hr⟩ := hw
  unfold f_W_law_B898
  refine r_sx (sx_ok hL h0 h6 1 (by decide)) (fun v148 _ => ?_)
  refine r_b2 (w_level hI.1 t1 t3) (fun v150 S149 p => ?_)
  obtain ⟨T1, g1⟩ := p
  have f1 := FT_fr hI.2.2.2.1 g1 (by decide +kernel)
  have i1 := IV_K hI g1 t2 (by decide +kernel)
  have r1 := RP_fr hr g1 (by decide +kernel)
  refine r_sx (sx_ok hL h0 h6 1 (by decide)) (fun v151 _ => ?_)
  refine r_rv g1.1 (t2.up g1.ty) rfl ?_
  refine r_b2 (mm_level g1.1 (t2.up g1.ty) i1.1 (by have := i1.2; omega)) (fun v154 S153 p => ?_)
  obtain ⟨g2, m2⟩ := p
  exact hk _ (LW_M hI t1 t2 t3 g1 i1.2 f1 g2 m2 (RP_fr r1 g2 (by decide +kernel)) (by decide +kernel))
theorem c_stepUp {X : Nat → Int32} {L : Nat} {k : AS → Option Nat → Option Nat → Option Nat → Int32 → Option (Int32 × AS)} {Q : Int32 × AS → Prop} {n : Nat} {S : AS} {x : Int32} (hL : L ≤ 3072) (h0 : 0 ≤ x.toInt) (h6 : x.toInt + 6 ≤ (L : Int)) (hn : n ≤ 600) (hw : LW n S) (hk : ∀ S', LW (n + 1) S' → Ho (k S' (some 4) (some 57) (some 126) (x + 6)) Q) : Ho (f_W_law_B926 X L k S (some 4) (some 57) (some 126) x) Q := by
  obtain ⟨T, hI, t1, t2, t3, hr⟩ := hw
  unfold f_W_law_B926
  refine r_sx (sx_ok hL h0 h6 1 (by decide)) (fun v165 _ => ?_)
  refine r_sx (sx_ok hL h0 h6 2 (by decide)) (fun v166 _ => ?_)
  refine r_sx (sx_ok hL h0 h6 3 (by decide)) (fun v167 _ => ?_)
  refine r_if (fun _ => ?_) (fun _ => ?_)
  · skip
    unfold f_W_law_B953
    refine r_sx (sx_ok hL h0 h6 4 (by decide)) (fun v159 _ => ?_)
    refine r_b2 (w_stepUp hI.1 t1 t3) (fun v161 S160 p => ?_)
    obtain ⟨T1, g1⟩ := p
    have f1 := FT_fr hI.2.2.2.1 g1 (by decide +kernel)
    have i1 := IV_K hI g1 t2 (by decide +kernel)
    have r1 := RP_fr hr g1 (by decide +kernel)
    refine r_sx (sx_ok hL h0 h6 1 (by decide)) (fun v162 _ => ?_)
    refine r_sx (sx_ok hL h0 h6 2 (by decide)) (fun v163 _ => ?_)
    refine r_sx (sx_ok hL h0 h6 3 (by decide)) (fun v164 _ => ?_)
    refine r_if (fun _ => ?_) (fun _ => ?_)
    · skip
      unfold f_W_law_B992
      refine r_sx (sx_ok hL h0 h6 4 (by decide)) (fun v155 _ => ?_)
      refine r_rv g1.1 (t2.up g1.ty) rfl ?_
      refine r_b2 (mm_stepUp g1.1 (t2.up g1.ty) i1.1 (by have := i1.2; omega)) (fun v158 S157 p => ?_)
      obtain ⟨g2, m2⟩ := p
      exact hk _ (LW_M hI t1 t2 t3 g1 i1.2 f1 g2 m2 (RP_fr r1 g2 (by decide +kernel)) (by decide +kernel))
    · skip
      unfold f_W_law_B992
      refine r_sx (sx_ok hL h0 h6 4 (by decide)) (fun v155 _ => ?_)
      refine r_rv g1.1 (t2.up g1.ty) rfl ?_
      refine r_b2 (mm_stepUp g1.1 (t2.up g1.ty) i1.1 (by have := i1.2; omega)) (fun v158 S157 p => ?_)
      obtain ⟨g2, m2⟩ := p
      exact hk _ (LW_M hI t1 t2 t3 g1 i1.2 f1 g2 m2 (RP_fr r1 g2 (by decide +kernel)) (by decide +kernel))
  · skip
    unfold f_W_law_B953
    refine r_sx (sx_ok hL h0 h6 4 (by decide)) (fun v159 _ => ?_)
    refine r_b2 (w_stepUp hI.1 t1 t3) (fun v161 S160 p => ?_)
    obtain ⟨T1, g1⟩ := p
    have f1 := FT_fr hI.2.2.2.1 g1 (by decide +kernel)
    have i1 := IV_K hI g1 t2 (by decide +kernel)
    have r1 := RP_fr hr g1 (by decide +kernel)
    refine r_sx (sx_ok hL h0 h6 1 (by decide)) (fun v162 _ => ?_)
    refine r_sx (sx_ok hL h0 h6 2 (by decide)) (fun v163 _ => ?_)
    refine r_sx (sx_ok hL h0 h6 3 (by decide)) (fun v164 _ => ?_)
    refine r_if (fun _ => ?_) (fun _ => ?_)
    · skip
      unfold f_W_law_B992
      refine r_sx (sx_ok hL h0 h6 4 (by decide)) (fun v155 _ => ?_)
      refine r_rv g1.1 (t2.up g1.ty) rfl ?_
      refine r_b2 (mm_stepUp g1.1 (t2.up g1.ty) i1.1 (by have := i1.2; omega)) (fun v158 S157 p => ?_)
      obtain ⟨g2, m2⟩ := p
      exact hk _ (LW_M hI t1 t2 t3 g1 i1.2 f1 g2 m2 (RP_fr r1 g2 (by decide +kernel)) (by decide +kernel))
    · skip
      unfold f_W_law_B992
      refine r_sx (sx_ok hL h0 h6 4 (by decide)) (fun v155 _ => ?_)
      refine r_rv g1.1 (t2.up g1.ty) rfl ?_
      refine r_b2 (mm_stepUp g1.1 (t2.up g1.ty) i1.1 (by have := i1.2; omega)) (fun v158 S157 p => ?_)
      obtain ⟨g2, m2⟩ := p
      exact hk _ (LW_M hI t1 t2 t3 g1 i1.2 f1 g2 m2 (RP_fr r1 g2 (by decide +kernel)) (by decide +kernel))
theorem c_signOut {X : Nat → Int32} {L : Nat} {k : AS → Option Nat → Option Nat → Option Nat → Int32 → Option (Int32 × AS)} {Q : Int32 × AS → Prop} {n : Nat} {S : AS} {x : Int32} (hL : L ≤ 3072) (h0 : 0 ≤ x.toInt) (h6 : x.toInt + 6 ≤ (L : Int)) (hn : n ≤ 600) (hw : LW n S) (hk : ∀ S', LW (n + 1) S' → Ho (k S' (some 4) (some 57) (some 126) (x + 6)) Q) : Ho (f_W_law_B1006 X L k S (some 4) (some 57) (some 126) x) Q := by
  obtain ⟨T, hI, t1, t2, t3, hr⟩ := hw
  unfold f_W_law_B1006
  refine r_sx (sx_ok hL h0 h6 1 (by decide)) (fun v168 _ => ?_)
  refine r_b2 (w_signOut hI.1 t1 t3) (fun v170 S169 p => ?_)
  obtain ⟨T1, g1⟩ := p
  have f1 := FT_fr hI.2.2.2.1 g1 (by decide +kernel)
  have i1 := IV_K hI g1 t2 (by decide +kernel)
  have r1 := RP_fr hr g1 (by decide +kernel)
  refine r_sx (sx_ok hL h0 h6 1 (by decide)) (fun v171 _ => ?_)
  refine r_rv g1.1 (t2.up g1.ty) rfl ?_
  refine r_b2 (mm_signOut g1.1 (t2.up g1.ty) i1.1 (by have := i1.2; omega)) (fun v174 S173 p => ?_)
  obtain ⟨g2, m2⟩ := p
  exact hk _ (LW_M hI t1 t2 t3 g1 i1.2 f1 g2 m2 (RP_fr r1 g2 (by decide +kernel)) (by decide +kernel))
theorem c_helper {X : Nat → Int32} {L : Nat} {k : AS → Option Nat → Option Nat → Option Nat → Int32 → Option (Int32 × AS)} {Q : Int32 × AS → Prop} {n : Nat} {S : AS} {x : Int32} (hL : L ≤ 3072) (h0 : 0 ≤ x.toInt) (h6 : x.toInt + 6 ≤ (L : Int)) (hn : n ≤ 600) (hw : LW n S) (hk : ∀ S', LW (n + 1) S' → Ho (k S' (some 4) (some 57) (some 126) (x + 6)) Q) : Ho (f_W_law_B1034 X L k S (some 4) (some 57) (some 126) x) Q := by
  obtain ⟨T, hI, t1, t2, t3, hr⟩ := hw
  unfold f_W_law_B1034
  refine r_sx (sx_ok hL h0 h6 1 (by decide)) (fun v175 _ => ?_)
  refine r_b2 (w_helper hI.1 t1 t3) (fun v177 S176 p => ?_)
  obtain ⟨T1, g1⟩ := p
  have f1 := FT_fr hI.2.2.2.1 g1 (by decide +kernel)
  have i1 := IV_K hI g1 t2 (by decide +kernel)
  have r1 := RP_fr hr g1 (by decide +kernel)
  refine r_sx (sx_ok hL h0 h6 1 (by decide)) (fun v178 _ => ?_)
  refine r_rv g1.1 (t2.up g1.ty) rfl ?_
  refine r_b2 (mm_helper g1.1 (t2.up g1.ty) i1.1 (by have := i1.2; omega)) (fun v181 S180 p => ?_)
  obtain ⟨g2, m2⟩ := p
  exact hk _ (LW_M hI t1 t2 t3 g1 i1.2 f1 g2 m2 (RP_fr r1 g2 (by decide +kernel)) (by decide +kernel))
theorem c_act {X : Nat → Int32} {L : Nat} {k : AS → Option Nat → Option Nat → Option Nat → Int32 → Option (Int32 × AS)} {Q : Int32 × AS → Prop} {n : Nat} {S : AS} {x : Int32} (hL : L ≤ 3072) (h0 : 0 ≤ x.toInt) (h6 : x.toInt + 6 ≤ (L : Int)) (hn : n ≤ 600) (hw : LW n S) (hk : ∀ S', LW (n + 1) S' → Ho (k S' (some 4) (some 57) (some 126) (x + 6)) Q) : Ho (f_W_law_B1062 X L k S (some 4) (some 57) (some 126) x) Q := by
  obtain ⟨T, hI, t1, t2, t3, hr⟩ := hw
  unfold f_W_law_B1062
  refine r_sx (sx_ok hL h0 h6 1 (by decide)) (fun v182 _ => ?_)
  refine r_sx (sx_ok hL h0 h6 2 (by decide)) (fun v183 _ => ?_)
  refine r_b2 (w_act hI.1 t1 t3) (fun v185 S184 p => ?_)
  obtain ⟨T1, g1⟩ := p
  have f1 := FT_fr hI.2.2.2.1 g1 (by decide +kernel)
  have i1 := IV_K hI g1 t2 (by decide +kernel)
  have r1 := RP_fr hr g1 (by decide +kernel)
  refine r_sx (sx_ok hL h0 h6 1 (by decide)) (fun v186 _ => ?_)
  refine r_sx (sx_ok hL h0 h6 2 (by decide)) (fun v187 _ => ?_)
  refine r_rv g1.1 (t2.up g1.ty) rfl ?_
  refine r_b2 (mm_act g1.1 (t2.up g1.ty) i1.1 (by have := i1.2; omega)) (fun v190 S189 p => ?_)
  obtain ⟨g2, m2⟩ := p
  exact hk _ (LW_M hI t1 t2 t3 g1 i1.2 f1 g2 m2 (RP_fr r1 g2 (by decide +kernel)) (by decide +kernel))
theorem c_consent {X : Nat → Int32} {L : Nat} {k : AS → Option Nat → Option Nat → Option Nat → Int32 → Option (Int32 × AS)} {Q : Int32 × AS → Prop} {n : Nat} {S : AS} {x : Int32} (hL : L ≤ 3072) (h0 : 0 ≤ x.toInt) (h6 : x.toInt + 6 ≤ (L : Int)) (hn : n ≤ 600) (hw : LW n S) (hk : ∀ S', LW (n + 1) S' → Ho (k S' (some 4) (some 57) (some 126) (x + 6)) Q) : Ho (f_W_law_B1102 X L k S (some 4) (some 57) (some 126) x) Q := by
  obtain ⟨T, hI, t1, t2, t3, hr⟩ := hw
  unfold f_W_law_B1102
  refine r_sx (sx_ok hL h0 h6 1 (by decide)) (fun v191 _ => ?_)
  refine r_sx (sx_ok hL h0 h6 2 (by decide)) (fun v192 _ => ?_)
  refine r_sx (sx_ok hL h0 h6 3 (by decide)) (fun v193 _ => ?_)
  refine r_b2 (w_consent hI.1 t1 t3) (fun v195 S194 p => ?_)
  obtain ⟨T1, g1⟩ := p
  have f1 := FT_fr hI.2.2.2.1 g1 (by decide +kernel)
  have i1 := IV_K hI g1 t2 (by decide +kernel)
  have r1 := RP_fr hr g1 (by decide +kernel)
  refine r_sx (sx_ok hL h0 h6 1 (by decide)) (fun v196 _ => ?_)
  refine r_sx (sx_ok hL h0 h6 2 (by decide)) (fun v197 _ => ?_)
  refine r_sx (sx_ok hL h0 h6 3 (by decide)) (fun v198 _ => ?_)
  refine r_rv g1.1 (t2.up g1.ty) rfl ?_
  refine r_b2 (mm_consent g1.1 (t2.up g1.ty) i1.1 (by have := i1.2; omega)) (fun v201 S200 p => ?_)
  obtain ⟨g2, m2⟩ := p
  exact hk _ (LW_M hI t1 t2 t3 g1 i1.2 f1 g2 m2 (RP_fr r1 g2 (by decide +kernel)) (by decide +kernel))
theorem c_withdraw {X : Nat → Int32} {L : Nat} {k : AS → Option Nat → Option Nat → Option Nat → Int32 → Option (Int32 × AS)} {Q : Int32 × AS → Prop} {n : Nat} {S : AS} {x : Int32} (hL : L ≤ 3072) (h0 : 0 ≤ x.toInt) (h6 : x.toInt + 6 ≤ (L : Int)) (hn : n ≤ 600) (hw : LW n S) (hk : ∀ S', LW (n + 1) S' → Ho (k S' (some 4) (some 57) (some 126) (x + 6)) Q) : Ho (f_W_law_B1154 X L k S (some 4) (some 57) (some 126) x) Q := by
  obtain ⟨T, hI, t1, t2, t3, hr⟩ := hw
  unfold f_W_law_B1154
  refine r_sx (sx_ok hL h0 h6 1 (by decide)) (fun v202 _ => ?_)
  refine r_sx (sx_ok hL h0 h6 2 (by decide)) (fun v203 _ => ?_)
  refine r_b2 (w_withdraw hI.1 t1 t3) (fun v205 S204 p => ?_)
  obtain ⟨T1, g1⟩ := p
  have f1 := FT_fr hI.2.2.2.1 g1 (by decide +kernel)
  have i1 := IV_K hI g1 t2 (by decide +kernel)
  have r1 := RP_fr hr g1 (by decide +kernel)
  refine r_sx (sx_ok hL h0 h6 1 (by decide)) (fun v206 _ => ?_)
  refine r_sx (sx_ok hL h0 h6 2 (by decide)) (fun v207 _ => ?_)
  refine r_rv g1.1 (t2.up g1.ty) rfl ?_
  refine r_b2 (mm_withdraw g1.1 (t2.up g1.ty) i1.1 (by have := i1.2; omega)) (fun v210 S209 p => ?_)
  obtain ⟨g2, m2⟩ := p
  exact hk _ (LW_M hI t1 t2 t3 g1 i1.2 f1 g2 m2 (RP_fr r1 g2 (by decide +kernel)) (by decide +kernel))
theorem c_need {X : Nat → Int32} {L : Nat} {k : AS → Option Nat → Option Nat → Option Nat → Int32 → Option (Int32 × AS)} {Q : Int32 × AS → Prop} {n : Nat} {S : AS} {x : Int32} (hL : L ≤ 3072) (h0 : 0 ≤ x.toInt) (h6 : x.toInt + 6 ≤ (L : Int)) (hn : n ≤ 600) (hw : LW n S) (hk : ∀ S', LW (n + 1) S' → Ho (k S' (some 4) (some 57) (some 126) (x + 6)) Q) : Ho (f_W_law_B1194 X L k S (some 4) (some 57) (some 126) x) Q := by
  obtain ⟨T, hI, t1, t2, t3, hr⟩ := hw
  unfold f_W_law_B1194
  refine r_sx (sx_ok hL h0 h6 1 (by decide)) (fun v211 _ => ?_)
  refine r_sx (sx_ok hL h0 h6 2 (by decide)) (fun v212 _ => ?_)
  refine r_b2 (w_need hI.1 t1 t3) (fun v214 S213 p => ?_)
  obtain ⟨T1, g1⟩ := p
  have f1 := FT_fr hI.2.2.2.1 g1 (by decide +kernel)
  have i1 := IV_K hI g1 t2 (by decide +kernel)
  have r1 := RP_fr hr g1 (by decide +kernel)
  refine r_sx (sx_ok hL h0 h6 1 (by decide)) (fun v215 _ => ?_)
  refine r_sx (sx_ok hL h0 h6 2 (by decide)) (fun v216 _ => ?_)
  refine r_rv g1.1 (t2.up g1.ty) rfl ?_
  refine r_b2 (mm_need g1.1 (t2.up g1.ty) i1.1 (by have := i1.2; omega)) (fun v219 S218 p => ?_)
  obtain ⟨g2, m2⟩ := p
  exact hk _ (LW_M hI t1 t2 t3 g1 i1.2 f1 g2 m2 (RP_fr r1 g2 (by decide +kernel)) (by decide +kernel))
theorem c_authorize {X : Nat → Int32} {L : Nat} {k : AS → Option Nat → Option Nat → Option Nat → Int32 → Option (Int32 × AS)} {Q : Int32 × AS → Prop} {n : Nat} {S : AS} {x : Int32} (hL : L ≤ 3072) (h0 : 0 ≤ x.toInt) (h6 : x.toInt + 6 ≤ (L : Int)) (hn : n ≤ 600) (hw : LW n S) (hk : ∀ S', LW (n + 1) S' → Ho (k S' (some 4) (some 57) (some 126) (x + 6)) Q) : Ho (f_W_law_B1234 X L k S (some 4) (some 57) (some 126) x) Q := by
  obtain ⟨T, hI, t1, t2, t3, hr⟩ := hw
  unfold f_W_law_B1234
  refine r_sx (sx_ok hL h0 h6 1 (by decide)) (fun v220 _ => ?_)
  refine r_sx (sx_ok hL h0 h6 2 (by decide)) (fun v221 _ => ?_)
  refine r_sx (sx_ok hL h0 h6 3 (by decide)) (fun v222 _ => ?_)
  refine r_sx (sx_ok hL h0 h6 4 (by decide)) (fun v223 _ => ?_)
  refine r_b2 (w_authorize hI.1 t1 t3) (fun v225 S224 p => ?_)
  obtain ⟨T1, g1⟩ := p
  have f1 := FT_fr hI.2.2.2.1 g1 (by decide +kernel)
  have i1 := IV_K hI g1 t2 (by decide +kernel)
  have r1 := RP_fr hr g1 (by decide +kernel)
  refine r_sx (sx_ok hL h0 h6 1 (by decide)) (fun v226 _ => ?_)
  refine r_sx (sx_ok hL h0 h6 2 (by decide)) (fun v227 _ => ?_)
  refine r_sx (sx_ok hL h0 h6 3 (by decide)) (fun v228 _ => ?_)
  refine r_sx (sx_ok hL h0 h6 4 (by decide)) (fun v229 _ => ?_)
  refine r_rv g1.1 (t2.up g1.ty) rfl ?_
  refine r_b2 (mm_authorize g1.1 (t2.up g1.ty) i1.1 (by have := i1.2; omega)) (fun v232 S231 p => ?_)
  obtain ⟨g2, m2⟩ := p
  exact hk _ (LW_M hI t1 t2 t3 g1 i1.2 f1 g2 m2 (RP_fr r1 g2 (by decide +kernel)) (by decide +kernel))
theorem c_redeem {X : Nat → Int32} {L : Nat} {k : AS → Option Nat → Option Nat → Option Nat → Int32 → Option (Int32 × AS)} {Q : Int32 × AS → Prop} {n : Nat} {S : AS} {x : Int32} (hL : L ≤ 3072) (h0 : 0 ≤ x.toInt) (h6 : x.toInt + 6 ≤ (L : Int)) (hn : n ≤ 600) (hw : LW n S) (hk : ∀ S', LW (n + 1) S' → Ho (k S' (some 4) (some 57) (some 126) (x + 6)) Q) : Ho (f_W_law_B1298 X L k S (some 4) (some 57) (some 126) x) Q := by
  obtain ⟨T, hI, t1, t2, t3, hr⟩ := hw
  unfold f_W_law_B1298
  refine r_sx (sx_ok hL h0 h6 1 (by decide)) (fun v233 _ => ?_)
  refine r_b2 (w_redeem hI.1 t1 t3 hI.2.2.2.1) (fun v235 S234 p => ?_)
  obtain ⟨⟨T1, g1⟩, f1⟩ := p
  have i1 := IV_K hI g1 t2 (by decide +kernel)
  have r1 := RP_fr hr g1 (by decide +kernel)
  refine r_sx (sx_ok hL h0 h6 1 (by decide)) (fun v236 _ => ?_)
  refine r_rv g1.1 (t2.up g1.ty) rfl ?_
  refine r_b2 (mm_redeem g1.1 (t2.up g1.ty) i1.1 (by have := i1.2; omega)) (fun v239 S238 p => ?_)
  obtain ⟨g2, m2⟩ := p
  exact hk _ (LW_M hI t1 t2 t3 g1 i1.2 f1 g2 m2 (RP_fr r1 g2 (by decide +kernel)) (by decide +kernel))
theorem c_refresh {X : Nat → Int32} {L : Nat} {k : AS → Option Nat → Option Nat → Option Nat → Int32 → Option (Int32 × AS)} {Q : Int32 × AS → Prop} {n : Nat} {S : AS} {x : Int32} (hL : L ≤ 3072) (h0 : 0 ≤ x.toInt) (h6 : x.toInt + 6 ≤ (L : Int)) (hn : n ≤ 600) (hw : LW n S) (hk : ∀ S', LW (n + 1) S' → Ho (k S' (some 4) (some 57) (some 126) (x + 6)) Q) : Ho (f_W_law_B1326 X L k S (some 4) (some 57) (some 126) x) Q := by
  obtain ⟨T, hI, t1, t2, t3, hr⟩ := hw
  unfold f_W_law_B1326
  refine r_sx (sx_ok hL h0 h6 1 (by decide)) (fun v240 _ => ?_)
  refine r_sx (sx_ok hL h0 h6 2 (by decide)) (fun v241 _ => ?_)
  refine r_b2 (w_refresh hI.1 t1 t3) (fun v243 S242 p => ?_)
  obtain ⟨T1, g1⟩ := p
  have f1 := FT_fr hI.2.2.2.1 g1 (by decide +kernel)
  have i1 := IV_K hI g1 t2 (by decide +kernel)
  have r1 := RP_fr hr g1 (by decide +kernel)
  refine r_sx (sx_ok hL h0 h6 1 (by decide)) (fun v244 _ => ?_)
  refine r_sx (sx_ok hL h0 h6 2 (by decide)) (fun v245 _ => ?_)
  refine r_rv g1.1 (t2.up g1.ty) rfl ?_
  refine r_b2 (mm_refresh g1.1 (t2.up g1.ty) i1.1 (by have := i1.2; omega)) (fun v248 S247 p => ?_)
  obtain ⟨g2, m2⟩ := p
  exact hk _ (LW_M hI t1 t2 t3 g1 i1.2 f1 g2 m2 (RP_fr r1 g2 (by decide +kernel)) (by decide +kernel))
theorem c_isGood {X : Nat → Int32} {L : Nat} {k : AS → Option Nat → Option Nat → Option Nat → Int32 → Option (Int32 × AS)} {Q : Int32 × AS → Prop} {n : Nat} {S : AS} {x : Int32} (hL : L ≤ 3072) (h0 : 0 ≤ x.toInt) (h6 : x.toInt + 6 ≤ (L : Int)) (hn : n ≤ 600) (hw : LW n S) (hk : ∀ S', LW (n + 1) S' → Ho (k S' (some 4) (some 57) (some 126) (x + 6)) Q) : Ho (f_W_law_B1366 X L k S (some 4) (some 57) (some 126) x) Q := by
  obtain ⟨T, hI, t1, t2, t3, hr⟩ := hw
  unfold f_W_law_B1366
  refine r_sx (sx_ok hL h0 h6 1 (by decide)) (fun v249 _ => ?_)
  refine r_b2 (w_isGood hI.1 t1 t3) (fun v251 S250 p => ?_)
  obtain ⟨T1, g1⟩ := p
  have f1 := FT_fr hI.2.2.2.1 g1 (by decide +kernel)
  have i1 := IV_K hI g1 t2 (by decide +kernel)
  have r1 := RP_fr hr g1 (by decide +kernel)
  refine r_sx (sx_ok hL h0 h6 1 (by decide)) (fun v252 _ => ?_)
  refine r_rv g1.1 (t2.up g1.ty) rfl ?_
  refine r_b2 (mm_isGood g1.1 (t2.up g1.ty) i1.1 (by have := i1.2; omega)) (fun v255 S254 p => ?_)
  obtain ⟨g2, m2⟩ := p
  exact hk _ (LW_M hI t1 t2 t3 g1 i1.2 f1 g2 m2 (RP_fr r1 g2 (by decide +kernel)) (by decide +kernel))
theorem c_tokenOf {X : Nat → Int32} {L : Nat} {k : AS → Option Nat → Option Nat → Option Nat → Int32 → Option (Int32 × AS)} {Q : Int32 × AS → Prop} {n : Nat} {S : AS} {x : Int32} (hL : L ≤ 3072) (h0 : 0 ≤ x.toInt) (h6 : x.toInt + 6 ≤ (L : Int)) (hn : n ≤ 600) (hw : LW n S) (hk : ∀ S', LW (n + 1) S' → Ho (k S' (some 4) (some 57) (some 126) (x + 6)) Q) : Ho (f_W_law_B1394 X L k S (some 4) (some 57) (some 126) x) Q := by
  obtain ⟨T, hI, t1, t2, t3, hr⟩ := hw
  unfold f_W_law_B1394
  refine r_sx (sx_ok hL h0 h6 1 (by decide)) (fun v256 _ => ?_)
  refine r_b2 (w_tokenOf hI.1 t1 t3) (fun v258 S257 p => ?_)
  obtain ⟨T1, g1⟩ := p
  have f1 := FT_fr hI.2.2.2.1 g1 (by decide +kernel)
  have i1 := IV_K hI g1 t2 (by decide +kernel)
  have r1 := RP_fr hr g1 (by decide +kernel)
  refine r_sx (sx_ok hL h0 h6 1 (by decide)) (fun v259 _ => ?_)
  refine r_rv g1.1 (t2.up g1.ty) rfl ?_
  refine r_b2 (mm_tokenOf g1.1 (t2.up g1.ty) i1.1 (by have := i1.2; omega)) (fun v262 S261 p => ?_)
  obtain ⟨g2, m2⟩ := p
  exact hk _ (LW_M hI t1 t2 t3 g1 i1.2 f1 g2 m2 (RP_fr r1 g2 (by decide +kernel)) (by decide +kernel))
theorem c_exchange {X : Nat → Int32} {L : Nat} {k : AS → Option Nat → Option Nat → Option Nat → Int32 → Option (Int32 × AS)} {Q : Int32 × AS → Prop} {n : Nat} {S : AS} {x : Int32} (hL : L ≤ 3072) (h0 : 0 ≤ x.toInt) (h6 : x.toInt + 6 ≤ (L : Int)) (hn : n ≤ 600) (hw : LW n S) (hk : ∀ S', LW (n + 1) S' → Ho (k S' (some 4) (some 57) (some 126) (x + 6)) Q) : Ho (f_W_law_B1422 X L k S (some 4) (some 57) (some 126) x) Q := by
  obtain ⟨T, hI, t1, t2, t3, hr⟩ := hw
  unfold f_W_law_B1422
  refine r_sx (sx_ok hL h0 h6 1 (by decide)) (fun v263 _ => ?_)
  refine r_sx (sx_ok hL h0 h6 2 (by decide)) (fun v264 _ => ?_)
  refine r_sx (sx_ok hL h0 h6 3 (by decide)) (fun v265 _ => ?_)
  refine r_b2 (w_exchange hI.1 t1 t3) (fun v267 S266 p => ?_)
  obtain ⟨T1, g1⟩ := p
  have f1 := FT_fr hI.2.2.2.1 g1 (by decide +kernel)
  have i1 := IV_K hI g1 t2 (by decide +kernel)
  have r1 := RP_fr hr g1 (by decide +kernel)
  refine r_sx (sx_ok hL h0 h6 1 (by decide)) (fun v268 _ => ?_)
  refine r_sx (sx_ok hL h0 h6 2 (by decide)) (fun v269 _ => ?_)
  refine r_sx (sx_ok hL h0 h6 3 (by decide)) (fun v270 _ => ?_)
  refine r_rv g1.1 (t2.up g1.ty) rfl ?_
  refine r_b2 (mm_exchange g1.1 (t2.up g1.ty) i1.1 (by have := i1.2; omega)) (fun v273 S272 p => ?_)
  obtain ⟨g2, m2⟩ := p
  exact hk _ (LW_M hI t1 t2 t3 g1 i1.2 f1 g2 m2 (RP_fr r1 g2 (by decide +kernel)) (by decide +kernel))
theorem c_token {X : Nat → Int32} {L : Nat} {k : AS → Option Nat → Option Nat → Option Nat → Int32 → Option (Int32 × AS)} {Q : Int32 × AS → Prop} {n : Nat} {S : AS} {x : Int32} (hL : L ≤ 3072) (h0 : 0 ≤ x.toInt) (h6 : x.toInt + 6 ≤ (L : Int)) (hn : n ≤ 600) (hw : LW n S) (hk : ∀ S', LW (n + 1) S' → Ho (k S' (some 4) (some 57) (some 126) (x + 6)) Q) : Ho (f_W_law_B1474 X L k S (some 4) (some 57) (some 126) x) Q := by
  obtain ⟨T, hI, t1, t2, t3, hr⟩ := hw
  unfold f_W_law_B1474
  refine r_sx (sx_ok hL h0 h6 1 (by decide)) (fun v274 _ => ?_)
  refine r_b2 (w_token hI.1 t1 t3) (fun v276 S275 p => ?_)
  obtain ⟨T1, g1⟩ := p
  have f1 := FT_fr hI.2.2.2.1 g1 (by decide +kernel)
  have i1 := IV_K hI g1 t2 (by decide +kernel)
  have r1 := RP_fr hr g1 (by decide +kernel)
  refine r_sx (sx_ok hL h0 h6 1 (by decide)) (fun v277 _ => ?_)
  refine r_rv g1.1 (t2.up g1.ty) rfl ?_
  refine r_b2 (mm_token g1.1 (t2.up g1.ty) i1.1 (by have := i1.2; omega)) (fun v280 S279 p => ?_)
  obtain ⟨g2, m2⟩ := p
  exact hk _ (LW_M hI t1 t2 t3 g1 i1.2 f1 g2 m2 (RP_fr r1 g2 (by decide +kernel)) (by decide +kernel))
theorem c_turn {X : Nat → Int32} {L : Nat} {k : AS → Option Nat → Option Nat → Option Nat → Int32 → Option (Int32 × AS)} {Q : Int32 × AS → Prop} {n : Nat} {S : AS} {x : Int32} (hL : L ≤ 3072) (h0 : 0 ≤ x.toInt) (h6 : x.toInt + 6 ≤ (L : Int)) (hn : n ≤ 600) (hw : LW n S) (hk : ∀ S', LW (n + 1) S' → Ho (k S' (some 4) (some 57) (some 126) (x + 6)) Q) : Ho (f_W_law_B1502 X L k S (some 4) (some 57) (some 126) x) Q := by
  obtain ⟨T, hI, t1, t2, t3, hr⟩ := hw
  unfold f_W_law_B1502
  refine r_b2 (w_turn hI.1 t1 t3) (fun v282 S281 p => ?_)
  obtain ⟨T1, g1⟩ := p
  have f1 := FT_fr hI.2.2.2.1 g1 (by decide +kernel)
  have i1 := IV_K hI g1 t2 (by decide +kernel)
  have r1 := RP_fr hr g1 (by decide +kernel)
  refine r_rv g1.1 (t2.up g1.ty) rfl ?_
  refine r_b2 (mm_turn g1.1 (t2.up g1.ty) i1.1 (by have := i1.2; omega)) (fun v285 S284 p => ?_)
  obtain ⟨g2, m2⟩ := p
  exact hk _ (LW_M hI t1 t2 t3 g1 i1.2 f1 g2 m2 (RP_fr r1 g2 (by decide +kernel)) (by decide +kernel))
theorem c_emergency {X : Nat → Int32} {L : Nat} {k : AS → Option Nat → Option Nat → Option Nat → Int32 → Option (Int32 × AS)} {Q : Int32 × AS → Prop} {n : Nat} {S : AS} {x : Int32} (hL : L ≤ 3072) (h0 : 0 ≤ x.toInt) (h6 : x.toInt + 6 ≤ (L : Int)) (hn : n ≤ 600) (hw : LW n S) (hk : ∀ S', LW (n + 1) S' → Ho (k S' (some 4) (some 57) (some 126) (x + 6)) Q) : Ho (f_W_law_B1518 X L k S (some 4) (some 57) (some 126) x) Q := by
  obtain ⟨T, hI, t1, t2, t3, hr⟩ := hw
  unfold f_W_law_B1518
  refine r_b2 (w_emergency hI.1 t1 t3) (fun v287 S286 p => ?_)
  obtain ⟨T1, g1⟩ := p
  have f1 := FT_fr hI.2.2.2.1 g1 (by decide +kernel)
  have i1 := IV_K hI g1 t2 (by decide +kernel)
  have r1 := RP_fr hr g1 (by decide +kernel)
  refine r_rv g1.1 (t2.up g1.ty) rfl ?_
  refine r_b2 (mm_emergency g1.1 (t2.up g1.ty) i1.1 (by have := i1.2; omega)) (fun v290 S289 p => ?_)
  obtain ⟨g2, m2⟩ := p
  exact hk _ (LW_M hI t1 t2 t3 g1 i1.2 f1 g2 m2 (RP_fr r1 g2 (by decide +kernel)) (by decide +kernel))
theorem c_signing {X : Nat → Int32} {L : Nat} {k : AS → Option Nat → Option Nat → Option Nat → Int32 → Option (Int32 × AS)} {Q : Int32 × AS → Prop} {n : Nat} {S : AS} {x : Int32} (hL : L ≤ 3072) (h0 : 0 ≤ x.toInt) (h6 : x.toInt + 6 ≤ (L : Int)) (hn : n ≤ 600) (hw : LW n S) (hk : ∀ S', LW (n + 1) S' → Ho (k S' (some 4) (some 57) (some 126) (x + 6)) Q) : Ho (f_W_law_B1534 X L k S (some 4) (some 57) (some 126) x) Q := by
  obtain ⟨T, hI, t1, t2, t3, hr⟩ := hw
  unfold f_W_law_B1534
  refine r_rv hI.1 t1 rfl ?_
  refine r_b2 (t_K_signing hI.1 t1) (fun v293 S292 p => ?_)
  obtain ⟨e, -⟩ := p
  have e : S292 = S := e
  have g1 : Rl T (99999 :: []) S 10 700 T S292 := by
    rw [e]
    exact Rlweak (Rlrf hI.1) (fun _ z => List.mem_cons_of_mem _ z) (by decide) (by decide)
  have f1 := FT_fr hI.2.2.2.1 g1 (by decide +kernel)
  have i1 := IV_K hI g1 t2 (by decide +kernel)
  have r1 := RP_fr hr g1 (by decide +kernel)
  refine r_rv g1.1 (t2.up g1.ty) rfl ?_
  refine r_b2 (mm_signing g1.1 (t2.up g1.ty) i1.1 (by have := i1.2; omega)) (fun v296 S295 p => ?_)
  obtain ⟨g2, m2⟩ := p
  exact hk _ (LW_M hI t1 t2 t3 g1 i1.2 f1 g2 m2 (RP_fr r1 g2 (by decide +kernel)) (by decide +kernel))
theorem c_isPublished {X : Nat → Int32} {L : Nat} {k : AS → Option Nat → Option Nat → Option Nat → Int32 → Option (Int32 × AS)} {Q : Int32 × AS → Prop} {n : Nat} {S : AS} {x : Int32} (hL : L ≤ 3072) (h0 : 0 ≤ x.toInt) (h6 : x.toInt + 6 ≤ (L : Int)) (hn : n ≤ 600) (hw : LW n S) (hk : ∀ S', LW (n + 1) S' → Ho (k S' (some 4) (some 57) (some 126) (x + 6)) Q) : Ho (f_W_law_B1547 X L k S (some 4) (some 57) (some 126) x) Q := by
  obtain ⟨T, hI, t1, t2, t3, hr⟩ := hw
  unfold f_W_law_B1547
  refine r_sx (sx_ok hL h0 h6 1 (by decide)) (fun v297 _ => ?_)
  refine r_b2 (w_isPublished hI.1 t1 t3) (fun v299 S298 p => ?_)
  obtain ⟨T1, g1⟩ := p
  have f1 := FT_fr hI.2.2.2.1 g1 (by decide +kernel)
  have i1 := IV_K hI g1 t2 (by decide +kernel)
  have r1 := RP_fr hr g1 (by decide +kernel)
  refine r_sx (sx_ok hL h0 h6 1 (by decide)) (fun v300 _ => ?_)
  refine r_rv g1.1 (t2.up g1.ty) rfl ?_
  refine r_b2 (mm_isPublished g1.1 (t2.up g1.ty) i1.1 (by have := i1.2; omega)) (fun v303 S302 p => ?_)
  obtain ⟨g2, m2⟩ := p
  exact hk _ (LW_M hI t1 t2 t3 g1 i1.2 f1 g2 m2 (RP_fr r1 g2 (by decide +kernel)) (by decide +kernel))
theorem c_line {X : Nat → Int32} {L : Nat} {k : AS → Option Nat → Option Nat → Option Nat → Int32 → Option (Int32 × AS)} {Q : Int32 × AS → Prop} {n : Nat} {S : AS} {x : Int32} (hL : L ≤ 3072) (h0 : 0 ≤ x.toInt) (h6 : x.toInt + 6 ≤ (L : Int)) (hn : n ≤ 600) (hw : LW n S) (hk : ∀ S', LW (n + 1) S' → Ho (k S' (some 4) (some 57) (some 126) (x + 6)) Q) : Ho (f_W_law_B1575 X L k S (some 4) (some 57) (some 126) x) Q := by
  obtain ⟨T, hI, t1, t2, t3, hr⟩ := hw
  unfold f_W_law_B1575
  refine r_sx (sx_ok hL h0 h6 1 (by decide)) (fun v304 _ => ?_)
  refine r_b2 (w_line hI.1 t1 t3) (fun v306 S305 p => ?_)
  obtain ⟨T1, g1⟩ := p
  have f1 := FT_fr hI.2.2.2.1 g1 (by decide +kernel)
  have i1 := IV_K hI g1 t2 (by decide +kernel)
  have r1 := RP_fr hr g1 (by decide +kernel)
  refine r_sx (sx_ok hL h0 h6 1 (by decide)) (fun v307 _ => ?_)
  refine r_rv g1.1 (t2.up g1.ty) rfl ?_
  refine r_b2 (mm_line g1.1 (t2.up g1.ty) i1.1 (by have := i1.2; omega)) (fun v310 S309 p => ?_)
  obtain ⟨g2, m2⟩ := p
  exact hk _ (LW_M hI t1 t2 t3 g1 i1.2 f1 g2 m2 (RP_fr r1 g2 (by decide +kernel)) (by decide +kernel))
theorem c_check {X : Nat → Int32} {L : Nat} {k : AS → Option Nat → Option Nat → Option Nat → Int32 → Option (Int32 × AS)} {Q : Int32 × AS → Prop} {n : Nat} {S : AS} {x : Int32} (hL : L ≤ 3072) (h0 : 0 ≤ x.toInt) (h6 : x.toInt + 6 ≤ (L : Int)) (hn : n ≤ 600) (hw : LW n S) (hk : ∀ S', LW (n + 1) S' → Ho (k S' (some 4) (some 57) (some 126) (x + 6)) Q) : Ho (f_W_law_B1603 X L k S (some 4) (some 57) (some 126) x) Q := by
  obtain ⟨T, hI, t1, t2, t3, hr⟩ := hw
  unfold f_W_law_B1603
  refine r_sx (sx_ok hL h0 h6 1 (by decide)) (fun v311 _ => ?_)
  refine r_sx (sx_ok hL h0 h6 2 (by decide)) (fun v312 _ => ?_)
  refine r_sx (sx_ok hL h0 h6 3 (by decide)) (fun v313 _ => ?_)
  refine r_b2 (w_check hI.1 t1 t3) (fun v315 S314 p => ?_)
  obtain ⟨T1, g1⟩ := p
  have f1 := FT_fr hI.2.2.2.1 g1 (by decide +kernel)
  have i1 := IV_K hI g1 t2 (by decide +kernel)
  have r1 := RP_fr hr g1 (by decide +kernel)
  refine r_sx (sx_ok hL h0 h6 1 (by decide)) (fun v316 _ => ?_)
  refine r_sx (sx_ok hL h0 h6 2 (by decide)) (fun v317 _ => ?_)
  refine r_sx (sx_ok hL h0 h6 3 (by decide)) (fun v318 _ => ?_)
  refine r_rv g1.1 (t2.up g1.ty) rfl ?_
  refine r_b2 (mm_check g1.1 (t2.up g1.ty) i1.1 (by have := i1.2; omega)) (fun v321 S320 p => ?_)
  obtain ⟨g2, m2⟩ := p
  exact hk _ (LW_M hI t1 t2 t3 g1 i1.2 f1 g2 m2 (RP_fr r1 g2 (by decide +kernel)) (by decide +kernel))
theorem c_lag {X : Nat → Int32} {L : Nat} {k : AS → Option Nat → Option Nat → Option Nat → Int32 → Option (Int32 × AS)} {Q : Int32 × AS → Prop} {n : Nat} {S : AS} {x : Int32} (hL : L ≤ 3072) (h0 : 0 ≤ x.toInt) (h6 : x.toInt + 6 ≤ (L : Int)) (hn : n ≤ 600) (hw : LW n S) (hk : ∀ S', LW (n + 1) S' → Ho (k S' (some 4) (some 57) (some 126) (x + 6)) Q) : Ho (f_W_law_B1655 X L k S (some 4) (some 57) (some 126) x) Q := by
  obtain ⟨T, hI, t1, t2, t3, hr⟩ := hw
  unfold f_W_law_B1655
  refine r_sx (sx_ok hL h0 h6 1 (by decide)) (fun v322 _ => ?_)
  refine r_b2 (w_lag hI.1 t1 t3) (fun v324 S323 p => ?_)
  obtain ⟨T1, g1⟩ := p
  have f1 := FT_fr hI.2.2.2.1 g1 (by decide +kernel)
  have i1 := IV_K hI g1 t2 (by decide +kernel)
  have r1 := RP_fr hr g1 (by decide +kernel)
  refine r_sx (sx_ok hL h0 h6 1 (by decide)) (fun v325 _ => ?_)
  refine r_rv g1.1 (t2.up g1.ty) rfl ?_
  refine r_b2 (mm_lag g1.1 (t2.up g1.ty) i1.1 (by have := i1.2; omega)) (fun v328 S327 p => ?_)
  obtain ⟨g2, m2⟩ := p
  exact hk _ (LW_M hI t1 t2 t3 g1 i1.2 f1 g2 m2 (RP_fr r1 g2 (by decide +kernel)) (by decide +kernel))
theorem c_recover {X : Nat → Int32} {L : Nat} {k : AS → Option Nat → Option Nat → Option Nat → Int32 → Option (Int32 × AS)} {Q : Int32 × AS → Prop} {n : Nat} {S : AS} {x : Int32} (hL : L ≤ 3072) (h0 : 0 ≤ x.toInt) (h6 : x.toInt + 6 ≤ (L : Int)) (hn : n ≤ 600) (hw : LW n S) (hk : ∀ S', LW (n + 1) S' → Ho (k S' (some 4) (some 57) (some 126) (x + 6)) Q) : Ho (f_W_law_B1683 X L k S (some 4) (some 57) (some 126) x) Q := by
  obtain ⟨T, hI, t1, t2, t3, hr⟩ := hw
  unfold f_W_law_B1683
  refine r_sx (sx_ok hL h0 h6 1 (by decide)) (fun v329 _ => ?_)
  refine r_b2 (w_recover hI.1 t1 t3) (fun v331 S330 p => ?_)
  obtain ⟨T1, g1⟩ := p
  have f1 := FT_fr hI.2.2.2.1 g1 (by decide +kernel)
  have i1 := IV_K hI g1 t2 (by decide +kernel)
  have r1 := RP_fr hr g1 (by decide +kernel)
  refine r_sx (sx_ok hL h0 h6 1 (by decide)) (fun v332 _ => ?_)
  refine r_rv g1.1 (t2.up g1.ty) rfl ?_
  refine r_b2 (mm_recover g1.1 (t2.up g1.ty) i1.1 (by have := i1.2; omega)) (fun v335 S334 p => ?_)
  obtain ⟨g2, m2⟩ := p
  exact hk _ (LW_M hI t1 t2 t3 g1 i1.2 f1 g2 m2 (RP_fr r1 g2 (by decide +kernel)) (by decide +kernel))
theorem c_vouch {X : Nat → Int32} {L : Nat} {k : AS → Option Nat → Option Nat → Option Nat → Int32 → Option (Int32 × AS)} {Q : Int32 × AS → Prop} {n : Nat} {S : AS} {x : Int32} (hL : L ≤ 3072) (h0 : 0 ≤ x.toInt) (h6 : x.toInt + 6 ≤ (L : Int)) (hn : n ≤ 600) (hw : LW n S) (hk : ∀ S', LW (n + 1) S' → Ho (k S' (some 4) (some 57) (some 126) (x + 6)) Q) : Ho (f_W_law_B1711 X L k S (some 4) (some 57) (some 126) x) Q := by
  obtain ⟨T, hI, t1, t2, t3, hr⟩ := hw
  unfold f_W_law_B1711
  refine r_sx (sx_ok hL h0 h6 1 (by decide)) (fun v336 _ => ?_)
  refine r_sx (sx_ok hL h0 h6 2 (by decide)) (fun v337 _ => ?_)
  refine r_b2 (w_vouch hI.1 t1 t3) (fun v339 S338 p => ?_)
  obtain ⟨T1, g1⟩ := p
  have f1 := FT_fr hI.2.2.2.1 g1 (by decide +kernel)
  have i1 := IV_K hI g1 t2 (by decide +kernel)
  have r1 := RP_fr hr g1 (by decide +kernel)
  refine r_sx (sx_ok hL h0 h6 1 (by decide)) (fun v340 _ => ?_)
  refine r_sx (sx_ok hL h0 h6 2 (by decide)) (fun v341 _ => ?_)
  refine r_rv g1.1 (t2.up g1.ty) rfl ?_
  refine r_b2 (mm_vouch g1.1 (t2.up g1.ty) i1.1 (by have := i1.2; omega)) (fun v344 S343 p => ?_)
  obtain ⟨g2, m2⟩ := p
  exact hk _ (LW_M hI t1 t2 t3 g1 i1.2 f1 g2 m2 (RP_fr r1 g2 (by decide +kernel)) (by decide +kernel))
theorem c_stop {X : Nat → Int32} {L : Nat} {k : AS → Option Nat → Option Nat → Option Nat → Int32 → Option (Int32 × AS)} {Q : Int32 × AS → Prop} {n : Nat} {S : AS} {x : Int32} (hL : L ≤ 3072) (h0 : 0 ≤ x.toInt) (h6 : x.toInt + 6 ≤ (L : Int)) (hn : n ≤ 600) (hw : LW n S) (hk : ∀ S', LW (n + 1) S' → Ho (k S' (some 4) (some 57) (some 126) (x + 6)) Q) : Ho (f_W_law_B1751 X L k S (some 4) (some 57) (some 126) x) Q := by
  obtain ⟨T, hI, t1, t2, t3, hr⟩ := hw
  unfold f_W_law_B1751
  refine r_sx (sx_ok hL h0 h6 1 (by decide)) (fun v345 _ => ?_)
  refine r_sx (sx_ok hL h0 h6 2 (by decide)) (fun v346 _ => ?_)
  refine r_b2 (w_stop hI.1 t1 t3) (fun v348 S347 p => ?_)
  obtain ⟨T1, g1⟩ := p
  have f1 := FT_fr hI.2.2.2.1 g1 (by decide +kernel)
  have i1 := IV_K hI g1 t2 (by decide +kernel)
  have r1 := RP_fr hr g1 (by decide +kernel)
  refine r_sx (sx_ok hL h0 h6 1 (by decide)) (fun v349 _ => ?_)
  refine r_sx (sx_ok hL h0 h6 2 (by decide)) (fun v350 _ => ?_)
  refine r_rv g1.1 (t2.up g1.ty) rfl ?_
  refine r_b2 (mm_stop g1.1 (t2.up g1.ty) i1.1 (by have := i1.2; omega)) (fun v353 S352 p => ?_)
  obtain ⟨g2, m2⟩ := p
  exact hk _ (LW_M hI t1 t2 t3 g1 i1.2 f1 g2 m2 (RP_fr r1 g2 (by decide +kernel)) (by decide +kernel))
theorem c_finish {X : Nat → Int32} {L : Nat} {k : AS → Option Nat → Option Nat → Option Nat → Int32 → Option (Int32 × AS)} {Q : Int32 × AS → Prop} {n : Nat} {S : AS} {x : Int32} (hL : L ≤ 3072) (h0 : 0 ≤ x.toInt) (h6 : x.toInt + 6 ≤ (L : Int)) (hn : n ≤ 600) (hw : LW n S) (hk : ∀ S', LW (n + 1) S' → Ho (k S' (some 4) (some 57) (some 126) (x + 6)) Q) : Ho (f_W_law_B1791 X L k S (some 4) (some 57) (some 126) x) Q := by
  obtain ⟨T, hI, t1, t2, t3, hr⟩ := hw
  unfold f_W_law_B1791
  refine r_sx (sx_ok hL h0 h6 1 (by decide)) (fun v354 _ => ?_)
  refine r_b2 (w_finish hI.1 t1 t3) (fun v356 S355 p => ?_)
  obtain ⟨T1, g1⟩ := p
  have f1 := FT_fr hI.2.2.2.1 g1 (by decide +kernel)
  have i1 := IV_K hI g1 t2 (by decide +kernel)
  have r1 := RP_fr hr g1 (by decide +kernel)
  refine r_sx (sx_ok hL h0 h6 1 (by decide)) (fun v357 _ => ?_)
  refine r_rv g1.1 (t2.up g1.ty) rfl ?_
  refine r_b2 (mm_finish g1.1 (t2.up g1.ty) i1.1 (by have := i1.2; omega)) (fun v360 S359 p => ?_)
  obtain ⟨g2, m2⟩ := p
  exact hk _ (LW_M hI t1 t2 t3 g1 i1.2 f1 g2 m2 (RP_fr r1 g2 (by decide +kernel)) (by decide +kernel))
theorem c_link {X : Nat → Int32} {L : Nat} {k : AS → Option Nat → Option Nat → Option Nat → Int32 → Option (Int32 × AS)} {Q : Int32 × AS → Prop} {n : Nat} {S : AS} {x : Int32} (hL : L ≤ 3072) (h0 : 0 ≤ x.toInt) (h6 : x.toInt + 6 ≤ (L : Int)) (hn : n ≤ 600) (hw : LW n S) (hk : ∀ S', LW (n + 1) S' → Ho (k S' (some 4) (some 57) (some 126) (x + 6)) Q) : Ho (f_W_law_B1819 X L k S (some 4) (some 57) (some 126) x) Q := by
  obtain ⟨T, hI, t1, t2, t3, hr⟩ := hw
  unfold f_W_law_B1819
  refine r_sx (sx_ok hL h0 h6 1 (by decide)) (fun v361 _ => ?_)
  refine r_sx (sx_ok hL h0 h6 2 (by decide)) (fun v362 _ => ?_)
  refine r_b2 (w_link hI.1 t1 t3) (fun v364 S363 p => ?_)
  obtain ⟨T1, g1⟩ := p
  have f1 := FT_fr hI.2.2.2.1 g1 (by decide +kernel)
  have i1 := IV_K hI g1 t2 (by decide +kernel)
  have r1 := RP_fr hr g1 (by decide +kernel)
  refine r_sx (sx_ok hL h0 h6 1 (by decide)) (fun v365 _ => ?_)
  refine r_sx (sx_ok hL h0 h6 2 (by decide)) (fun v366 _ => ?_)
  refine r_rv g1.1 (t2.up g1.ty) rfl ?_
  refine r_b2 (mm_link g1.1 (t2.up g1.ty) i1.1 (by have := i1.2; omega)) (fun v369 S368 p => ?_)
  obtain ⟨g2, m2⟩ := p
  exact hk _ (LW_M hI t1 t2 t3 g1 i1.2 f1 g2 m2 (RP_fr r1 g2 (by decide +kernel)) (by decide +kernel))
theorem c_foreign {X : Nat → Int32} {L : Nat} {k : AS → Option Nat → Option Nat → Option Nat → Int32 → Option (Int32 × AS)} {Q : Int32 × AS → Prop} {n : Nat} {S : AS} {x : Int32} (hL : L ≤ 3072) (h0 : 0 ≤ x.toInt) (h6 : x.toInt + 6 ≤ (L : Int)) (hn : n ≤ 600) (hw : LW n S) (hk : ∀ S', LW (n + 1) S' → Ho (k S' (some 4) (some 57) (some 126) (x + 6)) Q) : Ho (f_W_law_B1859 X L k S (some 4) (some 57) (some 126) x) Q := by
  obtain ⟨T, hI, t1, t2, t3, hr⟩ := hw
  unfold f_W_law_B1859
  refine r_sx (sx_ok hL h0 h6 1 (by decide)) (fun v370 _ => ?_)
  refine r_b2 (w_foreign hI.1 t1 t3) (fun v372 S371 p => ?_)
  obtain ⟨T1, g1⟩ := p
  have f1 := FT_fr hI.2.2.2.1 g1 (by decide +kernel)
  have i1 := IV_K hI g1 t2 (by decide +kernel)
  have r1 := RP_fr hr g1 (by decide +kernel)
  refine r_sx (sx_ok hL h0 h6 1 (by decide)) (fun v373 _ => ?_)
  refine r_rv g1.1 (t2.up g1.ty) rfl ?_
  refine r_b2 (mm_foreign g1.1 (t2.up g1.ty) i1.1 (by have := i1.2; omega)) (fun v376 S375 p => ?_)
  obtain ⟨g2, m2⟩ := p
  exact hk _ (LW_M hI t1 t2 t3 g1 i1.2 f1 g2 m2 (RP_fr r1 g2 (by decide +kernel)) (by decide +kernel))
theorem c_leave {X : Nat → Int32} {L : Nat} {k : AS → Option Nat → Option Nat → Option Nat → Int32 → Option (Int32 × AS)} {Q : Int32 × AS → Prop} {n : Nat} {S : AS} {x : Int32} (hL : L ≤ 3072) (h0 : 0 ≤ x.toInt) (h6 : x.toInt + 6 ≤ (L : Int)) (hn : n ≤ 600) (hw : LW n S) (hk : ∀ S', LW (n + 1) S' → Ho (k S' (some 4) (some 57) (some 126) (x + 6)) Q) : Ho (f_W_law_B1887 X L k S (some 4) (some 57) (some 126) x) Q := by
  obtain ⟨T, hI, t1, t2, t3, hr⟩ := hw
  unfold f_W_law_B1887
  refine r_sx (sx_ok hL h0 h6 1 (by decide)) (fun v377 _ => ?_)
  refine r_b2 (w_leave hI.1 t1 t3) (fun v379 S378 p => ?_)
  obtain ⟨T1, g1⟩ := p
  have f1 := FT_fr hI.2.2.2.1 g1 (by decide +kernel)
  have i1 := IV_K hI g1 t2 (by decide +kernel)
  have r1 := RP_fr hr g1 (by decide +kernel)
  refine r_sx (sx_ok hL h0 h6 1 (by decide)) (fun v380 _ => ?_)
  refine r_rv g1.1 (t2.up g1.ty) rfl ?_
  refine r_b2 (mm_leave g1.1 (t2.up g1.ty) i1.1 (by have := i1.2; omega)) (fun v383 S382 p => ?_)
  obtain ⟨g2, m2⟩ := p
  exact hk _ (LW_M hI t1 t2 t3 g1 i1.2 f1 g2 m2 (RP_fr r1 g2 (by decide +kernel)) (by decide +kernel))
theorem c_audits {X : Nat → Int32} {L : Nat} {k : AS → Option Nat → Option Nat → Option Nat → Int32 → Option (Int32 × AS)} {Q : Int32 × AS → Prop} {n : Nat} {S : AS} {x : Int32} (hL : L ≤ 3072) (h0 : 0 ≤ x.toInt) (h6 : x.toInt + 6 ≤ (L : Int)) (hn : n ≤ 600) (hw : LW n S) (hk : ∀ S', LW (n + 1) S' → Ho (k S' (some 4) (some 57) (some 126) (x + 6)) Q) : Ho (f_W_law_B1915 X L k S (some 4) (some 57) (some 126) x) Q := by
  obtain ⟨T, hI, t1, t2, t3, hr⟩ := hw
  unfold f_W_law_B1915
  refine r_rv hI.1 t1 rfl ?_
  refine r_b2 (t_K_audits hI.1 t1) (fun v386 S385 p => ?_)
  obtain ⟨e, -⟩ := p
  have e : S385 = S := e
  have g1 : Rl T (99999 :: []) S 10 700 T S385 := by
    rw [e]
    exact Rlweak (Rlrf hI.1) (fun _ z => List.mem_cons_of_mem _ z) (by decide) (by decide)
  have f1 := FT_fr hI.2.2.2.1 g1 (by decide +kernel)
  have i1 := IV_K hI g1 t2 (by decide +kernel)
  have r1 := RP_fr hr g1 (by decide +kernel)
  refine r_rv g1.1 (t2.up g1.ty) rfl ?_
  refine r_b2 (mm_audits g1.1 (t2.up g1.ty) i1.1 (by have := i1.2; omega)) (fun v389 S388 p => ?_)
  obtain ⟨g2, m2⟩ := p
  exact hk _ (LW_M hI t1 t2 t3 g1 i1.2 f1 g2 m2 (RP_fr r1 g2 (by decide +kernel)) (by decide +kernel))
theorem c_audit {X : Nat → Int32} {L : Nat} {k : AS → Option Nat → Option Nat → Option Nat → Int32 → Option (Int32 × AS)} {Q : Int32 × AS → Prop} {n : Nat} {S : AS} {x : Int32} (hL : L ≤ 3072) (h0 : 0 ≤ x.toInt) (h6 : x.toInt + 6 ≤ (L : Int)) (hn : n ≤ 600) (hw : LW n S) (hk : ∀ S', LW (n + 1) S' → Ho (k S' (some 4) (some 57) (some 126) (x + 6)) Q) : Ho (f_W_law_B1928 X L k S (some 4) (some 57) (some 126) x) Q := by
  obtain ⟨T, hI, t1, t2, t3, hr⟩ := hw
  unfold f_W_law_B1928
  refine r_sx (sx_ok hL h0 h6 1 (by decide)) (fun v390 _ => ?_)
  refine r_b2 (w_audit hI.1 t1 t3) (fun v392 S391 p => ?_)
  obtain ⟨T1, g1⟩ := p
  have f1 := FT_fr hI.2.2.2.1 g1 (by decide +kernel)
  have i1 := IV_K hI g1 t2 (by decide +kernel)
  have r1 := RP_fr hr g1 (by decide +kernel)
  refine r_sx (sx_ok hL h0 h6 1 (by decide)) (fun v393 _ => ?_)
  refine r_rv g1.1 (t2.up g1.ty) rfl ?_
  refine r_b2 (mm_audit g1.1 (t2.up g1.ty) i1.1 (by have := i1.2; omega)) (fun v396 S395 p => ?_)
  obtain ⟨g2, m2⟩ := p
  exact hk _ (LW_M hI t1 t2 t3 g1 i1.2 f1 g2 m2 (RP_fr r1 g2 (by decide +kernel)) (by decide +kernel))
theorem c_sum {X : Nat → Int32} {L : Nat} {k : AS → Option Nat → Option Nat → Option Nat → Int32 → Option (Int32 × AS)} {Q : Int32 × AS → Prop} {n : Nat} {S : AS} {x : Int32} (hL : L ≤ 3072) (h0 : 0 ≤ x.toInt) (h6 : x.toInt + 6 ≤ (L : Int)) (hn : n ≤ 600) (hw : LW n S) (hk : ∀ S', LW (n + 1) S' → Ho (k S' (some 4) (some 57) (some 126) (x + 6)) Q) : Ho (f_W_law_B1956 X L k S (some 4) (some 57) (some 126) x) Q := by
  obtain ⟨T, hI, t1, t2, t3, hr⟩ := hw
  unfold f_W_law_B1956
  refine r_rv hI.1 t1 rfl ?_
  refine r_b2 (t_K_sum hI.1 t1) (fun v399 S398 p => ?_)
  obtain ⟨e, -⟩ := p
  have e : S398 = S := e
  have g1 : Rl T (99999 :: []) S 10 700 T S398 := by
    rw [e]
    exact Rlweak (Rlrf hI.1) (fun _ z => List.mem_cons_of_mem _ z) (by decide) (by decide)
  have f1 := FT_fr hI.2.2.2.1 g1 (by decide +kernel)
  have i1 := IV_K hI g1 t2 (by decide +kernel)
  have r1 := RP_fr hr g1 (by decide +kernel)
  refine r_rv g1.1 (t2.up g1.ty) rfl ?_
  refine r_b2 (mm_sum g1.1 (t2.up g1.ty) i1.1 (by have := i1.2; omega)) (fun v402 S401 p => ?_)
  obtain ⟨g2, m2⟩ := p
  exact hk _ (LW_M hI t1 t2 t3 g1 i1.2 f1 g2 m2 (RP_fr r1 g2 (by decide +kernel)) (by decide +kernel))
theorem c_sumAnew {X : Nat → Int32} {L : Nat} {k : AS → Option Nat → Option Nat → Option Nat → Int32 → Option (Int32 × AS)} {Q : Int32 × AS → Prop} {n : Nat} {S : AS} {x : Int32} (hL : L ≤ 3072) (h0 : 0 ≤ x.toInt) (h6 : x.toInt + 6 ≤ (L : Int)) (hn : n ≤ 600) (hw : LW n S) (hk : ∀ S', LW (n + 1) S' → Ho (k S' (some 4) (some 57) (some 126) (x + 6)) Q) : Ho (f_W_law_B1969 X L k S (some 4) (some 57) (some 126) x) Q := by
  obtain ⟨T, hI, t1, t2, t3, hr⟩ := hw
  unfold f_W_law_B1969
  refine r_sx (sx_ok hL h0 h6 1 (by decide)) (fun v403 _ => ?_)
  refine r_b2 (w_sumAnew hI.1 t1 t3) (fun v405 S404 p => ?_)
  obtain ⟨T1, g1⟩ := p
  have f1 := FT_fr hI.2.2.2.1 g1 (by decide +kernel)
  have i1 := IV_K hI g1 t2 (by decide +kernel)
  have r1 := RP_fr hr g1 (by decide +kernel)
  refine r_sx (sx_ok hL h0 h6 1 (by decide)) (fun v406 _ => ?_)
  refine r_rv g1.1 (t2.up g1.ty) rfl ?_
  refine r_b2 (mm_sumAnew g1.1 (t2.up g1.ty) i1.1 (by have := i1.2; omega)) (fun v409 S408 p => ?_)
  obtain ⟨g2, m2⟩ := p
  exact hk _ (LW_M hI t1 t2 t3 g1 i1.2 f1 g2 m2 (RP_fr r1 g2 (by decide +kernel)) (by decide +kernel))
