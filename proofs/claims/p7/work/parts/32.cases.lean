/-! ===== one lemma for each call of the law ===== -/
theorem c_pass {X : Nat → Int32} {L : Nat} {k : AS → Option Nat → Option Nat → Option Nat → Int32 → Option (Int32 × AS)} {Q : Int32 × AS → Prop} {n : Nat} {S : AS} {x : Int32} (hL : L ≤ 3072) (h0 : 0 ≤ x.toInt) (h6 : x.toInt + 6 ≤ (L : Int)) (hn : n ≤ 600) (hw : LW n S) (hk : ∀ S', LW (n + 1) S' → Ho (k S' (some 4) (some 57) (some 126) (x + 6)) Q) : Ho (f_W_law_B260 X L k S (some 4) (some 57) (some 126) x) Q := by
  obtain ⟨T, hI, t1, t2, t3, hr⟩ := hw
  unfold f_W_law_B260
  refine r_sx (sx_ok hL h0 h6 1 (by decide)) (fun v2 _ => ?_)
  refine r_b2 (w_pass hI.1 t1 t3) (fun v4 S3 p => ?_)
  obtain ⟨T1, g1⟩ := p
  have f1 := FT_fr hI.2.2.2.1 g1 (by decide +kernel)
  have i1 := IV_K hI g1 t2 (by decide +kernel)
  have r1 := RP_fr hr g1 (by decide +kernel)
  refine r_sx (sx_ok hL h0 h6 1 (by decide)) (fun v5 _ => ?_)
  refine r_rv g1.1 (t2.up g1.ty) rfl ?_
  refine r_b2 (mm_pass g1.1 (t2.up g1.ty) i1.1 (by have := i1.2; omega)) (fun v8 S7 p => ?_)
  obtain ⟨g2, m2⟩ := p
  exact hk _ (LW_M hI t1 t2 t3 g1 i1.2 f1 g2 m2 (RP_fr r1 g2 (by decide +kernel)) (by decide +kernel))
theorem c_enroll {X : Nat → Int32} {L : Nat} {k : AS → Option Nat → Option Nat → Option Nat → Int32 → Option (Int32 × AS)} {Q : Int32 × AS → Prop} {n : Nat} {S : AS} {x : Int32} (hL : L ≤ 3072) (h0 : 0 ≤ x.toInt) (h6 : x.toInt + 6 ≤ (L : Int)) (hn : n ≤ 600) (hw : LW n S) (hk : ∀ S', LW (n + 1) S' → Ho (k S' (some 4) (some 57) (some 126) (x + 6)) Q) : Ho (f_W_law_B288 X L k S (some 4) (some 57) (some 126) x) Q := by
  obtain ⟨T, hI, t1, t2, t3, hr⟩ := hw
  unfold f_W_law_B288
  refine r_sx (sx_ok hL h0 h6 1 (by decide)) (fun v9 _ => ?_)
  refine r_sx (sx_ok hL h0 h6 2 (by decide)) (fun v10 _ => ?_)
  refine r_b2 (w_enroll hI.1 t1 t3) (fun v12 S11 p => ?_)
  obtain ⟨T1, g1⟩ := p
  have f1 := FT_fr hI.2.2.2.1 g1 (by decide +kernel)
  have i1 := IV_K hI g1 t2 (by decide +kernel)
  have r1 := RP_fr hr g1 (by decide +kernel)
  refine r_sx (sx_ok hL h0 h6 1 (by decide)) (fun v13 _ => ?_)
  refine r_sx (sx_ok hL h0 h6 2 (by decide)) (fun v14 _ => ?_)
  refine r_rv g1.1 (t2.up g1.ty) rfl ?_
  refine r_b2 (mm_enroll g1.1 (t2.up g1.ty) i1.1 (by have := i1.2; omega)) (fun v17 S16 p => ?_)
  obtain ⟨g2, m2⟩ := p
  exact hk _ (LW_M hI t1 t2 t3 g1 i1.2 f1 g2 m2 (RP_fr r1 g2 (by decide +kernel)) (by decide +kernel))
theorem c_factor {X : Nat → Int32} {L : Nat} {k : AS → Option Nat → Option Nat → Option Nat → Int32 → Option (Int32 × AS)} {Q : Int32 × AS → Prop} {n : Nat} {S : AS} {x : Int32} (hL : L ≤ 3072) (h0 : 0 ≤ x.toInt) (h6 : x.toInt + 6 ≤ (L : Int)) (hn : n ≤ 600) (hw : LW n S) (hk : ∀ S', LW (n + 1) S' → Ho (k S' (some 4) (some 57) (some 126) (x + 6)) Q) : Ho (f_W_law_B328 X L k S (some 4) (some 57) (some 126) x) Q := by
  obtain ⟨T, hI, t1, t2, t3, hr⟩ := hw
  unfold f_W_law_B328
  refine r_sx (sx_ok hL h0 h6 1 (by decide)) (fun v18 _ => ?_)
  refine r_sx (sx_ok hL h0 h6 2 (by decide)) (fun v19 _ => ?_)
  refine r_b2 (w_factor hI.1 t1 t3) (fun v21 S20 p => ?_)
  obtain ⟨T1, g1⟩ := p
  have f1 := FT_fr hI.2.2.2.1 g1 (by decide +kernel)
  have i1 := IV_K hI g1 t2 (by decide +kernel)
  have r1 := RP_fr hr g1 (by decide +kernel)
  refine r_sx (sx_ok hL h0 h6 1 (by decide)) (fun v22 _ => ?_)
  refine r_sx (sx_ok hL h0 h6 2 (by decide)) (fun v23 _ => ?_)
  refine r_rv g1.1 (t2.up g1.ty) rfl ?_
  refine r_b2 (mm_factor g1.1 (t2.up g1.ty) i1.1 (by have := i1.2; omega)) (fun v26 S25 p => ?_)
  obtain ⟨g2, m2⟩ := p
  exact hk _ (LW_M hI t1 t2 t3 g1 i1.2 f1 g2 m2 (RP_fr r1 g2 (by decide +kernel)) (by decide +kernel))
theorem c_weakest {X : Nat → Int32} {L : Nat} {k : AS → Option Nat → Option Nat → Option Nat → Int32 → Option (Int32 × AS)} {Q : Int32 × AS → Prop} {n : Nat} {S : AS} {x : Int32} (hL : L ≤ 3072) (h0 : 0 ≤ x.toInt) (h6 : x.toInt + 6 ≤ (L : Int)) (hn : n ≤ 600) (hw : LW n S) (hk : ∀ S', LW (n + 1) S' → Ho (k S' (some 4) (some 57) (some 126) (x + 6)) Q) : Ho (f_W_law_B501 X L k S (some 4) (some 57) (some 126) x) Q := by
  obtain ⟨T, hI, t1, t2, t3, hr⟩ := hw
  unfold f_W_law_B501
  refine r_sx (sx_ok hL h0 h6 1 (by decide)) (fun v57 _ => ?_)
  refine r_b2 (w_weakest hI.1 t1 t3) (fun v59 S58 p => ?_)
  obtain ⟨T1, g1⟩ := p
  have f1 := FT_fr hI.2.2.2.1 g1 (by decide +kernel)
  have i1 := IV_K hI g1 t2 (by decide +kernel)
  have r1 := RP_fr hr g1 (by decide +kernel)
  refine r_sx (sx_ok hL h0 h6 1 (by decide)) (fun v60 _ => ?_)
  refine r_rv g1.1 (t2.up g1.ty) rfl ?_
  refine r_b2 (mm_weakest g1.1 (t2.up g1.ty) i1.1 (by have := i1.2; omega)) (fun v63 S62 p => ?_)
  obtain ⟨g2, m2⟩ := p
  exact hk _ (LW_M hI t1 t2 t3 g1 i1.2 f1 g2 m2 (RP_fr r1 g2 (by decide +kernel)) (by decide +kernel))
theorem c_points {X : Nat → Int32} {L : Nat} {k : AS → Option Nat → Option Nat → Option Nat → Int32 → Option (Int32 × AS)} {Q : Int32 × AS → Prop} {n : Nat} {S : AS} {x : Int32} (hL : L ≤ 3072) (h0 : 0 ≤ x.toInt) (h6 : x.toInt + 6 ≤ (L : Int)) (hn : n ≤ 600) (hw : LW n S) (hk : ∀ S', LW (n + 1) S' → Ho (k S' (some 4) (some 57) (some 126) (x + 6)) Q) : Ho (f_W_law_B529 X L k S (some 4) (some 57) (some 126) x) Q := by
  obtain ⟨T, hI, t1, t2, t3, hr⟩ := hw
  unfold f_W_law_B529
  refine r_sx (sx_ok hL h0 h6 1 (by decide)) (fun v72 _ => ?_)
  refine r_sx (sx_ok hL h0 h6 2 (by decide)) (fun v73 _ => ?_)
  refine r_sx (sx_ok hL h0 h6 3 (by decide)) (fun v74 _ => ?_)
  refine r_if (fun _ => ?_) (fun _ => ?_)
  · skip
    unfold f_W_law_B556
    refine r_b2 (w_points hI.1 t1 t3) (fun v68 S67 p => ?_)
    obtain ⟨T1, g1⟩ := p
    have f1 := FT_fr hI.2.2.2.1 g1 (by decide +kernel)
    have i1 := IV_K hI g1 t2 (by decide +kernel)
    have r1 := RP_fr hr g1 (by decide +kernel)
    refine r_sx (sx_ok hL h0 h6 1 (by decide)) (fun v69 _ => ?_)
    refine r_sx (sx_ok hL h0 h6 2 (by decide)) (fun v70 _ => ?_)
    refine r_sx (sx_ok hL h0 h6 3 (by decide)) (fun v71 _ => ?_)
    refine r_if (fun _ => ?_) (fun _ => ?_)
    · skip
      unfold f_W_law_B589
      refine r_rv g1.1 (t2.up g1.ty) rfl ?_
      refine r_b2 (mm_points g1.1 (t2.up g1.ty) i1.1 (by have := i1.2; omega)) (fun v66 S65 p => ?_)
      obtain ⟨g2, m2⟩ := p
      exact hk _ (LW_M hI t1 t2 t3 g1 i1.2 f1 g2 m2 (RP_fr r1 g2 (by decide +kernel)) (by decide +kernel))
    · skip
      unfold f_W_law_B589
      refine r_rv g1.1 (t2.up g1.ty) rfl ?_
      refine r_b2 (mm_points g1.1 (t2.up g1.ty) i1.1 (by have := i1.2; omega)) (fun v66 S65 p => ?_)
      obtain ⟨g2, m2⟩ := p
      exact hk _ (LW_M hI t1 t2 t3 g1 i1.2 f1 g2 m2 (RP_fr r1 g2 (by decide +kernel)) (by decide +kernel))
  · skip
    unfold f_W_law_B556
    refine r_b2 (w_points hI.1 t1 t3) (fun v68 S67 p => ?_)
    obtain ⟨T1, g1⟩ := p
    have f1 := FT_fr hI.2.2.2.1 g1 (by decide +kernel)
    have i1 := IV_K hI g1 t2 (by decide +kernel)
    have r1 := RP_fr hr g1 (by decide +kernel)
    refine r_sx (sx_ok hL h0 h6 1 (by decide)) (fun v69 _ => ?_)
    refine r_sx (sx_ok hL h0 h6 2 (by decide)) (fun v70 _ => ?_)
    refine r_sx (sx_ok hL h0 h6 3 (by decide)) (fun v71 _ => ?_)
    refine r_if (fun _ => ?_) (fun _ => ?_)
    · skip
      unfold f_W_law_B589
      refine r_rv g1.1 (t2.up g1.ty) rfl ?_
      refine r_b2 (mm_points g1.1 (t2.up g1.ty) i1.1 (by have := i1.2; omega)) (fun v66 S65 p => ?_)
      obtain ⟨g2, m2⟩ := p
      exact hk _ (LW_M hI t1 t2 t3 g1 i1.2 f1 g2 m2 (RP_fr r1 g2 (by decide +kernel)) (by decide +kernel))
    · skip
      unfold f_W_law_B589
      refine r_rv g1.1 (t2.up g1.ty) rfl ?_
      refine r_b2 (mm_points g1.1 (t2.up g1.ty) i1.1 (by have := i1.2; omega)) (fun v66 S65 p => ?_)
      obtain ⟨g2, m2⟩ := p
      exact hk _ (LW_M hI t1 t2 t3 g1 i1.2 f1 g2 m2 (RP_fr r1 g2 (by decide +kernel)) (by decide +kernel))
theorem c_begin {X : Nat → Int32} {L : Nat} {k : AS → Option Nat → Option Nat → Option Nat → Int32 → Option (Int32 × AS)} {Q : Int32 × AS → Prop} {n : Nat} {S : AS} {x : Int32} (hL : L ≤ 3072) (h0 : 0 ≤ x.toInt) (h6 : x.toInt + 6 ≤ (L : Int)) (hn : n ≤ 600) (hw : LW n S) (hk : ∀ S', LW (n + 1) S' → Ho (k S' (some 4) (some 57) (some 126) (x + 6)) Q) : Ho (f_W_law_B597 X L k S (some 4) (some 57) (some 126) x) Q := by
  obtain ⟨T, hI, t1, t2, t3, hr⟩ := hw
  unfold f_W_law_B597
  refine r_sx (sx_ok hL h0 h6 1 (by decide)) (fun v75 _ => ?_)
  refine r_sx (sx_ok hL h0 h6 2 (by decide)) (fun v76 _ => ?_)
  refine r_sx (sx_ok hL h0 h6 3 (by decide)) (fun v77 _ => ?_)
  refine r_b2 (w_begin hI.1 t1 t3) (fun v79 S78 p => ?_)
  obtain ⟨T1, g1⟩ := p
  have f1 := FT_fr hI.2.2.2.1 g1 (by decide +kernel)
  have i1 := IV_K hI g1 t2 (by decide +kernel)
  have r1 := RP_fr hr g1 (by decide +kernel)
  refine r_sx (sx_ok hL h0 h6 1 (by decide)) (fun v80 _ => ?_)
  refine r_sx (sx_ok hL h0 h6 2 (by decide)) (fun v81 _ => ?_)
  refine r_sx (sx_ok hL h0 h6 3 (by decide)) (fun v82 _ => ?_)
  refine r_rv g1.1 (t2.up g1.ty) rfl ?_
  refine r_b2 (mm_begin g1.1 (t2.up g1.ty) i1.1 (by have := i1.2; omega)) (fun v85 S84 p => ?_)
  obtain ⟨g2, m2⟩ := p
  exact hk _ (LW_M hI t1 t2 t3 g1 i1.2 f1 g2 m2 (RP_fr r1 g2 (by decide +kernel)) (by decide +kernel))
theorem c_answer {X : Nat → Int32} {L : Nat} {k : AS → Option Nat → Option Nat → Option Nat → Int32 → Option (Int32 × AS)} {Q : Int32 × AS → Prop} {n : Nat} {S : AS} {x : Int32} (hL : L ≤ 3072) (h0 : 0 ≤ x.toInt) (h6 : x.toInt + 6 ≤ (L : Int)) (hn : n ≤ 600) (hw : LW n S) (hk : ∀ S', LW (n + 1) S' → Ho (k S' (some 4) (some 57) (some 126) (x + 6)) Q) : Ho (f_W_law_B649 X L k S (some 4) (some 57) (some 126) x) Q := by
  obtain ⟨T, hI, t1, t2, t3, hr⟩ := hw
  unfold f_W_law_B649
  refine r_sx (sx_ok hL h0 h6 1 (by decide)) (fun v95 _ => ?_)
  refine r_sx (sx_ok hL h0 h6 2 (by decide)) (fun v96 _ => ?_)
  refine r_if (fun _ => ?_) (fun _ => ?_)
  · skip
    unfold f_W_law_B670
    refine r_sx (sx_ok hL h0 h6 3 (by decide)) (fun v90 _ => ?_)
    refine r_b2 (w_answer hI.1 t1 t3) (fun v92 S91 p => ?_)
    obtain ⟨T1, g1⟩ := p
    have f1 := FT_fr hI.2.2.2.1 g1 (by decide +kernel)
    have i1 := IV_K hI g1 t2 (by decide +kernel)
    have r1 := RP_fr hr g1 (by decide +kernel)
    refine r_sx (sx_ok hL h0 h6 1 (by decide)) (fun v93 _ => ?_)
    refine r_sx (sx_ok hL h0 h6 2 (by decide)) (fun v94 _ => ?_)
    refine r_if (fun _ => ?_) (fun _ => ?_)
    · skip
      unfold f_W_law_B703
      refine r_sx (sx_ok hL h0 h6 3 (by decide)) (fun v86 _ => ?_)
      refine r_rv g1.1 (t2.up g1.ty) rfl ?_
      refine r_b2 (mm_answer g1.1 (t2.up g1.ty) i1.1 (by have := i1.2; omega)) (fun v89 S88 p => ?_)
      obtain ⟨g2, m2⟩ := p
      exact hk _ (LW_M hI t1 t2 t3 g1 i1.2 f1 g2 m2 (RP_fr r1 g2 (by decide +kernel)) (by decide +kernel))
    · skip
      unfold f_W_law_B703
      refine r_sx (sx_ok hL h0 h6 3 (by decide)) (fun v86 _ => ?_)
      refine r_rv g1.1 (t2.up g1.ty) rfl ?_
      refine r_b2 (mm_answer g1.1 (t2.up g1.ty) i1.1 (by have := i1.2; omega)) (fun v89 S88 p => ?_)
      obtain ⟨g2, m2⟩ := p
      exact hk _ (LW_M hI t1 t2 t3 g1 i1.2 f1 g2 m2 (RP_fr r1 g2 (by decide +kernel)) (by decide +kernel))
  · skip
    unfold f_W_law_B670
    refine r_sx (sx_ok hL h0 h6 3 (by decide)) (fun v90 _ => ?_)
    refine r_b2 (w_answer hI.1 t1 t3) (fun v92 S91 p => ?_)
    obtain ⟨T1, g1⟩ := p
    have f1 := FT_fr hI.2.2.2.1 g1 (by decide +kernel)
    have i1 := IV_K hI g1 t2 (by decide +kernel)
    have r1 := RP_fr hr g1 (by decide +kernel)
    refine r_sx (sx_ok hL h0 h6 1 (by decide)) (fun v93 _ => ?_)
    refine r_sx (sx_ok hL h0 h6 2 (by decide)) (fun v94 _ => ?_)
    refine r_if (fun _ => ?_) (fun _ => ?_)
    · skip
      unfold f_W_law_B703
      refine r_sx (sx_ok hL h0 h6 3 (by decide)) (fun v86 _ => ?_)
      refine r_rv g1.1 (t2.up g1.ty) rfl ?_
      refine r_b2 (mm_answer g1.1 (t2.up g1.ty) i1.1 (by have := i1.2; omega)) (fun v89 S88 p => ?_)
      obtain ⟨g2, m2⟩ := p
      exact hk _ (LW_M hI t1 t2 t3 g1 i1.2 f1 g2 m2 (RP_fr r1 g2 (by decide +kernel)) (by decide +kernel))
    · skip
      unfold f_W_law_B703
      refine r_sx (sx_ok hL h0 h6 3 (by decide)) (fun v86 _ => ?_)
      refine r_rv g1.1 (t2.up g1.ty) rfl ?_
      refine r_b2 (mm_answer g1.1 (t2.up g1.ty) i1.1 (by have := i1.2; omega)) (fun v89 S88 p => ?_)
      obtain ⟨g2, m2⟩ := p
      exact hk _ (LW_M hI t1 t2 t3 g1 i1.2 f1 g2 m2 (RP_fr r1 g2 (by decide +kernel)) (by decide +kernel))
theorem c_state {X : Nat → Int32} {L : Nat} {k : AS → Option Nat → Option Nat → Option Nat → Int32 → Option (Int32 × AS)} {Q : Int32 × AS → Prop} {n : Nat} {S : AS} {x : Int32} (hL : L ≤ 3072) (h0 : 0 ≤ x.toInt) (h6 : x.toInt + 6 ≤ (L : Int)) (hn : n ≤ 600) (hw : LW n S) (hk : ∀ S', LW (n + 1) S' → Ho (k S' (some 4) (some 57) (some 126) (x + 6)) Q) : Ho (f_W_law_B717 X L k S (some 4) (some 57) (some 126) x) Q := by
  obtain ⟨T, hI, t1, t2, t3, hr⟩ := hw
  unfold f_W_law_B717
  refine r_sx (sx_ok hL h0 h6 1 (by decide)) (fun v97 _ => ?_)
  refine r_b2 (w_state hI.1 t1 t3) (fun v99 S98 p => ?_)
  obtain ⟨T1, g1⟩ := p
  have f1 := FT_fr hI.2.2.2.1 g1 (by decide +kernel)
  have i1 := IV_K hI g1 t2 (by decide +kernel)
  have r1 := RP_fr hr g1 (by decide +kernel)
  refine r_sx (sx_ok hL h0 h6 1 (by decide)) (fun v100 _ => ?_)
  refine r_rv g1.1 (t2.up g1.ty) rfl ?_
  refine r_b2 (mm_state g1.1 (t2.up g1.ty) i1.1 (by have := i1.2; omega)) (fun v103 S102 p => ?_)
  obtain ⟨g2, m2⟩ := p
  exact hk _ (LW_M hI t1 t2 t3 g1 i1.2 f1 g2 m2 (RP_fr r1 g2 (by decide +kernel)) (by decide +kernel))
theorem c_asked {X : Nat → Int32} {L : Nat} {k : AS → Option Nat → Option Nat → Option Nat → Int32 → Option (Int32 × AS)} {Q : Int32 × AS → Prop} {n : Nat} {S : AS} {x : Int32} (hL : L ≤ 3072) (h0 : 0 ≤ x.toInt) (h6 : x.toInt + 6 ≤ (L : Int)) (hn : n ≤ 600) (hw : LW n S) (hk : ∀ S', LW (n + 1) S' → Ho (k S' (some 4) (some 57) (some 126) (x + 6)) Q) : Ho (f_W_law_B745 X L k S (some 4) (some 57) (some 126) x) Q := by
  obtain ⟨T, hI, t1, t2, t3, hr⟩ := hw
  unfold f_W_law_B745
  refine r_sx (sx_ok hL h0 h6 1 (by decide)) (fun v104 _ => ?_)
  refine r_b2 (w_asked hI.1 t1 t3) (fun v106 S105 p => ?_)
  obtain ⟨T1, g1⟩ := p
  have f1 := FT_fr hI.2.2.2.1 g1 (by decide +kernel)
  have i1 := IV_K hI g1 t2 (by decide +kernel)
  have r1 := RP_fr hr g1 (by decide +kernel)
  refine r_sx (sx_ok hL h0 h6 1 (by decide)) (fun v107 _ => ?_)
  refine r_rv g1.1 (t2.up g1.ty) rfl ?_
  refine r_b2 (mm_asked g1.1 (t2.up g1.ty) i1.1 (by have := i1.2; omega)) (fun v110 S109 p => ?_)
  obtain ⟨g2, m2⟩ := p
  exact hk _ (LW_M hI t1 t2 t3 g1 i1.2 f1 g2 m2 (RP_fr r1 g2 (by decide +kernel)) (by decide +kernel))
theorem c_sessionOf {X : Nat → Int32} {L : Nat} {k : AS → Option Nat → Option Nat → Option Nat → Int32 → Option (Int32 × AS)} {Q : Int32 × AS → Prop} {n : Nat} {S : AS} {x : Int32} (hL : L ≤ 3072) (h0 : 0 ≤ x.toInt) (h6 : x.toInt + 6 ≤ (L : Int)) (hn : n ≤ 600) (hw : LW n S) (hk : ∀ S', LW (n + 1) S' → Ho (k S' (some 4) (some 57) (some 126) (x + 6)) Q) : Ho (f_W_law_B773 X L k S (some 4) (some 57) (some 126) x) Q := by
  obtain ⟨T, hI, t1, t2, t3, hr⟩ := hw
  unfold f_W_law_B773
  refine r_sx (sx_ok hL h0 h6 1 (by decide)) (fun v111 _ => ?_)
  refine r_b2 (w_sessionOf hI.1 t1 t3) (fun v113 S112 p => ?_)
  obtain ⟨T1, g1⟩ := p
  have f1 := FT_fr hI.2.2.2.1 g1 (by decide +kernel)
  have i1 := IV_K hI g1 t2 (by decide +kernel)
  have r1 := RP_fr hr g1 (by decide +kernel)
  refine r_sx (sx_ok hL h0 h6 1 (by decide)) (fun v114 _ => ?_)
  refine r_rv g1.1 (t2.up g1.ty) rfl ?_
  refine r_b2 (mm_sessionOf g1.1 (t2.up g1.ty) i1.1 (by have := i1.2; omega)) (fun v117 S116 p => ?_)
  obtain ⟨g2, m2⟩ := p
  exact hk _ (LW_M hI t1 t2 t3 g1 i1.2 f1 g2 m2 (RP_fr r1 g2 (by decide +kernel)) (by decide +kernel))
theorem c_risk {X : Nat → Int32} {L : Nat} {k : AS → Option Nat → Option Nat → Option Nat → Int32 → Option (Int32 × AS)} {Q : Int32 × AS → Prop} {n : Nat} {S : AS} {x : Int32} (hL : L ≤ 3072) (h0 : 0 ≤ x.toInt) (h6 : x.toInt + 6 ≤ (L : Int)) (hn : n ≤ 600) (hw : LW n S) (hk : ∀ S', LW (n + 1) S' → Ho (k S' (some 4) (some 57) (some 126) (x + 6)) Q) : Ho (f_W_law_B801 X L k S (some 4) (some 57) (some 126) x) Q := by
  obtain ⟨T, hI, t1, t2, t3, hr⟩ := hw
  unfold f_W_law_B801
  refine r_sx (sx_ok hL h0 h6 1 (by decide)) (fun v118 _ => ?_)
  refine r_b2 (w_risk hI.1 t1 t3) (fun v120 S119 p => ?_)
  obtain ⟨T1, g1⟩ := p
  have f1 := FT_fr hI.2.2.2.1 g1 (by decide +kernel)
  have i1 := IV_K hI g1 t2 (by decide +kernel)
  have r1 := RP_fr hr g1 (by decide +kernel)
  refine r_sx (sx_ok hL h0 h6 1 (by decide)) (fun v121 _ => ?_)
  refine r_rv g1.1 (t2.up g1.ty) rfl ?_
  refine r_b2 (mm_risk g1.1 (t2.up g1.ty) i1.1 (by have := i1.2; omega)) (fun v124 S123 p => ?_)
  obtain ⟨g2, m2⟩ := p
  exact hk _ (LW_M hI t1 t2 t3 g1 i1.2 f1 g2 m2 (RP_fr r1 g2 (by decide +kernel)) (by decide +kernel))
theorem c_trialRisk {X : Nat → Int32} {L : Nat} {k : AS → Option Nat → Option Nat → Option Nat → Int32 → Option (Int32 × AS)} {Q : Int32 × AS → Prop} {n : Nat} {S : AS} {x : Int32} (hL : L ≤ 3072) (h0 : 0 ≤ x.toInt) (h6 : x.toInt + 6 ≤ (L : Int)) (hn : n ≤ 600) (hw : LW n S) (hk : ∀ S', LW (n + 1) S' → Ho (k S' (some 4) (some 57) (some 126) (x + 6)) Q) : Ho (f_W_law_B829 X L k S (some 4) (some 57) (some 126) x) Q := by
  obtain ⟨T, hI, t1, t2, t3, hr⟩ := hw
  unfold f_W_law_B829
  refine r_sx (sx_ok hL h0 h6 1 (by decide)) (fun v125 _ => ?_)
  refine r_b2 (w_trialRisk hI.1 t1 t3) (fun v127 S126 p => ?_)
  obtain ⟨T1, g1⟩ := p
  have f1 := FT_fr hI.2.2.2.1 g1 (by decide +kernel)
  have i1 := IV_K hI g1 t2 (by decide +kernel)
  have r1 := RP_fr hr g1 (by decide +kernel)
  refine r_sx (sx_ok hL h0 h6 1 (by decide)) (fun v128 _ => ?_)
  refine r_rv g1.1 (t2.up g1.ty) rfl ?_
  refine r_b2 (mm_trialRisk g1.1 (t2.up g1.ty) i1.1 (by have := i1.2; omega)) (fun v131 S130 p => ?_)
  obtain ⟨g2, m2⟩ := p
  exact hk _ (LW_M hI t1 t2 t3 g1 i1.2 f1 g2 m2 (RP_fr r1 g2 (by decide +kernel)) (by decide +kernel))
theorem c_sessions {X : Nat → Int32} {L : Nat} {k : AS → Option Nat → Option Nat → Option Nat → Int32 → Option (Int32 × AS)} {Q : Int32 × AS → Prop} {n : Nat} {S : AS} {x : Int32} (hL : L ≤ 3072) (h0 : 0 ≤ x.toInt) (h6 : x.toInt + 6 ≤ (L : Int)) (hn : n ≤ 600) (hw : LW n S) (hk : ∀ S', LW (n + 1) S' → Ho (k S' (some 4) (some 57) (some 126) (x + 6)) Q) : Ho (f_W_law_B857 X L k S (some 4) (some 57) (some 126) x) Q := by
  obtain ⟨T, hI, t1, t2, t3, hr⟩ := hw
  unfold f_W_law_B857
  refine r_rv hI.1 t1 rfl ?_
  refine r_b2 (t_K_sessions hI.1 t1) (fun v134 S133 p => ?_)
  obtain ⟨e, -⟩ := p
  have e : S133 = S := e
  have g1 : Rl T (99999 :: []) S 10 700 T S133 := by
    rw [e]
    exact Rlweak (Rlrf hI.1) (fun _ z => List.mem_cons_of_mem _ z) (by decide) (by decide)
  have f1 := FT_fr hI.2.2.2.1 g1 (by decide +kernel)
  have i1 := IV_K hI g1 t2 (by decide +kernel)
  have r1 := RP_fr hr g1 (by decide +kernel)
  refine r_rv g1.1 (t2.up g1.ty) rfl ?_
  refine r_b2 (mm_sessions g1.1 (t2.up g1.ty) i1.1 (by have := i1.2; omega)) (fun v137 S136 p => ?_)
  obtain ⟨g2, m2⟩ := p
  exact hk _ (LW_M hI t1 t2 t3 g1 i1.2 f1 g2 m2 (RP_fr r1 g2 (by decide +kernel)) (by decide +kernel))
theorem c_isLive {X : Nat → Int32} {L : Nat} {k : AS → Option Nat → Option Nat → Option Nat → Int32 → Option (Int32 × AS)} {Q : Int32 × AS → Prop} {n : Nat} {S : AS} {x : Int32} (hL : L ≤ 3072) (h0 : 0 ≤ x.toInt) (h6 : x.toInt + 6 ≤ (L : Int)) (hn : n ≤ 600) (hw : LW n S) (hk : ∀ S', LW (n + 1) S' → Ho (k S' (some 4) (some 57) (some 126) (x + 6)) Q) : Ho (f_W_law_B870 X L k S (some 4) (some 57) (some 126) x) Q := by
  obtain ⟨T, hI, t1, t2, t3, hr⟩ := hw
  unfold f_W_law_B870
  refine r_sx (sx_ok hL h0 h6 1 (by decide)) (fun v138 _ => ?_)
  refine r_b2 (w_isLive hI.1 t1 t3) (fun v140 S139 p => ?_)
  obtain ⟨T1, g1⟩ := p
  have f1 := FT_fr hI.2.2.2.1 g1 (by decide +kernel)
  have i1 := IV_K hI g1 t2 (by decide +kernel)
  have r1 := RP_fr hr g1 (by decide +kernel)
  refine r_sx (sx_ok hL h0 h6 1 (by decide)) (fun v141 _ => ?_)
  refine r_rv g1.1 (t2.up g1.ty) rfl ?_
  refine r_b2 (mm_isLive g1.1 (t2.up g1.ty) i1.1 (by have := i1.2; omega)) (fun v144 S143 p => ?_)
  obtain ⟨g2, m2⟩ := p
  exact hk _ (LW_M hI t1 t2 t3 g1 i1.2 f1 g2 m2 (RP_fr r1 g2 (by decide +kernel)) (by decide +kernel))
theorem c_isLiveByAudit {X : Nat → Int32} {L : Nat} {k : AS → Option Nat → Option Nat → Option Nat → Int32 → Option (Int32 × AS)} {Q : Int32 × AS → Prop} {n : Nat} {S : AS} {x : Int32} (hL : L ≤ 3072) (h0 : 0 ≤ x.toInt) (h6 : x.toInt + 6 ≤ (L : Int)) (hn : n ≤ 600) (hw : LW n S) (hk : ∀ S', LW (n + 1) S' → Ho (k S' (some 4) (some 57) (some 126) (x + 6)) Q) : Ho (f_W_law_B898 X L k S (some 4) (some 57) (some 126) x) Q := by
  obtain ⟨T, hI, t1, t2, t3, hr⟩ := hw
  unfold f_W_law_B898
  refine r_sx (sx_ok hL h0 h6 1 (by decide)) (fun v145 _ => ?_)
  refine r_b2 (w_isLiveByAudit hI.1 t1 t3) (fun v147 S146 p => ?_)
  obtain ⟨T1, g1⟩ := p
  have f1 := FT_fr hI.2.2.2.1 g1 (by decide +kernel)
  have i1 := IV_K hI g1 t2 (by decide +kernel)
  have r1 := RP_fr hr g1 (by decide +kernel)
  refine r_sx (sx_ok hL h0 h6 1 (by decide)) (fun v148 _ => ?_)
  refine r_rv g1.1 (t2.up g1.ty) rfl ?_
  refine r_b2 (mm_isLiveByAudit g1.1 (t2.up g1.ty) i1.1 (by have := i1.2; omega)) (fun v151 S150 p => ?_)
  obtain ⟨g2, m2⟩ := p
  exact hk _ (LW_M hI t1 t2 t3 g1 i1.2 f1 g2 m2 (RP_fr r1 g2 (by decide +kernel)) (by decide +kernel))
theorem c_level {X : Nat → Int32} {L : Nat} {k : AS → Option Nat → Option Nat → Option Nat → Int32 → Option (Int32 × AS)} {Q : Int32 × AS → Prop} {n : Nat} {S : AS} {x : Int32} (hL : L ≤ 3072) (h0 : 0 ≤ x.toInt) (h6 : x.toInt + 6 ≤ (L : Int)) (hn : n ≤ 600) (hw : LW n S) (hk : ∀ S', LW (n + 1) S' → Ho (k S' (some 4) (some 57) (some 126) (x + 6)) Q) : Ho (f_W_law_B926 X L k S (some 4) (some 57) (some 126) x) Q := by
  obtain ⟨T, hI, t1, t2, t3, hr⟩ := hw
  unfold f_W_law_B926
  refine r_sx (sx_ok hL h0 h6 1 (by decide)) (fun v152 _ => ?_)
  refine r_b2 (w_level hI.1 t1 t3) (fun v154 S153 p => ?_)
  obtain ⟨T1, g1⟩ := p
  have f1 := FT_fr hI.2.2.2.1 g1 (by decide +kernel)
  have i1 := IV_K hI g1 t2 (by decide +kernel)
  have r1 := RP_fr hr g1 (by decide +kernel)
  refine r_sx (sx_ok hL h0 h6 1 (by decide)) (fun v155 _ => ?_)
  refine r_rv g1.1 (t2.up g1.ty) rfl ?_
  refine r_b2 (mm_level g1.1 (t2.up g1.ty) i1.1 (by have := i1.2; omega)) (fun v158 S157 p => ?_)
  obtain ⟨g2, m2⟩ := p
  exact hk _ (LW_M hI t1 t2 t3 g1 i1.2 f1 g2 m2 (RP_fr r1 g2 (by decide +kernel)) (by decide +kernel))
theorem c_stepUp {X : Nat → Int32} {L : Nat} {k : AS → Option Nat → Option Nat → Option Nat → Int32 → Option (Int32 × AS)} {Q : Int32 × AS → Prop} {n : Nat} {S : AS} {x : Int32} (hL : L ≤ 3072) (h0 : 0 ≤ x.toInt) (h6 : x.toInt + 6 ≤ (L : Int)) (hn : n ≤ 600) (hw : LW n S) (hk : ∀ S', LW (n + 1) S' → Ho (k S' (some 4) (some 57) (some 126) (x + 6)) Q) : Ho (f_W_law_B954 X L k S (some 4) (some 57) (some 126) x) Q := by
  obtain ⟨T, hI, t1, t2, t3, hr⟩ := hw
  unfold f_W_law_B954
  refine r_sx (sx_ok hL h0 h6 1 (by decide)) (fun v169 _ => ?_)
  refine r_sx (sx_ok hL h0 h6 2 (by decide)) (fun v170 _ => ?_)
  refine r_sx (sx_ok hL h0 h6 3 (by decide)) (fun v171 _ => ?_)
  refine r_if (fun _ => ?_) (fun _ => ?_)
  · skip
    unfold f_W_law_B981
    refine r_sx (sx_ok hL h0 h6 4 (by decide)) (fun v163 _ => ?_)
    refine r_b2 (w_stepUp hI.1 t1 t3) (fun v165 S164 p => ?_)
    obtain ⟨T1, g1⟩ := p
    have f1 := FT_fr hI.2.2.2.1 g1 (by decide +kernel)
    have i1 := IV_K hI g1 t2 (by decide +kernel)
    have r1 := RP_fr hr g1 (by decide +kernel)
    refine r_sx (sx_ok hL h0 h6 1 (by decide)) (fun v166 _ => ?_)
    refine r_sx (sx_ok hL h0 h6 2 (by decide)) (fun v167 _ => ?_)
    refine r_sx (sx_ok hL h0 h6 3 (by decide)) (fun v168 _ => ?_)
    refine r_if (fun _ => ?_) (fun _ => ?_)
    · skip
      unfold f_W_law_B1020
      refine r_sx (sx_ok hL h0 h6 4 (by decide)) (fun v159 _ => ?_)
      refine r_rv g1.1 (t2.up g1.ty) rfl ?_
      refine r_b2 (mm_stepUp g1.1 (t2.up g1.ty) i1.1 (by have := i1.2; omega)) (fun v162 S161 p => ?_)
      obtain ⟨g2, m2⟩ := p
      exact hk _ (LW_M hI t1 t2 t3 g1 i1.2 f1 g2 m2 (RP_fr r1 g2 (by decide +kernel)) (by decide +kernel))
    · skip
      unfold f_W_law_B1020
      refine r_sx (sx_ok hL h0 h6 4 (by decide)) (fun v159 _ => ?_)
      refine r_rv g1.1 (t2.up g1.ty) rfl ?_
      refine r_b2 (mm_stepUp g1.1 (t2.up g1.ty) i1.1 (by have := i1.2; omega)) (fun v162 S161 p => ?_)
      obtain ⟨g2, m2⟩ := p
      exact hk _ (LW_M hI t1 t2 t3 g1 i1.2 f1 g2 m2 (RP_fr r1 g2 (by decide +kernel)) (by decide +kernel))
  · skip
    unfold f_W_law_B981
    refine r_sx (sx_ok hL h0 h6 4 (by decide)) (fun v163 _ => ?_)
    refine r_b2 (w_stepUp hI.1 t1 t3) (fun v165 S164 p => ?_)
    obtain ⟨T1, g1⟩ := p
    have f1 := FT_fr hI.2.2.2.1 g1 (by decide +kernel)
    have i1 := IV_K hI g1 t2 (by decide +kernel)
    have r1 := RP_fr hr g1 (by decide +kernel)
    refine r_sx (sx_ok hL h0 h6 1 (by decide)) (fun v166 _ => ?_)
    refine r_sx (sx_ok hL h0 h6 2 (by decide)) (fun v167 _ => ?_)
    refine r_sx (sx_ok hL h0 h6 3 (by decide)) (fun v168 _ => ?_)
    refine r_if (fun _ => ?_) (fun _ => ?_)
    · skip
      unfold f_W_law_B1020
      refine r_sx (sx_ok hL h0 h6 4 (by decide)) (fun v159 _ => ?_)
      refine r_rv g1.1 (t2.up g1.ty) rfl ?_
      refine r_b2 (mm_stepUp g1.1 (t2.up g1.ty) i1.1 (by have := i1.2; omega)) (fun v162 S161 p => ?_)
      obtain ⟨g2, m2⟩ := p
      exact hk _ (LW_M hI t1 t2 t3 g1 i1.2 f1 g2 m2 (RP_fr r1 g2 (by decide +kernel)) (by decide +kernel))
    · skip
      unfold f_W_law_B1020
      refine r_sx (sx_ok hL h0 h6 4 (by decide)) (fun v159 _ => ?_)
      refine r_rv g1.1 (t2.up g1.ty) rfl ?_
      refine r_b2 (mm_stepUp g1.1 (t2.up g1.ty) i1.1 (by have := i1.2; omega)) (fun v162 S161 p => ?_)
      obtain ⟨g2, m2⟩ := p
      exact hk _ (LW_M hI t1 t2 t3 g1 i1.2 f1 g2 m2 (RP_fr r1 g2 (by decide +kernel)) (by decide +kernel))
theorem c_signOut {X : Nat → Int32} {L : Nat} {k : AS → Option Nat → Option Nat → Option Nat → Int32 → Option (Int32 × AS)} {Q : Int32 × AS → Prop} {n : Nat} {S : AS} {x : Int32} (hL : L ≤ 3072) (h0 : 0 ≤ x.toInt) (h6 : x.toInt + 6 ≤ (L : Int)) (hn : n ≤ 600) (hw : LW n S) (hk : ∀ S', LW (n + 1) S' → Ho (k S' (some 4) (some 57) (some 126) (x + 6)) Q) : Ho (f_W_law_B1034 X L k S (some 4) (some 57) (some 126) x) Q := by
  obtain ⟨T, hI, t1, t2, t3, hr⟩ := hw
  unfold f_W_law_B1034
  refine r_sx (sx_ok hL h0 h6 1 (by decide)) (fun v172 _ => ?_)
  refine r_b2 (w_signOut hI.1 t1 t3) (fun v174 S173 p => ?_)
  obtain ⟨T1, g1⟩ := p
  have f1 := FT_fr hI.2.2.2.1 g1 (by decide +kernel)
  have i1 := IV_K hI g1 t2 (by decide +kernel)
  have r1 := RP_fr hr g1 (by decide +kernel)
  refine r_sx (sx_ok hL h0 h6 1 (by decide)) (fun v175 _ => ?_)
  refine r_rv g1.1 (t2.up g1.ty) rfl ?_
  refine r_b2 (mm_signOut g1.1 (t2.up g1.ty) i1.1 (by have := i1.2; omega)) (fun v178 S177 p => ?_)
  obtain ⟨g2, m2⟩ := p
  exact hk _ (LW_M hI t1 t2 t3 g1 i1.2 f1 g2 m2 (RP_fr r1 g2 (by decide +kernel)) (by decide +kernel))
theorem c_helper {X : Nat → Int32} {L : Nat} {k : AS → Option Nat → Option Nat → Option Nat → Int32 → Option (Int32 × AS)} {Q : Int32 × AS → Prop} {n : Nat} {S : AS} {x : Int32} (hL : L ≤ 3072) (h0 : 0 ≤ x.toInt) (h6 : x.toInt + 6 ≤ (L : Int)) (hn : n ≤ 600) (hw : LW n S) (hk : ∀ S', LW (n + 1) S' → Ho (k S' (some 4) (some 57) (some 126) (x + 6)) Q) : Ho (f_W_law_B1062 X L k S (some 4) (some 57) (some 126) x) Q := by
  obtain ⟨T, hI, t1, t2, t3, hr⟩ := hw
  unfold f_W_law_B1062
  refine r_sx (sx_ok hL h0 h6 1 (by decide)) (fun v179 _ => ?_)
  refine r_b2 (w_helper hI.1 t1 t3) (fun v181 S180 p => ?_)
  obtain ⟨T1, g1⟩ := p
  have f1 := FT_fr hI.2.2.2.1 g1 (by decide +kernel)
  have i1 := IV_K hI g1 t2 (by decide +kernel)
  have r1 := RP_fr hr g1 (by decide +kernel)
  refine r_sx (sx_ok hL h0 h6 1 (by decide)) (fun v182 _ => ?_)
  refine r_rv g1.1 (t2.up g1.ty) rfl ?_
  refine r_b2 (mm_helper g1.1 (t2.up g1.ty) i1.1 (by have := i1.2; omega)) (fun v185 S184 p => ?_)
  obtain ⟨g2, m2⟩ := p
  exact hk _ (LW_M hI t1 t2 t3 g1 i1.2 f1 g2 m2 (RP_fr r1 g2 (by decide +kernel)) (by decide +kernel))
theorem c_act {X : Nat → Int32} {L : Nat} {k : AS → Option Nat → Option Nat → Option Nat → Int32 → Option (Int32 × AS)} {Q : Int32 × AS → Prop} {n : Nat} {S : AS} {x : Int32} (hL : L ≤ 3072) (h0 : 0 ≤ x.toInt) (h6 : x.toInt + 6 ≤ (L : Int)) (hn : n ≤ 600) (hw : LW n S) (hk : ∀ S', LW (n + 1) S' → Ho (k S' (some 4) (some 57) (some 126) (x + 6)) Q) : Ho (f_W_law_B1090 X L k S (some 4) (some 57) (some 126) x) Q := by
  obtain ⟨T, hI, t1, t2, t3, hr⟩ := hw
  unfold f_W_law_B1090
  refine r_sx (sx_ok hL h0 h6 1 (by decide)) (fun v186 _ => ?_)
  refine r_sx (sx_ok hL h0 h6 2 (by decide)) (fun v187 _ => ?_)
  refine r_b2 (w_act hI.1 t1 t3) (fun v189 S188 p => ?_)
  obtain ⟨T1, g1⟩ := p
  have f1 := FT_fr hI.2.2.2.1 g1 (by decide +kernel)
  have i1 := IV_K hI g1 t2 (by decide +kernel)
  have r1 := RP_fr hr g1 (by decide +kernel)
  refine r_sx (sx_ok hL h0 h6 1 (by decide)) (fun v190 _ => ?_)
  refine r_sx (sx_ok hL h0 h6 2 (by decide)) (fun v191 _ => ?_)
  refine r_rv g1.1 (t2.up g1.ty) rfl ?_
  refine r_b2 (mm_act g1.1 (t2.up g1.ty) i1.1 (by have := i1.2; omega)) (fun v194 S193 p => ?_)
  obtain ⟨g2, m2⟩ := p
  exact hk _ (LW_M hI t1 t2 t3 g1 i1.2 f1 g2 m2 (RP_fr r1 g2 (by decide +kernel)) (by decide +kernel))
theorem c_consent {X : Nat → Int32} {L : Nat} {k : AS → Option Nat → Option Nat → Option Nat → Int32 → Option (Int32 × AS)} {Q : Int32 × AS → Prop} {n : Nat} {S : AS} {x : Int32} (hL : L ≤ 3072) (h0 : 0 ≤ x.toInt) (h6 : x.toInt + 6 ≤ (L : Int)) (hn : n ≤ 600) (hw : LW n S) (hk : ∀ S', LW (n + 1) S' → Ho (k S' (some 4) (some 57) (some 126) (x + 6)) Q) : Ho (f_W_law_B1130 X L k S (some 4) (some 57) (some 126) x) Q := by
  obtain ⟨T, hI, t1, t2, t3, hr⟩ := hw
  unfold f_W_law_B1130
  refine r_sx (sx_ok hL h0 h6 1 (by decide)) (fun v195 _ => ?_)
  refine r_sx (sx_ok hL h0 h6 2 (by decide)) (fun v196 _ => ?_)
  refine r_sx (sx_ok hL h0 h6 3 (by decide)) (fun v197 _ => ?_)
  refine r_b2 (w_consent hI.1 t1 t3) (fun v199 S198 p => ?_)
  obtain ⟨T1, g1⟩ := p
  have f1 := FT_fr hI.2.2.2.1 g1 (by decide +kernel)
  have i1 := IV_K hI g1 t2 (by decide +kernel)
  have r1 := RP_fr hr g1 (by decide +kernel)
  refine r_sx (sx_ok hL h0 h6 1 (by decide)) (fun v200 _ => ?_)
  refine r_sx (sx_ok hL h0 h6 2 (by decide)) (fun v201 _ => ?_)
  refine r_sx (sx_ok hL h0 h6 3 (by decide)) (fun v202 _ => ?_)
  refine r_rv g1.1 (t2.up g1.ty) rfl ?_
  refine r_b2 (mm_consent g1.1 (t2.up g1.ty) i1.1 (by have := i1.2; omega)) (fun v205 S204 p => ?_)
  obtain ⟨g2, m2⟩ := p
  exact hk _ (LW_M hI t1 t2 t3 g1 i1.2 f1 g2 m2 (RP_fr r1 g2 (by decide +kernel)) (by decide +kernel))
theorem c_withdraw {X : Nat → Int32} {L : Nat} {k : AS → Option Nat → Option Nat → Option Nat → Int32 → Option (Int32 × AS)} {Q : Int32 × AS → Prop} {n : Nat} {S : AS} {x : Int32} (hL : L ≤ 3072) (h0 : 0 ≤ x.toInt) (h6 : x.toInt + 6 ≤ (L : Int)) (hn : n ≤ 600) (hw : LW n S) (hk : ∀ S', LW (n + 1) S' → Ho (k S' (some 4) (some 57) (some 126) (x + 6)) Q) : Ho (f_W_law_B1182 X L k S (some 4) (some 57) (some 126) x) Q := by
  obtain ⟨T, hI, t1, t2, t3, hr⟩ := hw
  unfold f_W_law_B1182
  refine r_sx (sx_ok hL h0 h6 1 (by decide)) (fun v206 _ => ?_)
  refine r_sx (sx_ok hL h0 h6 2 (by decide)) (fun v207 _ => ?_)
  refine r_b2 (w_withdraw hI.1 t1 t3) (fun v209 S208 p => ?_)
  obtain ⟨T1, g1⟩ := p
  have f1 := FT_fr hI.2.2.2.1 g1 (by decide +kernel)
  have i1 := IV_K hI g1 t2 (by decide +kernel)
  have r1 := RP_fr hr g1 (by decide +kernel)
  refine r_sx (sx_ok hL h0 h6 1 (by decide)) (fun v210 _ => ?_)
  refine r_sx (sx_ok hL h0 h6 2 (by decide)) (fun v211 _ => ?_)
  refine r_rv g1.1 (t2.up g1.ty) rfl ?_
  refine r_b2 (mm_withdraw g1.1 (t2.up g1.ty) i1.1 (by have := i1.2; omega)) (fun v214 S213 p => ?_)
  obtain ⟨g2, m2⟩ := p
  exact hk _ (LW_M hI t1 t2 t3 g1 i1.2 f1 g2 m2 (RP_fr r1 g2 (by decide +kernel)) (by decide +kernel))
theorem c_need {X : Nat → Int32} {L : Nat} {k : AS → Option Nat → Option Nat → Option Nat → Int32 → Option (Int32 × AS)} {Q : Int32 × AS → Prop} {n : Nat} {S : AS} {x : Int32} (hL : L ≤ 3072) (h0 : 0 ≤ x.toInt) (h6 : x.toInt + 6 ≤ (L : Int)) (hn : n ≤ 600) (hw : LW n S) (hk : ∀ S', LW (n + 1) S' → Ho (k S' (some 4) (some 57) (some 126) (x + 6)) Q) : Ho (f_W_law_B1222 X L k S (some 4) (some 57) (some 126) x) Q := by
  obtain ⟨T, hI, t1, t2, t3, hr⟩ := hw
  unfold f_W_law_B1222
  refine r_sx (sx_ok hL h0 h6 1 (by decide)) (fun v215 _ => ?_)
  refine r_sx (sx_ok hL h0 h6 2 (by decide)) (fun v216 _ => ?_)
  refine r_b2 (w_need hI.1 t1 t3) (fun v218 S217 p => ?_)
  obtain ⟨T1, g1⟩ := p
  have f1 := FT_fr hI.2.2.2.1 g1 (by decide +kernel)
  have i1 := IV_K hI g1 t2 (by decide +kernel)
  have r1 := RP_fr hr g1 (by decide +kernel)
  refine r_sx (sx_ok hL h0 h6 1 (by decide)) (fun v219 _ => ?_)
  refine r_sx (sx_ok hL h0 h6 2 (by decide)) (fun v220 _ => ?_)
  refine r_rv g1.1 (t2.up g1.ty) rfl ?_
  refine r_b2 (mm_need g1.1 (t2.up g1.ty) i1.1 (by have := i1.2; omega)) (fun v223 S222 p => ?_)
  obtain ⟨g2, m2⟩ := p
  exact hk _ (LW_M hI t1 t2 t3 g1 i1.2 f1 g2 m2 (RP_fr r1 g2 (by decide +kernel)) (by decide +kernel))
theorem c_authorize {X : Nat → Int32} {L : Nat} {k : AS → Option Nat → Option Nat → Option Nat → Int32 → Option (Int32 × AS)} {Q : Int32 × AS → Prop} {n : Nat} {S : AS} {x : Int32} (hL : L ≤ 3072) (h0 : 0 ≤ x.toInt) (h6 : x.toInt + 6 ≤ (L : Int)) (hn : n ≤ 600) (hw : LW n S) (hk : ∀ S', LW (n + 1) S' → Ho (k S' (some 4) (some 57) (some 126) (x + 6)) Q) : Ho (f_W_law_B1262 X L k S (some 4) (some 57) (some 126) x) Q := by
  obtain ⟨T, hI, t1, t2, t3, hr⟩ := hw
  unfold f_W_law_B1262
  refine r_sx (sx_ok hL h0 h6 1 (by decide)) (fun v224 _ => ?_)
  refine r_sx (sx_ok hL h0 h6 2 (by decide)) (fun v225 _ => ?_)
  refine r_sx (sx_ok hL h0 h6 3 (by decide)) (fun v226 _ => ?_)
  refine r_sx (sx_ok hL h0 h6 4 (by decide)) (fun v227 _ => ?_)
  refine r_b2 (w_authorize hI.1 t1 t3) (fun v229 S228 p => ?_)
  obtain ⟨T1, g1⟩ := p
  have f1 := FT_fr hI.2.2.2.1 g1 (by decide +kernel)
  have i1 := IV_K hI g1 t2 (by decide +kernel)
  have r1 := RP_fr hr g1 (by decide +kernel)
  refine r_sx (sx_ok hL h0 h6 1 (by decide)) (fun v230 _ => ?_)
  refine r_sx (sx_ok hL h0 h6 2 (by decide)) (fun v231 _ => ?_)
  refine r_sx (sx_ok hL h0 h6 3 (by decide)) (fun v232 _ => ?_)
  refine r_sx (sx_ok hL h0 h6 4 (by decide)) (fun v233 _ => ?_)
  refine r_rv g1.1 (t2.up g1.ty) rfl ?_
  refine r_b2 (mm_authorize g1.1 (t2.up g1.ty) i1.1 (by have := i1.2; omega)) (fun v236 S235 p => ?_)
  obtain ⟨g2, m2⟩ := p
  exact hk _ (LW_M hI t1 t2 t3 g1 i1.2 f1 g2 m2 (RP_fr r1 g2 (by decide +kernel)) (by decide +kernel))
theorem c_redeem {X : Nat → Int32} {L : Nat} {k : AS → Option Nat → Option Nat → Option Nat → Int32 → Option (Int32 × AS)} {Q : Int32 × AS → Prop} {n : Nat} {S : AS} {x : Int32} (hL : L ≤ 3072) (h0 : 0 ≤ x.toInt) (h6 : x.toInt + 6 ≤ (L : Int)) (hn : n ≤ 600) (hw : LW n S) (hk : ∀ S', LW (n + 1) S' → Ho (k S' (some 4) (some 57) (some 126) (x + 6)) Q) : Ho (f_W_law_B1326 X L k S (some 4) (some 57) (some 126) x) Q := by
  obtain ⟨T, hI, t1, t2, t3, hr⟩ := hw
  unfold f_W_law_B1326
  refine r_sx (sx_ok hL h0 h6 1 (by decide)) (fun v237 _ => ?_)
  refine r_b2 (w_redeem hI.1 t1 t3 hI.2.2.2.1) (fun v239 S238 p => ?_)
  obtain ⟨⟨T1, g1⟩, f1⟩ := p
  have i1 := IV_K hI g1 t2 (by decide +kernel)
  have r1 := RP_fr hr g1 (by decide +kernel)
  refine r_sx (sx_ok hL h0 h6 1 (by decide)) (fun v240 _ => ?_)
  refine r_rv g1.1 (t2.up g1.ty) rfl ?_
  refine r_b2 (mm_redeem g1.1 (t2.up g1.ty) i1.1 (by have := i1.2; omega)) (fun v243 S242 p => ?_)
  obtain ⟨g2, m2⟩ := p
  exact hk _ (LW_M hI t1 t2 t3 g1 i1.2 f1 g2 m2 (RP_fr r1 g2 (by decide +kernel)) (by decide +kernel))
theorem c_refresh {X : Nat → Int32} {L : Nat} {k : AS → Option Nat → Option Nat → Option Nat → Int32 → Option (Int32 × AS)} {Q : Int32 × AS → Prop} {n : Nat} {S : AS} {x : Int32} (hL : L ≤ 3072) (h0 : 0 ≤ x.toInt) (h6 : x.toInt + 6 ≤ (L : Int)) (hn : n ≤ 600) (hw : LW n S) (hk : ∀ S', LW (n + 1) S' → Ho (k S' (some 4) (some 57) (some 126) (x + 6)) Q) : Ho (f_W_law_B1354 X L k S (some 4) (some 57) (some 126) x) Q := by
  obtain ⟨T, hI, t1, t2, t3, hr⟩ := hw
  unfold f_W_law_B1354
  refine r_sx (sx_ok hL h0 h6 1 (by decide)) (fun v244 _ => ?_)
  refine r_sx (sx_ok hL h0 h6 2 (by decide)) (fun v245 _ => ?_)
  refine r_b2 (w_refresh hI.1 t1 t3) (fun v247 S246 p => ?_)
  obtain ⟨T1, g1⟩ := p
  have f1 := FT_fr hI.2.2.2.1 g1 (by decide +kernel)
  have i1 := IV_K hI g1 t2 (by decide +kernel)
  have r1 := RP_fr hr g1 (by decide +kernel)
  refine r_sx (sx_ok hL h0 h6 1 (by decide)) (fun v248 _ => ?_)
  refine r_sx (sx_ok hL h0 h6 2 (by decide)) (fun v249 _ => ?_)
  refine r_rv g1.1 (t2.up g1.ty) rfl ?_
  refine r_b2 (mm_refresh g1.1 (t2.up g1.ty) i1.1 (by have := i1.2; omega)) (fun v252 S251 p => ?_)
  obtain ⟨g2, m2⟩ := p
  exact hk _ (LW_M hI t1 t2 t3 g1 i1.2 f1 g2 m2 (RP_fr r1 g2 (by decide +kernel)) (by decide +kernel))
theorem c_isGood {X : Nat → Int32} {L : Nat} {k : AS → Option Nat → Option Nat → Option Nat → Int32 → Option (Int32 × AS)} {Q : Int32 × AS → Prop} {n : Nat} {S : AS} {x : Int32} (hL : L ≤ 3072) (h0 : 0 ≤ x.toInt) (h6 : x.toInt + 6 ≤ (L : Int)) (hn : n ≤ 600) (hw : LW n S) (hk : ∀ S', LW (n + 1) S' → Ho (k S' (some 4) (some 57) (some 126) (x + 6)) Q) : Ho (f_W_law_B1394 X L k S (some 4) (some 57) (some 126) x) Q := by
  obtain ⟨T, hI, t1, t2, t3, hr⟩ := hw
  unfold f_W_law_B1394
  refine r_sx (sx_ok hL h0 h6 1 (by decide)) (fun v253 _ => ?_)
  refine r_b2 (w_isGood hI.1 t1 t3) (fun v255 S254 p => ?_)
  obtain ⟨T1, g1⟩ := p
  have f1 := FT_fr hI.2.2.2.1 g1 (by decide +kernel)
  have i1 := IV_K hI g1 t2 (by decide +kernel)
  have r1 := RP_fr hr g1 (by decide +kernel)
  refine r_sx (sx_ok hL h0 h6 1 (by decide)) (fun v256 _ => ?_)
  refine r_rv g1.1 (t2.up g1.ty) rfl ?_
  refine r_b2 (mm_isGood g1.1 (t2.up g1.ty) i1.1 (by have := i1.2; omega)) (fun v259 S258 p => ?_)
  obtain ⟨g2, m2⟩ := p
  exact hk _ (LW_M hI t1 t2 t3 g1 i1.2 f1 g2 m2 (RP_fr r1 g2 (by decide +kernel)) (by decide +kernel))
theorem c_tokenOf {X : Nat → Int32} {L : Nat} {k : AS → Option Nat → Option Nat → Option Nat → Int32 → Option (Int32 × AS)} {Q : Int32 × AS → Prop} {n : Nat} {S : AS} {x : Int32} (hL : L ≤ 3072) (h0 : 0 ≤ x.toInt) (h6 : x.toInt + 6 ≤ (L : Int)) (hn : n ≤ 600) (hw : LW n S) (hk : ∀ S', LW (n + 1) S' → Ho (k S' (some 4) (some 57) (some 126) (x + 6)) Q) : Ho (f_W_law_B1422 X L k S (some 4) (some 57) (some 126) x) Q := by
  obtain ⟨T, hI, t1, t2, t3, hr⟩ := hw
  unfold f_W_law_B1422
  refine r_sx (sx_ok hL h0 h6 1 (by decide)) (fun v260 _ => ?_)
  refine r_b2 (w_tokenOf hI.1 t1 t3) (fun v262 S261 p => ?_)
  obtain ⟨T1, g1⟩ := p
  have f1 := FT_fr hI.2.2.2.1 g1 (by decide +kernel)
  have i1 := IV_K hI g1 t2 (by decide +kernel)
  have r1 := RP_fr hr g1 (by decide +kernel)
  refine r_sx (sx_ok hL h0 h6 1 (by decide)) (fun v263 _ => ?_)
  refine r_rv g1.1 (t2.up g1.ty) rfl ?_
  refine r_b2 (mm_tokenOf g1.1 (t2.up g1.ty) i1.1 (by have := i1.2; omega)) (fun v266 S265 p => ?_)
  obtain ⟨g2, m2⟩ := p
  exact hk _ (LW_M hI t1 t2 t3 g1 i1.2 f1 g2 m2 (RP_fr r1 g2 (by decide +kernel)) (by decide +kernel))
theorem c_exchange {X : Nat → Int32} {L : Nat} {k : AS → Option Nat → Option Nat → Option Nat → Int32 → Option (Int32 × AS)} {Q : Int32 × AS → Prop} {n : Nat} {S : AS} {x : Int32} (hL : L ≤ 3072) (h0 : 0 ≤ x.toInt) (h6 : x.toInt + 6 ≤ (L : Int)) (hn : n ≤ 600) (hw : LW n S) (hk : ∀ S', LW (n + 1) S' → Ho (k S' (some 4) (some 57) (some 126) (x + 6)) Q) : Ho (f_W_law_B1450 X L k S (some 4) (some 57) (some 126) x) Q := by
  obtain ⟨T, hI, t1, t2, t3, hr⟩ := hw
  unfold f_W_law_B1450
  refine r_sx (sx_ok hL h0 h6 1 (by decide)) (fun v267 _ => ?_)
  refine r_sx (sx_ok hL h0 h6 2 (by decide)) (fun v268 _ => ?_)
  refine r_sx (sx_ok hL h0 h6 3 (by decide)) (fun v269 _ => ?_)
  refine r_b2 (w_exchange hI.1 t1 t3) (fun v271 S270 p => ?_)
  obtain ⟨T1, g1⟩ := p
  have f1 := FT_fr hI.2.2.2.1 g1 (by decide +kernel)
  have i1 := IV_K hI g1 t2 (by decide +kernel)
  have r1 := RP_fr hr g1 (by decide +kernel)
  refine r_sx (sx_ok hL h0 h6 1 (by decide)) (fun v272 _ => ?_)
  refine r_sx (sx_ok hL h0 h6 2 (by decide)) (fun v273 _ => ?_)
  refine r_sx (sx_ok hL h0 h6 3 (by decide)) (fun v274 _ => ?_)
  refine r_rv g1.1 (t2.up g1.ty) rfl ?_
  refine r_b2 (mm_exchange g1.1 (t2.up g1.ty) i1.1 (by have := i1.2; omega)) (fun v277 S276 p => ?_)
  obtain ⟨g2, m2⟩ := p
  exact hk _ (LW_M hI t1 t2 t3 g1 i1.2 f1 g2 m2 (RP_fr r1 g2 (by decide +kernel)) (by decide +kernel))
theorem c_token {X : Nat → Int32} {L : Nat} {k : AS → Option Nat → Option Nat → Option Nat → Int32 → Option (Int32 × AS)} {Q : Int32 × AS → Prop} {n : Nat} {S : AS} {x : Int32} (hL : L ≤ 3072) (h0 : 0 ≤ x.toInt) (h6 : x.toInt + 6 ≤ (L : Int)) (hn : n ≤ 600) (hw : LW n S) (hk : ∀ S', LW (n + 1) S' → Ho (k S' (some 4) (some 57) (some 126) (x + 6)) Q) : Ho (f_W_law_B1502 X L k S (some 4) (some 57) (some 126) x) Q := by
  obtain ⟨T, hI, t1, t2, t3, hr⟩ := hw
  unfold f_W_law_B1502
  refine r_sx (sx_ok hL h0 h6 1 (by decide)) (fun v278 _ => ?_)
  refine r_b2 (w_token hI.1 t1 t3) (fun v280 S279 p => ?_)
  obtain ⟨T1, g1⟩ := p
  have f1 := FT_fr hI.2.2.2.1 g1 (by decide +kernel)
  have i1 := IV_K hI g1 t2 (by decide +kernel)
  have r1 := RP_fr hr g1 (by decide +kernel)
  refine r_sx (sx_ok hL h0 h6 1 (by decide)) (fun v281 _ => ?_)
  refine r_rv g1.1 (t2.up g1.ty) rfl ?_
  refine r_b2 (mm_token g1.1 (t2.up g1.ty) i1.1 (by have := i1.2; omega)) (fun v284 S283 p => ?_)
  obtain ⟨g2, m2⟩ := p
  exact hk _ (LW_M hI t1 t2 t3 g1 i1.2 f1 g2 m2 (RP_fr r1 g2 (by decide +kernel)) (by decide +kernel))
theorem c_turn {X : Nat → Int32} {L : Nat} {k : AS → Option Nat → Option Nat → Option Nat → Int32 → Option (Int32 × AS)} {Q : Int32 × AS → Prop} {n : Nat} {S : AS} {x : Int32} (hL : L ≤ 3072) (h0 : 0 ≤ x.toInt) (h6 : x.toInt + 6 ≤ (L : Int)) (hn : n ≤ 600) (hw : LW n S) (hk : ∀ S', LW (n + 1) S' → Ho (k S' (some 4) (some 57) (some 126) (x + 6)) Q) : Ho (f_W_law_B1530 X L k S (some 4) (some 57) (some 126) x) Q := by
  obtain ⟨T, hI, t1, t2, t3, hr⟩ := hw
  unfold f_W_law_B1530
  refine r_b2 (w_turn hI.1 t1 t3) (fun v286 S285 p => ?_)
  obtain ⟨T1, g1⟩ := p
  have f1 := FT_fr hI.2.2.2.1 g1 (by decide +kernel)
  have i1 := IV_K hI g1 t2 (by decide +kernel)
  have r1 := RP_fr hr g1 (by decide +kernel)
  refine r_rv g1.1 (t2.up g1.ty) rfl ?_
  refine r_b2 (mm_turn g1.1 (t2.up g1.ty) i1.1 (by have := i1.2; omega)) (fun v289 S288 p => ?_)
  obtain ⟨g2, m2⟩ := p
  exact hk _ (LW_M hI t1 t2 t3 g1 i1.2 f1 g2 m2 (RP_fr r1 g2 (by decide +kernel)) (by decide +kernel))
theorem c_emergency {X : Nat → Int32} {L : Nat} {k : AS → Option Nat → Option Nat → Option Nat → Int32 → Option (Int32 × AS)} {Q : Int32 × AS → Prop} {n : Nat} {S : AS} {x : Int32} (hL : L ≤ 3072) (h0 : 0 ≤ x.toInt) (h6 : x.toInt + 6 ≤ (L : Int)) (hn : n ≤ 600) (hw : LW n S) (hk : ∀ S', LW (n + 1) S' → Ho (k S' (some 4) (some 57) (some 126) (x + 6)) Q) : Ho (f_W_law_B1546 X L k S (some 4) (some 57) (some 126) x) Q := by
  obtain ⟨T, hI, t1, t2, t3, hr⟩ := hw
  unfold f_W_law_B1546
  refine r_b2 (w_emergency hI.1 t1 t3) (fun v291 S290 p => ?_)
  obtain ⟨T1, g1⟩ := p
  have f1 := FT_fr hI.2.2.2.1 g1 (by decide +kernel)
  have i1 := IV_K hI g1 t2 (by decide +kernel)
  have r1 := RP_fr hr g1 (by decide +kernel)
  refine r_rv g1.1 (t2.up g1.ty) rfl ?_
  refine r_b2 (mm_emergency g1.1 (t2.up g1.ty) i1.1 (by have := i1.2; omega)) (fun v294 S293 p => ?_)
  obtain ⟨g2, m2⟩ := p
  exact hk _ (LW_M hI t1 t2 t3 g1 i1.2 f1 g2 m2 (RP_fr r1 g2 (by decide +kernel)) (by decide +kernel))
theorem c_signing {X : Nat → Int32} {L : Nat} {k : AS → Option Nat → Option Nat → Option Nat → Int32 → Option (Int32 × AS)} {Q : Int32 × AS → Prop} {n : Nat} {S : AS} {x : Int32} (hL : L ≤ 3072) (h0 : 0 ≤ x.toInt) (h6 : x.toInt + 6 ≤ (L : Int)) (hn : n ≤ 600) (hw : LW n S) (hk : ∀ S', LW (n + 1) S' → Ho (k S' (some 4) (some 57) (some 126) (x + 6)) Q) : Ho (f_W_law_B1562 X L k S (some 4) (some 57) (some 126) x) Q := by
  obtain ⟨T, hI, t1, t2, t3, hr⟩ := hw
  unfold f_W_law_B1562
  refine r_rv hI.1 t1 rfl ?_
  refine r_b2 (t_K_signing hI.1 t1) (fun v297 S296 p => ?_)
  obtain ⟨e, -⟩ := p
  have e : S296 = S := e
  have g1 : Rl T (99999 :: []) S 10 700 T S296 := by
    rw [e]
    exact Rlweak (Rlrf hI.1) (fun _ z => List.mem_cons_of_mem _ z) (by decide) (by decide)
  have f1 := FT_fr hI.2.2.2.1 g1 (by decide +kernel)
  have i1 := IV_K hI g1 t2 (by decide +kernel)
  have r1 := RP_fr hr g1 (by decide +kernel)
  refine r_rv g1.1 (t2.up g1.ty) rfl ?_
  refine r_b2 (mm_signing g1.1 (t2.up g1.ty) i1.1 (by have := i1.2; omega)) (fun v300 S299 p => ?_)
  obtain ⟨g2, m2⟩ := p
  exact hk _ (LW_M hI t1 t2 t3 g1 i1.2 f1 g2 m2 (RP_fr r1 g2 (by decide +kernel)) (by decide +kernel))
theorem c_isPublished {X : Nat → Int32} {L : Nat} {k : AS → Option Nat → Option Nat → Option Nat → Int32 → Option (Int32 × AS)} {Q : Int32 × AS → Prop} {n : Nat} {S : AS} {x : Int32} (hL : L ≤ 3072) (h0 : 0 ≤ x.toInt) (h6 : x.toInt + 6 ≤ (L : Int)) (hn : n ≤ 600) (hw : LW n S) (hk : ∀ S', LW (n + 1) S' → Ho (k S' (some 4) (some 57) (some 126) (x + 6)) Q) : Ho (f_W_law_B1575 X L k S (some 4) (some 57) (some 126) x) Q := by
  obtain ⟨T, hI, t1, t2, t3, hr⟩ := hw
  unfold f_W_law_B1575
  refine r_sx (sx_ok hL h0 h6 1 (by decide)) (fun v301 _ => ?_)
  refine r_b2 (w_isPublished hI.1 t1 t3) (fun v303 S302 p => ?_)
  obtain ⟨T1, g1⟩ := p
  have f1 := FT_fr hI.2.2.2.1 g1 (by decide +kernel)
  have i1 := IV_K hI g1 t2 (by decide +kernel)
  have r1 := RP_fr hr g1 (by decide +kernel)
  refine r_sx (sx_ok hL h0 h6 1 (by decide)) (fun v304 _ => ?_)
  refine r_rv g1.1 (t2.up g1.ty) rfl ?_
  refine r_b2 (mm_isPublished g1.1 (t2.up g1.ty) i1.1 (by have := i1.2; omega)) (fun v307 S306 p => ?_)
  obtain ⟨g2, m2⟩ := p
  exact hk _ (LW_M hI t1 t2 t3 g1 i1.2 f1 g2 m2 (RP_fr r1 g2 (by decide +kernel)) (by decide +kernel))
theorem c_line {X : Nat → Int32} {L : Nat} {k : AS → Option Nat → Option Nat → Option Nat → Int32 → Option (Int32 × AS)} {Q : Int32 × AS → Prop} {n : Nat} {S : AS} {x : Int32} (hL : L ≤ 3072) (h0 : 0 ≤ x.toInt) (h6 : x.toInt + 6 ≤ (L : Int)) (hn : n ≤ 600) (hw : LW n S) (hk : ∀ S', LW (n + 1) S' → Ho (k S' (some 4) (some 57) (some 126) (x + 6)) Q) : Ho (f_W_law_B1603 X L k S (some 4) (some 57) (some 126) x) Q := by
  obtain ⟨T, hI, t1, t2, t3, hr⟩ := hw
  unfold f_W_law_B1603
  refine r_sx (sx_ok hL h0 h6 1 (by decide)) (fun v308 _ => ?_)
  refine r_b2 (w_line hI.1 t1 t3) (fun v310 S309 p => ?_)
  obtain ⟨T1, g1⟩ := p
  have f1 := FT_fr hI.2.2.2.1 g1 (by decide +kernel)
  have i1 := IV_K hI g1 t2 (by decide +kernel)
  have r1 := RP_fr hr g1 (by decide +kernel)
  refine r_sx (sx_ok hL h0 h6 1 (by decide)) (fun v311 _ => ?_)
  refine r_rv g1.1 (t2.up g1.ty) rfl ?_
  refine r_b2 (mm_line g1.1 (t2.up g1.ty) i1.1 (by have := i1.2; omega)) (fun v314 S313 p => ?_)
  obtain ⟨g2, m2⟩ := p
  exact hk _ (LW_M hI t1 t2 t3 g1 i1.2 f1 g2 m2 (RP_fr r1 g2 (by decide +kernel)) (by decide +kernel))
theorem c_check {X : Nat → Int32} {L : Nat} {k : AS → Option Nat → Option Nat → Option Nat → Int32 → Option (Int32 × AS)} {Q : Int32 × AS → Prop} {n : Nat} {S : AS} {x : Int32} (hL : L ≤ 3072) (h0 : 0 ≤ x.toInt) (h6 : x.toInt + 6 ≤ (L : Int)) (hn : n ≤ 600) (hw : LW n S) (hk : ∀ S', LW (n + 1) S' → Ho (k S' (some 4) (some 57) (some 126) (x + 6)) Q) : Ho (f_W_law_B1631 X L k S (some 4) (some 57) (some 126) x) Q := by
  obtain ⟨T, hI, t1, t2, t3, hr⟩ := hw
  unfold f_W_law_B1631
  refine r_sx (sx_ok hL h0 h6 1 (by decide)) (fun v315 _ => ?_)
  refine r_sx (sx_ok hL h0 h6 2 (by decide)) (fun v316 _ => ?_)
  refine r_sx (sx_ok hL h0 h6 3 (by decide)) (fun v317 _ => ?_)
  refine r_b2 (w_check hI.1 t1 t3) (fun v319 S318 p => ?_)
  obtain ⟨T1, g1⟩ := p
  have f1 := FT_fr hI.2.2.2.1 g1 (by decide +kernel)
  have i1 := IV_K hI g1 t2 (by decide +kernel)
  have r1 := RP_fr hr g1 (by decide +kernel)
  refine r_sx (sx_ok hL h0 h6 1 (by decide)) (fun v320 _ => ?_)
  refine r_sx (sx_ok hL h0 h6 2 (by decide)) (fun v321 _ => ?_)
  refine r_sx (sx_ok hL h0 h6 3 (by decide)) (fun v322 _ => ?_)
  refine r_rv g1.1 (t2.up g1.ty) rfl ?_
  refine r_b2 (mm_check g1.1 (t2.up g1.ty) i1.1 (by have := i1.2; omega)) (fun v325 S324 p => ?_)
  obtain ⟨g2, m2⟩ := p
  exact hk _ (LW_M hI t1 t2 t3 g1 i1.2 f1 g2 m2 (RP_fr r1 g2 (by decide +kernel)) (by decide +kernel))
theorem c_lag {X : Nat → Int32} {L : Nat} {k : AS → Option Nat → Option Nat → Option Nat → Int32 → Option (Int32 × AS)} {Q : Int32 × AS → Prop} {n : Nat} {S : AS} {x : Int32} (hL : L ≤ 3072) (h0 : 0 ≤ x.toInt) (h6 : x.toInt + 6 ≤ (L : Int)) (hn : n ≤ 600) (hw : LW n S) (hk : ∀ S', LW (n + 1) S' → Ho (k S' (some 4) (some 57) (some 126) (x + 6)) Q) : Ho (f_W_law_B1683 X L k S (some 4) (some 57) (some 126) x) Q := by
  obtain ⟨T, hI, t1, t2, t3, hr⟩ := hw
  unfold f_W_law_B1683
  refine r_sx (sx_ok hL h0 h6 1 (by decide)) (fun v326 _ => ?_)
  refine r_b2 (w_lag hI.1 t1 t3) (fun v328 S327 p => ?_)
  obtain ⟨T1, g1⟩ := p
  have f1 := FT_fr hI.2.2.2.1 g1 (by decide +kernel)
  have i1 := IV_K hI g1 t2 (by decide +kernel)
  have r1 := RP_fr hr g1 (by decide +kernel)
  refine r_sx (sx_ok hL h0 h6 1 (by decide)) (fun v329 _ => ?_)
  refine r_rv g1.1 (t2.up g1.ty) rfl ?_
  refine r_b2 (mm_lag g1.1 (t2.up g1.ty) i1.1 (by have := i1.2; omega)) (fun v332 S331 p => ?_)
  obtain ⟨g2, m2⟩ := p
  exact hk _ (LW_M hI t1 t2 t3 g1 i1.2 f1 g2 m2 (RP_fr r1 g2 (by decide +kernel)) (by decide +kernel))
theorem c_recover {X : Nat → Int32} {L : Nat} {k : AS → Option Nat → Option Nat → Option Nat → Int32 → Option (Int32 × AS)} {Q : Int32 × AS → Prop} {n : Nat} {S : AS} {x : Int32} (hL : L ≤ 3072) (h0 : 0 ≤ x.toInt) (h6 : x.toInt + 6 ≤ (L : Int)) (hn : n ≤ 600) (hw : LW n S) (hk : ∀ S', LW (n + 1) S' → Ho (k S' (some 4) (some 57) (some 126) (x + 6)) Q) : Ho (f_W_law_B1711 X L k S (some 4) (some 57) (some 126) x) Q := by
  obtain ⟨T, hI, t1, t2, t3, hr⟩ := hw
  unfold f_W_law_B1711
  refine r_sx (sx_ok hL h0 h6 1 (by decide)) (fun v333 _ => ?_)
  refine r_b2 (w_recover hI.1 t1 t3) (fun v335 S334 p => ?_)
  obtain ⟨T1, g1⟩ := p
  have f1 := FT_fr hI.2.2.2.1 g1 (by decide +kernel)
  have i1 := IV_K hI g1 t2 (by decide +kernel)
  have r1 := RP_fr hr g1 (by decide +kernel)
  refine r_sx (sx_ok hL h0 h6 1 (by decide)) (fun v336 _ => ?_)
  refine r_rv g1.1 (t2.up g1.ty) rfl ?_
  refine r_b2 (mm_recover g1.1 (t2.up g1.ty) i1.1 (by have := i1.2; omega)) (fun v339 S338 p => ?_)
  obtain ⟨g2, m2⟩ := p
  exact hk _ (LW_M hI t1 t2 t3 g1 i1.2 f1 g2 m2 (RP_fr r1 g2 (by decide +kernel)) (by decide +kernel))
theorem c_vouch {X : Nat → Int32} {L : Nat} {k : AS → Option Nat → Option Nat → Option Nat → Int32 → Option (Int32 × AS)} {Q : Int32 × AS → Prop} {n : Nat} {S : AS} {x : Int32} (hL : L ≤ 3072) (h0 : 0 ≤ x.toInt) (h6 : x.toInt + 6 ≤ (L : Int)) (hn : n ≤ 600) (hw : LW n S) (hk : ∀ S', LW (n + 1) S' → Ho (k S' (some 4) (some 57) (some 126) (x + 6)) Q) : Ho (f_W_law_B1739 X L k S (some 4) (some 57) (some 126) x) Q := by
  obtain ⟨T, hI, t1, t2, t3, hr⟩ := hw
  unfold f_W_law_B1739
  refine r_sx (sx_ok hL h0 h6 1 (by decide)) (fun v340 _ => ?_)
  refine r_sx (sx_ok hL h0 h6 2 (by decide)) (fun v341 _ => ?_)
  refine r_b2 (w_vouch hI.1 t1 t3) (fun v343 S342 p => ?_)
  obtain ⟨T1, g1⟩ := p
  have f1 := FT_fr hI.2.2.2.1 g1 (by decide +kernel)
  have i1 := IV_K hI g1 t2 (by decide +kernel)
  have r1 := RP_fr hr g1 (by decide +kernel)
  refine r_sx (sx_ok hL h0 h6 1 (by decide)) (fun v344 _ => ?_)
  refine r_sx (sx_ok hL h0 h6 2 (by decide)) (fun v345 _ => ?_)
  refine r_rv g1.1 (t2.up g1.ty) rfl ?_
  refine r_b2 (mm_vouch g1.1 (t2.up g1.ty) i1.1 (by have := i1.2; omega)) (fun v348 S347 p => ?_)
  obtain ⟨g2, m2⟩ := p
  exact hk _ (LW_M hI t1 t2 t3 g1 i1.2 f1 g2 m2 (RP_fr r1 g2 (by decide +kernel)) (by decide +kernel))
theorem c_stop {X : Nat → Int32} {L : Nat} {k : AS → Option Nat → Option Nat → Option Nat → Int32 → Option (Int32 × AS)} {Q : Int32 × AS → Prop} {n : Nat} {S : AS} {x : Int32} (hL : L ≤ 3072) (h0 : 0 ≤ x.toInt) (h6 : x.toInt + 6 ≤ (L : Int)) (hn : n ≤ 600) (hw : LW n S) (hk : ∀ S', LW (n + 1) S' → Ho (k S' (some 4) (some 57) (some 126) (x + 6)) Q) : Ho (f_W_law_B1779 X L k S (some 4) (some 57) (some 126) x) Q := by
  obtain ⟨T, hI, t1, t2, t3, hr⟩ := hw
  unfold f_W_law_B1779
  refine r_sx (sx_ok hL h0 h6 1 (by decide)) (fun v349 _ => ?_)
  refine r_sx (sx_ok hL h0 h6 2 (by decide)) (fun v350 _ => ?_)
  refine r_b2 (w_stop hI.1 t1 t3) (fun v352 S351 p => ?_)
  obtain ⟨T1, g1⟩ := p
  have f1 := FT_fr hI.2.2.2.1 g1 (by decide +kernel)
  have i1 := IV_K hI g1 t2 (by decide +kernel)
  have r1 := RP_fr hr g1 (by decide +kernel)
  refine r_sx (sx_ok hL h0 h6 1 (by decide)) (fun v353 _ => ?_)
  refine r_sx (sx_ok hL h0 h6 2 (by decide)) (fun v354 _ => ?_)
  refine r_rv g1.1 (t2.up g1.ty) rfl ?_
  refine r_b2 (mm_stop g1.1 (t2.up g1.ty) i1.1 (by have := i1.2; omega)) (fun v357 S356 p => ?_)
  obtain ⟨g2, m2⟩ := p
  exact hk _ (LW_M hI t1 t2 t3 g1 i1.2 f1 g2 m2 (RP_fr r1 g2 (by decide +kernel)) (by decide +kernel))
theorem c_finish {X : Nat → Int32} {L : Nat} {k : AS → Option Nat → Option Nat → Option Nat → Int32 → Option (Int32 × AS)} {Q : Int32 × AS → Prop} {n : Nat} {S : AS} {x : Int32} (hL : L ≤ 3072) (h0 : 0 ≤ x.toInt) (h6 : x.toInt + 6 ≤ (L : Int)) (hn : n ≤ 600) (hw : LW n S) (hk : ∀ S', LW (n + 1) S' → Ho (k S' (some 4) (some 57) (some 126) (x + 6)) Q) : Ho (f_W_law_B1819 X L k S (some 4) (some 57) (some 126) x) Q := by
  obtain ⟨T, hI, t1, t2, t3, hr⟩ := hw
  unfold f_W_law_B1819
  refine r_sx (sx_ok hL h0 h6 1 (by decide)) (fun v358 _ => ?_)
  refine r_b2 (w_finish hI.1 t1 t3) (fun v360 S359 p => ?_)
  obtain ⟨T1, g1⟩ := p
  have f1 := FT_fr hI.2.2.2.1 g1 (by decide +kernel)
  have i1 := IV_K hI g1 t2 (by decide +kernel)
  have r1 := RP_fr hr g1 (by decide +kernel)
  refine r_sx (sx_ok hL h0 h6 1 (by decide)) (fun v361 _ => ?_)
  refine r_rv g1.1 (t2.up g1.ty) rfl ?_
  refine r_b2 (mm_finish g1.1 (t2.up g1.ty) i1.1 (by have := i1.2; omega)) (fun v364 S363 p => ?_)
  obtain ⟨g2, m2⟩ := p
  exact hk _ (LW_M hI t1 t2 t3 g1 i1.2 f1 g2 m2 (RP_fr r1 g2 (by decide +kernel)) (by decide +kernel))
theorem c_link {X : Nat → Int32} {L : Nat} {k : AS → Option Nat → Option Nat → Option Nat → Int32 → Option (Int32 × AS)} {Q : Int32 × AS → Prop} {n : Nat} {S : AS} {x : Int32} (hL : L ≤ 3072) (h0 : 0 ≤ x.toInt) (h6 : x.toInt + 6 ≤ (L : Int)) (hn : n ≤ 600) (hw : LW n S) (hk : ∀ S', LW (n + 1) S' → Ho (k S' (some 4) (some 57) (some 126) (x + 6)) Q) : Ho (f_W_law_B1847 X L k S (some 4) (some 57) (some 126) x) Q := by
  obtain ⟨T, hI, t1, t2, t3, hr⟩ := hw
  unfold f_W_law_B1847
  refine r_sx (sx_ok hL h0 h6 1 (by decide)) (fun v365 _ => ?_)
  refine r_sx (sx_ok hL h0 h6 2 (by decide)) (fun v366 _ => ?_)
  refine r_b2 (w_link hI.1 t1 t3) (fun v368 S367 p => ?_)
  obtain ⟨T1, g1⟩ := p
  have f1 := FT_fr hI.2.2.2.1 g1 (by decide +kernel)
  have i1 := IV_K hI g1 t2 (by decide +kernel)
  have r1 := RP_fr hr g1 (by decide +kernel)
  refine r_sx (sx_ok hL h0 h6 1 (by decide)) (fun v369 _ => ?_)
  refine r_sx (sx_ok hL h0 h6 2 (by decide)) (fun v370 _ => ?_)
  refine r_rv g1.1 (t2.up g1.ty) rfl ?_
  refine r_b2 (mm_link g1.1 (t2.up g1.ty) i1.1 (by have := i1.2; omega)) (fun v373 S372 p => ?_)
  obtain ⟨g2, m2⟩ := p
  exact hk _ (LW_M hI t1 t2 t3 g1 i1.2 f1 g2 m2 (RP_fr r1 g2 (by decide +kernel)) (by decide +kernel))
theorem c_foreign {X : Nat → Int32} {L : Nat} {k : AS → Option Nat → Option Nat → Option Nat → Int32 → Option (Int32 × AS)} {Q : Int32 × AS → Prop} {n : Nat} {S : AS} {x : Int32} (hL : L ≤ 3072) (h0 : 0 ≤ x.toInt) (h6 : x.toInt + 6 ≤ (L : Int)) (hn : n ≤ 600) (hw : LW n S) (hk : ∀ S', LW (n + 1) S' → Ho (k S' (some 4) (some 57) (some 126) (x + 6)) Q) : Ho (f_W_law_B1887 X L k S (some 4) (some 57) (some 126) x) Q := by
  obtain ⟨T, hI, t1, t2, t3, hr⟩ := hw
  unfold f_W_law_B1887
  refine r_sx (sx_ok hL h0 h6 1 (by decide)) (fun v374 _ => ?_)
  refine r_b2 (w_foreign hI.1 t1 t3) (fun v376 S375 p => ?_)
  obtain ⟨T1, g1⟩ := p
  have f1 := FT_fr hI.2.2.2.1 g1 (by decide +kernel)
  have i1 := IV_K hI g1 t2 (by decide +kernel)
  have r1 := RP_fr hr g1 (by decide +kernel)
  refine r_sx (sx_ok hL h0 h6 1 (by decide)) (fun v377 _ => ?_)
  refine r_rv g1.1 (t2.up g1.ty) rfl ?_
  refine r_b2 (mm_foreign g1.1 (t2.up g1.ty) i1.1 (by have := i1.2; omega)) (fun v380 S379 p => ?_)
  obtain ⟨g2, m2⟩ := p
  exact hk _ (LW_M hI t1 t2 t3 g1 i1.2 f1 g2 m2 (RP_fr r1 g2 (by decide +kernel)) (by decide +kernel))
theorem c_leave {X : Nat → Int32} {L : Nat} {k : AS → Option Nat → Option Nat → Option Nat → Int32 → Option (Int32 × AS)} {Q : Int32 × AS → Prop} {n : Nat} {S : AS} {x : Int32} (hL : L ≤ 3072) (h0 : 0 ≤ x.toInt) (h6 : x.toInt + 6 ≤ (L : Int)) (hn : n ≤ 600) (hw : LW n S) (hk : ∀ S', LW (n + 1) S' → Ho (k S' (some 4) (some 57) (some 126) (x + 6)) Q) : Ho (f_W_law_B1915 X L k S (some 4) (some 57) (some 126) x) Q := by
  obtain ⟨T, hI, t1, t2, t3, hr⟩ := hw
  unfold f_W_law_B1915
  refine r_sx (sx_ok hL h0 h6 1 (by decide)) (fun v381 _ => ?_)
  refine r_b2 (w_leave hI.1 t1 t3) (fun v383 S382 p => ?_)
  obtain ⟨T1, g1⟩ := p
  have f1 := FT_fr hI.2.2.2.1 g1 (by decide +kernel)
  have i1 := IV_K hI g1 t2 (by decide +kernel)
  have r1 := RP_fr hr g1 (by decide +kernel)
  refine r_sx (sx_ok hL h0 h6 1 (by decide)) (fun v384 _ => ?_)
  refine r_rv g1.1 (t2.up g1.ty) rfl ?_
  refine r_b2 (mm_leave g1.1 (t2.up g1.ty) i1.1 (by have := i1.2; omega)) (fun v387 S386 p => ?_)
  obtain ⟨g2, m2⟩ := p
  exact hk _ (LW_M hI t1 t2 t3 g1 i1.2 f1 g2 m2 (RP_fr r1 g2 (by decide +kernel)) (by decide +kernel))
theorem c_audits {X : Nat → Int32} {L : Nat} {k : AS → Option Nat → Option Nat → Option Nat → Int32 → Option (Int32 × AS)} {Q : Int32 × AS → Prop} {n : Nat} {S : AS} {x : Int32} (hL : L ≤ 3072) (h0 : 0 ≤ x.toInt) (h6 : x.toInt + 6 ≤ (L : Int)) (hn : n ≤ 600) (hw : LW n S) (hk : ∀ S', LW (n + 1) S' → Ho (k S' (some 4) (some 57) (some 126) (x + 6)) Q) : Ho (f_W_law_B1943 X L k S (some 4) (some 57) (some 126) x) Q := by
  obtain ⟨T, hI, t1, t2, t3, hr⟩ := hw
  unfold f_W_law_B1943
  refine r_rv hI.1 t1 rfl ?_
  refine r_b2 (t_K_audits hI.1 t1) (fun v390 S389 p => ?_)
  obtain ⟨e, -⟩ := p
  have e : S389 = S := e
  have g1 : Rl T (99999 :: []) S 10 700 T S389 := by
    rw [e]
    exact Rlweak (Rlrf hI.1) (fun _ z => List.mem_cons_of_mem _ z) (by decide) (by decide)
  have f1 := FT_fr hI.2.2.2.1 g1 (by decide +kernel)
  have i1 := IV_K hI g1 t2 (by decide +kernel)
  have r1 := RP_fr hr g1 (by decide +kernel)
  refine r_rv g1.1 (t2.up g1.ty) rfl ?_
  refine r_b2 (mm_audits g1.1 (t2.up g1.ty) i1.1 (by have := i1.2; omega)) (fun v393 S392 p => ?_)
  obtain ⟨g2, m2⟩ := p
  exact hk _ (LW_M hI t1 t2 t3 g1 i1.2 f1 g2 m2 (RP_fr r1 g2 (by decide +kernel)) (by decide +kernel))
theorem c_audit {X : Nat → Int32} {L : Nat} {k : AS → Option Nat → Option Nat → Option Nat → Int32 → Option (Int32 × AS)} {Q : Int32 × AS → Prop} {n : Nat} {S : AS} {x : Int32} (hL : L ≤ 3072) (h0 : 0 ≤ x.toInt) (h6 : x.toInt + 6 ≤ (L : Int)) (hn : n ≤ 600) (hw : LW n S) (hk : ∀ S', LW (n + 1) S' → Ho (k S' (some 4) (some 57) (some 126) (x + 6)) Q) : Ho (f_W_law_B1956 X L k S (some 4) (some 57) (some 126) x) Q := by
  obtain ⟨T, hI, t1, t2, t3, hr⟩ := hw
  unfold f_W_law_B1956
  refine r_sx (sx_ok hL h0 h6 1 (by decide)) (fun v394 _ => ?_)
  refine r_b2 (w_audit hI.1 t1 t3) (fun v396 S395 p => ?_)
  obtain ⟨T1, g1⟩ := p
  have f1 := FT_fr hI.2.2.2.1 g1 (by decide +kernel)
  have i1 := IV_K hI g1 t2 (by decide +kernel)
  have r1 := RP_fr hr g1 (by decide +kernel)
  refine r_sx (sx_ok hL h0 h6 1 (by decide)) (fun v397 _ => ?_)
  refine r_rv g1.1 (t2.up g1.ty) rfl ?_
  refine r_b2 (mm_audit g1.1 (t2.up g1.ty) i1.1 (by have := i1.2; omega)) (fun v400 S399 p => ?_)
  obtain ⟨g2, m2⟩ := p
  exact hk _ (LW_M hI t1 t2 t3 g1 i1.2 f1 g2 m2 (RP_fr r1 g2 (by decide +kernel)) (by decide +kernel))
theorem c_sum {X : Nat → Int32} {L : Nat} {k : AS → Option Nat → Option Nat → Option Nat → Int32 → Option (Int32 × AS)} {Q : Int32 × AS → Prop} {n : Nat} {S : AS} {x : Int32} (hL : L ≤ 3072) (h0 : 0 ≤ x.toInt) (h6 : x.toInt + 6 ≤ (L : Int)) (hn : n ≤ 600) (hw : LW n S) (hk : ∀ S', LW (n + 1) S' → Ho (k S' (some 4) (some 57) (some 126) (x + 6)) Q) : Ho (f_W_law_B1984 X L k S (some 4) (some 57) (some 126) x) Q := by
  obtain ⟨T, hI, t1, t2, t3, hr⟩ := hw
  unfold f_W_law_B1984
  refine r_rv hI.1 t1 rfl ?_
  refine r_b2 (t_K_sum hI.1 t1) (fun v403 S402 p => ?_)
  obtain ⟨e, -⟩ := p
  have e : S402 = S := e
  have g1 : Rl T (99999 :: []) S 10 700 T S402 := by
    rw [e]
    exact Rlweak (Rlrf hI.1) (fun _ z => List.mem_cons_of_mem _ z) (by decide) (by decide)
  have f1 := FT_fr hI.2.2.2.1 g1 (by decide +kernel)
  have i1 := IV_K hI g1 t2 (by decide +kernel)
  have r1 := RP_fr hr g1 (by decide +kernel)
  refine r_rv g1.1 (t2.up g1.ty) rfl ?_
  refine r_b2 (mm_sum g1.1 (t2.up g1.ty) i1.1 (by have := i1.2; omega)) (fun v406 S405 p => ?_)
  obtain ⟨g2, m2⟩ := p
  exact hk _ (LW_M hI t1 t2 t3 g1 i1.2 f1 g2 m2 (RP_fr r1 g2 (by decide +kernel)) (by decide +kernel))
theorem c_sumAnew {X : Nat → Int32} {L : Nat} {k : AS → Option Nat → Option Nat → Option Nat → Int32 → Option (Int32 × AS)} {Q : Int32 × AS → Prop} {n : Nat} {S : AS} {x : Int32} (hL : L ≤ 3072) (h0 : 0 ≤ x.toInt) (h6 : x.toInt + 6 ≤ (L : Int)) (hn : n ≤ 600) (hw : LW n S) (hk : ∀ S', LW (n + 1) S' → Ho (k S' (some 4) (some 57) (some 126) (x + 6)) Q) : Ho (f_W_law_B1997 X L k S (some 4) (some 57) (some 126) x) Q := by
  obtain ⟨T, hI, t1, t2, t3, hr⟩ := hw
  unfold f_W_law_B1997
  refine r_sx (sx_ok hL h0 h6 1 (by decide)) (fun v407 _ => ?_)
  refine r_b2 (w_sumAnew hI.1 t1 t3) (fun v409 S408 p => ?_)
  obtain ⟨T1, g1⟩ := p
  have f1 := FT_fr hI.2.2.2.1 g1 (by decide +kernel)
  have i1 := IV_K hI g1 t2 (by decide +kernel)
  have r1 := RP_fr hr g1 (by decide +kernel)
  refine r_sx (sx_ok hL h0 h6 1 (by decide)) (fun v410 _ => ?_)
  refine r_rv g1.1 (t2.up g1.ty) rfl ?_
  refine r_b2 (mm_sumAnew g1.1 (t2.up g1.ty) i1.1 (by have := i1.2; omega)) (fun v413 S412 p => ?_)
  obtain ⟨g2, m2⟩ := p
  exact hk _ (LW_M hI t1 t2 t3 g1 i1.2 f1 g2 m2 (RP_fr r1 g2 (by decide +kernel)) (by decide +kernel))
