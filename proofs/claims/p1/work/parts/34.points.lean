/-! ===== p1: points ===== -/
theorem k_points0 (a b t : Int32) (ha : ¬ ((0 : Int32) ≤ a ∧ a ≤ 2)) : f_K_points kr_Z (some 4) a b t = some (.inr "java/lang/IllegalArgumentException", wX kr_Z) := by
  unfold f_K_points
  rw [q_Kw, kr_b2_s, kr_bi_f ha, q_Kreq, kr_bx_r]
theorem n_points0 (a b t : Int32) (ha : ¬ ((0 : Int32) ≤ a ∧ a ≤ 2)) : f_M_points (wX kr_Z) (some 57) a b t = some ((0 : Int32), kr_M1) := by
  unfold f_M_points
  rw [q_Mi, kr_b2_s, kr_bi_f ha, if_pos rfl]
  unfold f_M_points_B31 f_M_points_B32
  rw [zrvX, Option.bind_some, mZ_may, kr_b2_s, if_pos rfl]
theorem k_points1 (a b : Int32) (ha : ((0 : Int32) ≤ a ∧ a ≤ 2)) (hb : ¬ ((0 : Int32) ≤ b ∧ b ≤ 5)) : f_K_points kr_Z (some 4) a b 0 = some (.inr "java/lang/IllegalArgumentException", wX kr_Z) := by
  unfold f_K_points
  rw [q_Kw, kr_b2_s, kr_bi_t ha, q_Kreq1, kr_bx_l, if_pos rfl]
  unfold f_K_points_B19
  rw [q_Kw, kr_b2_s, kr_bi_f hb, q_Kreq, kr_bx_r]
theorem n_points1 (a b : Int32) (ha : ((0 : Int32) ≤ a ∧ a ≤ 2)) (hb : ¬ ((0 : Int32) ≤ b ∧ b ≤ 5)) : f_M_points (wX kr_Z) (some 57) a b 0 = some ((0 : Int32), kr_M1) := by
  unfold f_M_points
  rw [q_Mi, kr_b2_s, kr_bi_t ha, if_neg (by decide), if_pos rfl]
  unfold f_M_points_B20
  rw [q_Mi, kr_b2_s, kr_bi_f hb, if_pos rfl]
  unfold f_M_points_B31 f_M_points_B32
  rw [zrvX, Option.bind_some, mZ_may, kr_b2_s, if_pos rfl]
theorem k_points2 (a b : Int32) (ha : ((0 : Int32) ≤ a ∧ a ≤ 2)) (hb : ¬ ((-1 : Int32) ≤ b ∧ b ≤ 5)) : f_K_points kr_Z (some 4) a b 1 = some (.inr "java/lang/IllegalArgumentException", wX kr_Z) := by
  unfold f_K_points
  rw [q_Kw, kr_b2_s, kr_bi_t ha, q_Kreq1, kr_bx_l, if_neg (by decide)]
  unfold f_K_points_B19
  rw [q_Kw, kr_b2_s, kr_bi_f hb, q_Kreq, kr_bx_r]
theorem n_points2 (a b : Int32) (ha : ((0 : Int32) ≤ a ∧ a ≤ 2)) (hb : ¬ ((-1 : Int32) ≤ b ∧ b ≤ 5)) : f_M_points (wX kr_Z) (some 57) a b 1 = some ((0 : Int32), kr_M1) := by
  unfold f_M_points
  rw [q_Mi, kr_b2_s, kr_bi_t ha, if_neg (by decide), if_neg (by decide)]
  unfold f_M_points_B20
  rw [q_Mi, kr_b2_s, kr_bi_f hb, if_pos rfl]
  unfold f_M_points_B31 f_M_points_B32
  rw [zrvX, Option.bind_some, mZ_may, kr_b2_s, if_pos rfl]
theorem w_points (a b t : Int32) (h : f_K_points kr_Z (some 4) a b t = some (.inr "java/lang/IllegalArgumentException", wX kr_Z)) : f_W_points kr_Z (some 4) a b t (some 126) = some ((1 : Int32), wX kr_Z) := by
  unfold f_W_points
  rw [zrv22, Option.bind_some, h, kr_bh_r, if_pos rfl]
theorem o_points (X : Nat → Int32) : kr_good (f_W_law_B669 X 6 (kr_K6 X) kr_Z (some 4) (some 57) (some 126) (0 : Int32)) = true := by
  by_cases ht : X 3 = 0
  · simp only [f_W_law_B669, f_W_law_B696, f_W_law_B729, kr_sx1, kr_sx2, kr_sx3, Option.bind_some, kr_tail, ht, ↓reduceIte]
    generalize X 1 = a
    generalize X 2 = b
    by_cases ha : ((0 : Int32) ≤ a ∧ a ≤ 2)
    · by_cases hb : ((0 : Int32) ≤ b ∧ b ≤ 5)
      · obtain ⟨n, hn, rfl⟩ := kr_rng ha
        obtain ⟨m, hm, rfl⟩ := kr_rng hb
        clear ha hb ht
        revert m
        revert n
        decide +kernel
      · rw [w_points _ _ _ (k_points1 a b ha hb), kr_b2_s, zrvX, Option.bind_some, n_points1 a b ha hb, kr_b2_s]
        clear ht
        decide +kernel
    · rw [w_points _ _ _ (k_points0 a b _ ha), kr_b2_s, zrvX, Option.bind_some, n_points0 a b _ ha, kr_b2_s]
      clear ht
      decide +kernel
  · simp only [f_W_law_B669, f_W_law_B696, f_W_law_B729, kr_sx1, kr_sx2, kr_sx3, Option.bind_some, kr_tail, ht, ↓reduceIte]
    generalize X 1 = a
    generalize X 2 = b
    by_cases ha : ((0 : Int32) ≤ a ∧ a ≤ 2)
    · by_cases hb : ((-1 : Int32) ≤ b ∧ b ≤ 5)
      · obtain ⟨n, hn, rfl⟩ := kr_rng ha
        obtain ⟨m, hm, rfl⟩ := kr_rng hb
        clear ha hb ht
        revert m
        revert n
        decide +kernel
      · rw [w_points _ _ _ (k_points2 a b ha hb), kr_b2_s, zrvX, Option.bind_some, n_points2 a b ha hb, kr_b2_s]
        clear ht
        decide +kernel
    · rw [w_points _ _ _ (k_points0 a b _ ha), kr_b2_s, zrvX, Option.bind_some, n_points0 a b _ ha, kr_b2_s]
      clear ht
      decide +kernel
/-! ===== p1: step ===== -/
theorem q_Kn (S : AS) (v : Int32) : f_K_isNext S v = some (kr_bi (-1 ≤ v ∧ v ≤ 11), S) := by
  unfold f_K_isNext
  rw [q_Kw, kr_b2_s, kr_bi_z, Option.bind_some]
theorem q_Mn (S : AS) (v : Int32) : f_M_isNext S v = some (kr_bi (-1 ≤ v ∧ v ≤ 11), S) := by
  unfold f_M_isNext
  rw [q_Mi, kr_b2_s, kr_bi_z, Option.bind_some]
def kr_st0 (k a b y n : Int32) : Prop := f_K_isStep kr_Z k a b y n = some ((0 : Int32), kr_Z) ∧ ∀ S : AS, f_M_step S (some 57) k a b y n = f_M_step_B113 S (some 57) k a b y n
def kr_st1 (k a b y n : Int32) : Prop := f_K_isStep kr_Z k a b y n = some ((1 : Int32), kr_Z) ∧ ∀ S : AS, f_M_step S (some 57) k a b y n = f_M_step_B109 S (some 57) k a b y n
theorem km_0 (S : AS) : f_K_mostFirst S 0 = some ((2 : Int32), S) := by
  unfold f_K_mostFirst
  rw [if_pos rfl]
theorem st_0 (a b y n : Int32) : kr_st0 0 a b y n ∨ kr_st1 0 a b y n := by
  by_cases ha : ((0 : Int32) ≤ a ∧ a ≤ 2)
  · by_cases hb : ((1 : Int32) ≤ b ∧ b ≤ 3)
    · by_cases hy : ((-1 : Int32) ≤ y ∧ y ≤ 11)
      · by_cases hn : ((-1 : Int32) ≤ n ∧ n ≤ 11)
        · refine Or.inr ⟨?_, ?_⟩
          · unfold f_K_isStep
            rw [q_Kw, kr_b2_s, kr_bi_t (by decide), if_neg (by decide), km_0, kr_b2_s, q_Kw, kr_b2_s]
            rw [kr_bi_t ha, if_neg (by decide), if_pos rfl]
            unfold f_K_isStep_B34
            rw [if_pos rfl]
            unfold f_K_isStep_B43
            rw [q_Kw, kr_b2_s]
            rw [kr_bi_t hb, if_neg (by decide)]
            rw [if_neg (by decide), q_Kn, kr_b2_s]
            rw [kr_bi_t hy, if_neg (by decide), q_Kn, kr_b2_s]
            rw [kr_bi_t hn, if_neg (by decide)]
            rfl
          · intro S
            unfold f_M_step
            rw [if_pos rfl]
            unfold f_M_step_B9
            unfold f_M_step_B34
            rw [q_Mi, kr_b2_s, kr_bi_t (by decide), if_neg (by decide), q_Mi, kr_b2_s]
            rw [kr_bi_t ha, if_neg (by decide), if_pos rfl, q_Mi, kr_b2_s]
            rw [kr_bi_t hb, if_neg (by decide)]
            unfold f_M_step_B76 f_M_step_B81
            rw [if_neg (by decide)]
            rw [if_neg (by decide), q_Mn, kr_b2_s]
            rw [kr_bi_t hy, if_neg (by decide), q_Mn, kr_b2_s]
            rw [kr_bi_t hn, if_neg (by decide)]
        · refine Or.inl ⟨?_, ?_⟩
          · unfold f_K_isStep
            rw [q_Kw, kr_b2_s, kr_bi_t (by decide), if_neg (by decide), km_0, kr_b2_s, q_Kw, kr_b2_s]
            rw [kr_bi_t ha, if_neg (by decide), if_pos rfl]
            unfold f_K_isStep_B34
            rw [if_pos rfl]
            unfold f_K_isStep_B43
            rw [q_Kw, kr_b2_s]
            rw [kr_bi_t hb, if_neg (by decide)]
            rw [if_neg (by decide), q_Kn, kr_b2_s]
            rw [kr_bi_t hy, if_neg (by decide), q_Kn, kr_b2_s]
            rw [kr_bi_f hn, if_pos rfl]
          · intro S
            unfold f_M_step
            rw [if_pos rfl]
            unfold f_M_step_B9
            unfold f_M_step_B34
            rw [q_Mi, kr_b2_s, kr_bi_t (by decide), if_neg (by decide), q_Mi, kr_b2_s]
            rw [kr_bi_t ha, if_neg (by decide), if_pos rfl, q_Mi, kr_b2_s]
            rw [kr_bi_t hb, if_neg (by decide)]
            unfold f_M_step_B76 f_M_step_B81
            rw [if_neg (by decide)]
            rw [if_neg (by decide), q_Mn, kr_b2_s]
            rw [kr_bi_t hy, if_neg (by decide), q_Mn, kr_b2_s]
            rw [kr_bi_f hn, if_pos rfl]
      · refine Or.inl ⟨?_, ?_⟩
        · unfold f_K_isStep
          rw [q_Kw, kr_b2_s, kr_bi_t (by decide), if_neg (by decide), km_0, kr_b2_s, q_Kw, kr_b2_s]
          rw [kr_bi_t ha, if_neg (by decide), if_pos rfl]
          unfold f_K_isStep_B34
          rw [if_pos rfl]
          unfold f_K_isStep_B43
          rw [q_Kw, kr_b2_s]
          rw [kr_bi_t hb, if_neg (by decide)]
          rw [if_neg (by decide), q_Kn, kr_b2_s]
          rw [kr_bi_f hy, if_pos rfl]
        · intro S
          unfold f_M_step
          rw [if_pos rfl]
          unfold f_M_step_B9
          unfold f_M_step_B34
          rw [q_Mi, kr_b2_s, kr_bi_t (by decide), if_neg (by decide), q_Mi, kr_b2_s]
          rw [kr_bi_t ha, if_neg (by decide), if_pos rfl, q_Mi, kr_b2_s]
          rw [kr_bi_t hb, if_neg (by decide)]
          unfold f_M_step_B76 f_M_step_B81
          rw [if_neg (by decide)]
          rw [if_neg (by decide), q_Mn, kr_b2_s]
          rw [kr_bi_f hy, if_pos rfl]
    · refine Or.inl ⟨?_, ?_⟩
      · unfold f_K_isStep
        rw [q_Kw, kr_b2_s, kr_bi_t (by decide), if_neg (by decide), km_0, kr_b2_s, q_Kw, kr_b2_s]
        rw [kr_bi_t ha, if_neg (by decide), if_pos rfl]
        unfold f_K_isStep_B34
        rw [if_pos rfl]
        unfold f_K_isStep_B43
        rw [q_Kw, kr_b2_s]
        rw [kr_bi_f hb, if_pos rfl]
      · intro S
        unfold f_M_step
        rw [if_pos rfl]
        unfold f_M_step_B9
        unfold f_M_step_B34
        rw [q_Mi, kr_b2_s, kr_bi_t (by decide), if_neg (by decide), q_Mi, kr_b2_s]
        rw [kr_bi_t ha, if_neg (by decide), if_pos rfl, q_Mi, kr_b2_s]
        rw [kr_bi_f hb, if_pos rfl]
        unfold f_M_step_B80 f_M_step_B81
        rw [if_pos rfl]
  · refine Or.inl ⟨?_, ?_⟩
    · unfold f_K_isStep
      rw [q_Kw, kr_b2_s, kr_bi_t (by decide), if_neg (by decide), km_0, kr_b2_s, q_Kw, kr_b2_s]
      rw [kr_bi_f ha, if_pos rfl]
    · intro S
      unfold f_M_step
      rw [if_pos rfl]
      unfold f_M_step_B9
      unfold f_M_step_B34
      rw [q_Mi, kr_b2_s, kr_bi_t (by decide), if_neg (by decide), q_Mi, kr_b2_s]
      rw [kr_bi_f ha, if_pos rfl]
      unfold f_M_step_B80 f_M_step_B81
      rw [if_pos rfl]
theorem km_1 (S : AS) : f_K_mostFirst S 1 = some ((0 : Int32), S) := by
  unfold f_K_mostFirst
  rw [if_neg (by decide), if_pos rfl]
theorem st_1 (a b y n : Int32) : kr_st0 1 a b y n ∨ kr_st1 1 a b y n := by
  by_cases ha : ((0 : Int32) ≤ a ∧ a ≤ 0)
  · by_cases hb : ((0 : Int32) ≤ b ∧ b ≤ 0)
    · by_cases hy : ((-1 : Int32) ≤ y ∧ y ≤ 11)
      · by_cases hn : ((-1 : Int32) ≤ n ∧ n ≤ 11)
        · refine Or.inr ⟨?_, ?_⟩
          · unfold f_K_isStep
            rw [q_Kw, kr_b2_s, kr_bi_t (by decide), if_neg (by decide), km_1, kr_b2_s, q_Kw, kr_b2_s]
            rw [kr_bi_t ha, if_neg (by decide), if_neg (by decide)]
            unfold f_K_isStep_B34
            rw [if_neg (by decide)]
            unfold f_K_isStep_B43
            rw [q_Kw, kr_b2_s]
            rw [kr_bi_t hb, if_neg (by decide)]
            rw [if_neg (by decide), q_Kn, kr_b2_s]
            rw [kr_bi_t hy, if_neg (by decide), q_Kn, kr_b2_s]
            rw [kr_bi_t hn, if_neg (by decide)]
            rfl
          · intro S
            unfold f_M_step
            rw [if_neg (by decide), if_neg (by decide), if_neg (by decide), if_neg (by decide)]
            unfold f_M_step_B34
            rw [q_Mi, kr_b2_s, kr_bi_t (by decide), if_neg (by decide), q_Mi, kr_b2_s]
            rw [kr_bi_t ha, if_neg (by decide), if_neg (by decide)]
            rw [if_pos (Int32.le_antisymm hb.2 hb.1)]
            unfold f_M_step_B76 f_M_step_B81
            rw [if_neg (by decide)]
            rw [if_neg (by decide), q_Mn, kr_b2_s]
            rw [kr_bi_t hy, if_neg (by decide), q_Mn, kr_b2_s]
            rw [kr_bi_t hn, if_neg (by decide)]
        · refine Or.inl ⟨?_, ?_⟩
          · unfold f_K_isStep
            rw [q_Kw, kr_b2_s, kr_bi_t (by decide), if_neg (by decide), km_1, kr_b2_s, q_Kw, kr_b2_s]
            rw [kr_bi_t ha, if_neg (by decide), if_neg (by decide)]
            unfold f_K_isStep_B34
            rw [if_neg (by decide)]
            unfold f_K_isStep_B43
            rw [q_Kw, kr_b2_s]
            rw [kr_bi_t hb, if_neg (by decide)]
            rw [if_neg (by decide), q_Kn, kr_b2_s]
            rw [kr_bi_t hy, if_neg (by decide), q_Kn, kr_b2_s]
            rw [kr_bi_f hn, if_pos rfl]
          · intro S
            unfold f_M_step
            rw [if_neg (by decide), if_neg (by decide), if_neg (by decide), if_neg (by decide)]
            unfold f_M_step_B34
            rw [q_Mi, kr_b2_s, kr_bi_t (by decide), if_neg (by decide), q_Mi, kr_b2_s]
            rw [kr_bi_t ha, if_neg (by decide), if_neg (by decide)]
            rw [if_pos (Int32.le_antisymm hb.2 hb.1)]
            unfold f_M_step_B76 f_M_step_B81
            rw [if_neg (by decide)]
            rw [if_neg (by decide), q_Mn, kr_b2_s]
            rw [kr_bi_t hy, if_neg (by decide), q_Mn, kr_b2_s]
            rw [kr_bi_f hn, if_pos rfl]
      · refine Or.inl ⟨?_, ?_⟩
        · unfold f_K_isStep
          rw [q_Kw, kr_b2_s, kr_bi_t (by decide), if_neg (by decide), km_1, kr_b2_s, q_Kw, kr_b2_s]
          rw [kr_bi_t ha, if_neg (by decide), if_neg (by decide)]
          unfold f_K_isStep_B34
          rw [if_neg (by decide)]
          unfold f_K_isStep_B43
          rw [q_Kw, kr_b2_s]
          rw [kr_bi_t hb, if_neg (by decide)]
          rw [if_neg (by decide), q_Kn, kr_b2_s]
          rw [kr_bi_f hy, if_pos rfl]
        · intro S
          unfold f_M_step
          rw [if_neg (by decide), if_neg (by decide), if_neg (by decide), if_neg (by decide)]
          unfold f_M_step_B34
          rw [q_Mi, kr_b2_s, kr_bi_t (by decide), if_neg (by decide), q_Mi, kr_b2_s]
          rw [kr_bi_t ha, if_neg (by decide), if_neg (by decide)]
          rw [if_pos (Int32.le_antisymm hb.2 hb.1)]
          unfold f_M_step_B76 f_M_step_B81
          rw [if_neg (by decide)]
          rw [if_neg (by decide), q_Mn, kr_b2_s]
          rw [kr_bi_f hy, if_pos rfl]
    · refine Or.inl ⟨?_, ?_⟩
      · unfold f_K_isStep
        rw [q_Kw, kr_b2_s, kr_bi_t (by decide), if_neg (by decide), km_1, kr_b2_s, q_Kw, kr_b2_s]
        rw [kr_bi_t ha, if_neg (by decide), if_neg (by decide)]
        unfold f_K_isStep_B34
        rw [if_neg (by decide)]
        unfold f_K_isStep_B43
        rw [q_Kw, kr_b2_s]
        rw [kr_bi_f hb, if_pos rfl]
      · intro S
        unfold f_M_step
        rw [if_neg (by decide), if_neg (by decide), if_neg (by decide), if_neg (by decide)]
        unfold f_M_step_B34
        rw [q_Mi, kr_b2_s, kr_bi_t (by decide), if_neg (by decide), q_Mi, kr_b2_s]
        rw [kr_bi_t ha, if_neg (by decide), if_neg (by decide)]
        rw [if_neg (fun q => hb (by rw [q]; decide))]
        unfold f_M_step_B80 f_M_step_B81
        rw [if_pos rfl]
  · refine Or.inl ⟨?_, ?_⟩
    · unfold f_K_isStep
      rw [q_Kw, kr_b2_s, kr_bi_t (by decide), if_neg (by decide), km_1, kr_b2_s, q_Kw, kr_b2_s]
      rw [kr_bi_f ha, if_pos rfl]
    · intro S
      unfold f_M_step
      rw [if_neg (by decide), if_neg (by decide), if_neg (by decide), if_neg (by decide)]
      unfold f_M_step_B34
      rw [q_Mi, kr_b2_s, kr_bi_t (by decide), if_neg (by decide), q_Mi, kr_b2_s]
      rw [kr_bi_f ha, if_pos rfl]
      unfold f_M_step_B80 f_M_step_B81
      rw [if_pos rfl]
theorem km_2 (S : AS) : f_K_mostFirst S 2 = some ((20 : Int32), S) := by
  unfold f_K_mostFirst
  rw [if_neg (by decide), if_neg (by decide), if_pos rfl]
theorem st_2 (a b y n : Int32) : kr_st0 2 a b y n ∨ kr_st1 2 a b y n := by
  by_cases ha : ((0 : Int32) ≤ a ∧ a ≤ 20)
  · by_cases hb : ((0 : Int32) ≤ b ∧ b ≤ 0)
    · by_cases hy : ((-1 : Int32) ≤ y ∧ y ≤ 11)
      · by_cases hn : ((-1 : Int32) ≤ n ∧ n ≤ 11)
        · refine Or.inr ⟨?_, ?_⟩
          · unfold f_K_isStep
            rw [q_Kw, kr_b2_s, kr_bi_t (by decide), if_neg (by decide), km_2, kr_b2_s, q_Kw, kr_b2_s]
            rw [kr_bi_t ha, if_neg (by decide), if_neg (by decide)]
            unfold f_K_isStep_B34
            rw [if_neg (by decide)]
            unfold f_K_isStep_B43
            rw [q_Kw, kr_b2_s]
            rw [kr_bi_t hb, if_neg (by decide)]
            rw [if_neg (by decide), q_Kn, kr_b2_s]
            rw [kr_bi_t hy, if_neg (by decide), q_Kn, kr_b2_s]
            rw [kr_bi_t hn, if_neg (by decide)]
            rfl
          · intro S
            unfold f_M_step
            rw [if_neg (by decide), if_neg (by decide), if_pos rfl]
            unfold f_M_step_B34
            rw [q_Mi, kr_b2_s, kr_bi_t (by decide), if_neg (by decide), q_Mi, kr_b2_s]
            rw [kr_bi_t ha, if_neg (by decide), if_neg (by decide)]
            rw [if_pos (Int32.le_antisymm hb.2 hb.1)]
            unfold f_M_step_B76 f_M_step_B81
            rw [if_neg (by decide)]
            rw [if_neg (by decide), q_Mn, kr_b2_s]
            rw [kr_bi_t hy, if_neg (by decide), q_Mn, kr_b2_s]
            rw [kr_bi_t hn, if_neg (by decide)]
        · refine Or.inl ⟨?_, ?_⟩
          · unfold f_K_isStep
            rw [q_Kw, kr_b2_s, kr_bi_t (by decide), if_neg (by decide), km_2, kr_b2_s, q_Kw, kr_b2_s]
            rw [kr_bi_t ha, if_neg (by decide), if_neg (by decide)]
            unfold f_K_isStep_B34
            rw [if_neg (by decide)]
            unfold f_K_isStep_B43
            rw [q_Kw, kr_b2_s]
            rw [kr_bi_t hb, if_neg (by decide)]
            rw [if_neg (by decide), q_Kn, kr_b2_s]
            rw [kr_bi_t hy, if_neg (by decide), q_Kn, kr_b2_s]
            rw [kr_bi_f hn, if_pos rfl]
          · intro S
            unfold f_M_step
            rw [if_neg (by decide), if_neg (by decide), if_pos rfl]
            unfold f_M_step_B34
            rw [q_Mi, kr_b2_s, kr_bi_t (by decide), if_neg (by decide), q_Mi, kr_b2_s]
            rw [kr_bi_t ha, if_neg (by decide), if_neg (by decide)]
            rw [if_pos (Int32.le_antisymm hb.2 hb.1)]
            unfold f_M_step_B76 f_M_step_B81
            rw [if_neg (by decide)]
            rw [if_neg (by decide), q_Mn, kr_b2_s]
            rw [kr_bi_t hy, if_neg (by decide), q_Mn, kr_b2_s]
            rw [kr_bi_f hn, if_pos rfl]
      · refine Or.inl ⟨?_, ?_⟩
        · unfold f_K_isStep
          rw [q_Kw, kr_b2_s, kr_bi_t (by decide), if_neg (by decide), km_2, kr_b2_s, q_Kw, kr_b2_s]
          rw [kr_bi_t ha, if_neg (by decide), if_neg (by decide)]
          unfold f_K_isStep_B34
          rw [if_neg (by decide)]
          unfold f_K_isStep_B43
          rw [q_Kw, kr_b2_s]
          rw [kr_bi_t hb, if_neg (by decide)]
          rw [if_neg (by decide), q_Kn, kr_b2_s]
          rw [kr_bi_f hy, if_pos rfl]
        · intro S
          unfold f_M_step
          rw [if_neg (by decide), if_neg (by decide), if_pos rfl]
          unfold f_M_step_B34
          rw [q_Mi, kr_b2_s, kr_bi_t (by decide), if_neg (by decide), q_Mi, kr_b2_s]
          rw [kr_bi_t ha, if_neg (by decide), if_neg (by decide)]
          rw [if_pos (Int32.le_antisymm hb.2 hb.1)]
          unfold f_M_step_B76 f_M_step_B81
          rw [if_neg (by decide)]
          rw [if_neg (by decide), q_Mn, kr_b2_s]
          rw [kr_bi_f hy, if_pos rfl]
    · refine Or.inl ⟨?_, ?_⟩
      · unfold f_K_isStep
        rw [q_Kw, kr_b2_s, kr_bi_t (by decide), if_neg (by decide), km_2, kr_b2_s, q_Kw, kr_b2_s]
        rw [kr_bi_t ha, if_neg (by decide), if_neg (by decide)]
        unfold f_K_isStep_B34
        rw [if_neg (by decide)]
        unfold f_K_isStep_B43
        rw [q_Kw, kr_b2_s]
        rw [kr_bi_f hb, if_pos rfl]
      · intro S
        unfold f_M_step
        rw [if_neg (by decide), if_neg (by decide), if_pos rfl]
        unfold f_M_step_B34
        rw [q_Mi, kr_b2_s, kr_bi_t (by decide), if_neg (by decide), q_Mi, kr_b2_s]
        rw [kr_bi_t ha, if_neg (by decide), if_neg (by decide)]
        rw [if_neg (fun q => hb (by rw [q]; decide))]
        unfold f_M_step_B80 f_M_step_B81
        rw [if_pos rfl]
  · refine Or.inl ⟨?_, ?_⟩
    · unfold f_K_isStep
      rw [q_Kw, kr_b2_s, kr_bi_t (by decide), if_neg (by decide), km_2, kr_b2_s, q_Kw, kr_b2_s]
      rw [kr_bi_f ha, if_pos rfl]
    · intro S
      unfold f_M_step
      rw [if_neg (by decide), if_neg (by decide), if_pos rfl]
      unfold f_M_step_B34
      rw [q_Mi, kr_b2_s, kr_bi_t (by decide), if_neg (by decide), q_Mi, kr_b2_s]
      rw [kr_bi_f ha, if_pos rfl]
      unfold f_M_step_B80 f_M_step_B81
      rw [if_pos rfl]
theorem km_3 (S : AS) : f_K_mostFirst S 3 = some ((2 : Int32), S) := by
  unfold f_K_mostFirst
  rw [if_neg (by decide), if_neg (by decide), if_neg (by decide), if_pos rfl]
theorem st_3 (a b y n : Int32) : kr_st0 3 a b y n ∨ kr_st1 3 a b y n := by
  by_cases ha : ((0 : Int32) ≤ a ∧ a ≤ 2)
  · by_cases hb : ((0 : Int32) ≤ b ∧ b ≤ 0)
    · by_cases hy : ((-1 : Int32) ≤ y ∧ y ≤ 11)
      · by_cases hn : ((-1 : Int32) ≤ n ∧ n ≤ 11)
        · refine Or.inr ⟨?_, ?_⟩
          · unfold f_K_isStep
            rw [q_Kw, kr_b2_s, kr_bi_t (by decide), if_neg (by decide), km_3, kr_b2_s, q_Kw, kr_b2_s]
            rw [kr_bi_t ha, if_neg (by decide), if_neg (by decide)]
            unfold f_K_isStep_B34
            rw [if_neg (by decide)]
            unfold f_K_isStep_B43
            rw [q_Kw, kr_b2_s]
            rw [kr_bi_t hb, if_neg (by decide)]
            rw [if_neg (by decide), q_Kn, kr_b2_s]
            rw [kr_bi_t hy, if_neg (by decide), q_Kn, kr_b2_s]
            rw [kr_bi_t hn, if_neg (by decide)]
            rfl
          · intro S
            unfold f_M_step
            rw [if_neg (by decide), if_pos rfl]
            unfold f_M_step_B9
            unfold f_M_step_B34
            rw [q_Mi, kr_b2_s, kr_bi_t (by decide), if_neg (by decide), q_Mi, kr_b2_s]
            rw [kr_bi_t ha, if_neg (by decide), if_neg (by decide)]
            rw [if_pos (Int32.le_antisymm hb.2 hb.1)]
            unfold f_M_step_B76 f_M_step_B81
            rw [if_neg (by decide)]
            rw [if_neg (by decide), q_Mn, kr_b2_s]
            rw [kr_bi_t hy, if_neg (by decide), q_Mn, kr_b2_s]
            rw [kr_bi_t hn, if_neg (by decide)]
        · refine Or.inl ⟨?_, ?_⟩
          · unfold f_K_isStep
            rw [q_Kw, kr_b2_s, kr_bi_t (by decide), if_neg (by decide), km_3, kr_b2_s, q_Kw, kr_b2_s]
            rw [kr_bi_t ha, if_neg (by decide), if_neg (by decide)]
            unfold f_K_isStep_B34
            rw [if_neg (by decide)]
            unfold f_K_isStep_B43
            rw [q_Kw, kr_b2_s]
            rw [kr_bi_t hb, if_neg (by decide)]
            rw [if_neg (by decide), q_Kn, kr_b2_s]
            rw [kr_bi_t hy, if_neg (by decide), q_Kn, kr_b2_s]
            rw [kr_bi_f hn, if_pos rfl]
          · intro S
            unfold f_M_step
            rw [if_neg (by decide), if_pos rfl]
            unfold f_M_step_B9
            unfold f_M_step_B34
            rw [q_Mi, kr_b2_s, kr_bi_t (by decide), if_neg (by decide), q_Mi, kr_b2_s]
            rw [kr_bi_t ha, if_neg (by decide), if_neg (by decide)]
            rw [if_pos (Int32.le_antisymm hb.2 hb.1)]
            unfold f_M_step_B76 f_M_step_B81
            rw [if_neg (by decide)]
            rw [if_neg (by decide), q_Mn, kr_b2_s]
            rw [kr_bi_t hy, if_neg (by decide), q_Mn, kr_b2_s]
            rw [kr_bi_f hn, if_pos rfl]
      · refine Or.inl ⟨?_, ?_⟩
        · unfold f_K_isStep
          rw [q_Kw, kr_b2_s, kr_bi_t (by decide), if_neg (by decide), km_3, kr_b2_s, q_Kw, kr_b2_s]
          rw [kr_bi_t ha, if_neg (by decide), if_neg (by decide)]
          unfold f_K_isStep_B34
          rw [if_neg (by decide)]
          unfold f_K_isStep_B43
          rw [q_Kw, kr_b2_s]
          rw [kr_bi_t hb, if_neg (by decide)]
          rw [if_neg (by decide), q_Kn, kr_b2_s]
          rw [kr_bi_f hy, if_pos rfl]
        · intro S
          unfold f_M_step
          rw [if_neg (by decide), if_pos rfl]
          unfold f_M_step_B9
          unfold f_M_step_B34
          rw [q_Mi, kr_b2_s, kr_bi_t (by decide), if_neg (by decide), q_Mi, kr_b2_s]
          rw [kr_bi_t ha, if_neg (by decide), if_neg (by decide)]
          rw [if_pos (Int32.le_antisymm hb.2 hb.1)]
          unfold f_M_step_B76 f_M_step_B81
          rw [if_neg (by decide)]
          rw [if_neg (by decide), q_Mn, kr_b2_s]
          rw [kr_bi_f hy, if_pos rfl]
    · refine Or.inl ⟨?_, ?_⟩
      · unfold f_K_isStep
        rw [q_Kw, kr_b2_s, kr_bi_t (by decide), if_neg (by decide), km_3, kr_b2_s, q_Kw, kr_b2_s]
        rw [kr_bi_t ha, if_neg (by decide), if_neg (by decide)]
        unfold f_K_isStep_B34
        rw [if_neg (by decide)]
        unfold f_K_isStep_B43
        rw [q_Kw, kr_b2_s]
        rw [kr_bi_f hb, if_pos rfl]
      · intro S
        unfold f_M_step
        rw [if_neg (by decide), if_pos rfl]
        unfold f_M_step_B9
        unfold f_M_step_B34
        rw [q_Mi, kr_b2_s, kr_bi_t (by decide), if_neg (by decide), q_Mi, kr_b2_s]
        rw [kr_bi_t ha, if_neg (by decide), if_neg (by decide)]
        rw [if_neg (fun q => hb (by rw [q]; decide))]
        unfold f_M_step_B80 f_M_step_B81
        rw [if_pos rfl]
  · refine Or.inl ⟨?_, ?_⟩
    · unfold f_K_isStep
      rw [q_Kw, kr_b2_s, kr_bi_t (by decide), if_neg (by decide), km_3, kr_b2_s, q_Kw, kr_b2_s]
      rw [kr_bi_f ha, if_pos rfl]
    · intro S
      unfold f_M_step
      rw [if_neg (by decide), if_pos rfl]
      unfold f_M_step_B9
      unfold f_M_step_B34
      rw [q_Mi, kr_b2_s, kr_bi_t (by decide), if_neg (by decide), q_Mi, kr_b2_s]
      rw [kr_bi_f ha, if_pos rfl]
      unfold f_M_step_B80 f_M_step_B81
      rw [if_pos rfl]
theorem km_4 (S : AS) : f_K_mostFirst S 4 = some ((6 : Int32), S) := by
  unfold f_K_mostFirst
  rw [if_neg (by decide), if_neg (by decide), if_neg (by decide), if_neg (by decide), if_pos rfl]
theorem st_4 (a b y n : Int32) : kr_st0 4 a b y n ∨ kr_st1 4 a b y n := by
  by_cases ha : ((0 : Int32) ≤ a ∧ a ≤ 6)
  · by_cases hb : ((0 : Int32) ≤ b ∧ b ≤ 0)
    · by_cases hy : ((-1 : Int32) ≤ y ∧ y ≤ 11)
      · by_cases hn : ((-1 : Int32) ≤ n ∧ n ≤ 11)
        · refine Or.inr ⟨?_, ?_⟩
          · unfold f_K_isStep
            rw [q_Kw, kr_b2_s, kr_bi_t (by decide), if_neg (by decide), km_4, kr_b2_s, q_Kw, kr_b2_s]
            rw [kr_bi_t ha, if_neg (by decide), if_neg (by decide)]
            unfold f_K_isStep_B34
            rw [if_neg (by decide)]
            unfold f_K_isStep_B43
            rw [q_Kw, kr_b2_s]
            rw [kr_bi_t hb, if_neg (by decide)]
            rw [if_neg (by decide), q_Kn, kr_b2_s]
            rw [kr_bi_t hy, if_neg (by decide), q_Kn, kr_b2_s]
            rw [kr_bi_t hn, if_neg (by decide)]
            rfl
          · intro S
            unfold f_M_step
            rw [if_neg (by decide), if_neg (by decide), if_neg (by decide), if_pos rfl]
            unfold f_M_step_B34
            rw [q_Mi, kr_b2_s, kr_bi_t (by decide), if_neg (by decide), q_Mi, kr_b2_s]
            rw [kr_bi_t ha, if_neg (by decide), if_neg (by decide)]
            rw [if_pos (Int32.le_antisymm hb.2 hb.1)]
            unfold f_M_step_B76 f_M_step_B81
            rw [if_neg (by decide)]
            rw [if_neg (by decide), q_Mn, kr_b2_s]
            rw [kr_bi_t hy, if_neg (by decide), q_Mn, kr_b2_s]
            rw [kr_bi_t hn, if_neg (by decide)]
        · refine Or.inl ⟨?_, ?_⟩
          · unfold f_K_isStep
            rw [q_Kw, kr_b2_s, kr_bi_t (by decide), if_neg (by decide), km_4, kr_b2_s, q_Kw, kr_b2_s]
            rw [kr_bi_t ha, if_neg (by decide), if_neg (by decide)]
            unfold f_K_isStep_B34
            rw [if_neg (by decide)]
            unfold f_K_isStep_B43
            rw [q_Kw, kr_b2_s]
            rw [kr_bi_t hb, if_neg (by decide)]
            rw [if_neg (by decide), q_Kn, kr_b2_s]
            rw [kr_bi_t hy, if_neg (by decide), q_Kn, kr_b2_s]
            rw [kr_bi_f hn, if_pos rfl]
          · intro S
            unfold f_M_step
            rw [if_neg (by decide), if_neg (by decide), if_neg (by decide), if_pos rfl]
            unfold f_M_step_B34
            rw [q_Mi, kr_b2_s, kr_bi_t (by decide), if_neg (by decide), q_Mi, kr_b2_s]
            rw [kr_bi_t ha, if_neg (by decide), if_neg (by decide)]
            rw [if_pos (Int32.le_antisymm hb.2 hb.1)]
            unfold f_M_step_B76 f_M_step_B81
            rw [if_neg (by decide)]
            rw [if_neg (by decide), q_Mn, kr_b2_s]
            rw [kr_bi_t hy, if_neg (by decide), q_Mn, kr_b2_s]
            rw [kr_bi_f hn, if_pos rfl]
      · refine Or.inl ⟨?_, ?_⟩
        · unfold f_K_isStep
          rw [q_Kw, kr_b2_s, kr_bi_t (by decide), if_neg (by decide), km_4, kr_b2_s, q_Kw, kr_b2_s]
          rw [kr_bi_t ha, if_neg (by decide), if_neg (by decide)]
          unfold f_K_isStep_B34
          rw [if_neg (by decide)]
          unfold f_K_isStep_B43
          rw [q_Kw, kr_b2_s]
          rw [kr_bi_t hb, if_neg (by decide)]
          rw [if_neg (by decide), q_Kn, kr_b2_s]
          rw [kr_bi_f hy, if_pos rfl]
        · intro S
          unfold f_M_step
          rw [if_neg (by decide), if_neg (by decide), if_neg (by decide), if_pos rfl]
          unfold f_M_step_B34
          rw [q_Mi, kr_b2_s, kr_bi_t (by decide), if_neg (by decide), q_Mi, kr_b2_s]
          rw [kr_bi_t ha, if_neg (by decide), if_neg (by decide)]
          rw [if_pos (Int32.le_antisymm hb.2 hb.1)]
          unfold f_M_step_B76 f_M_step_B81
          rw [if_neg (by decide)]
          rw [if_neg (by decide), q_Mn, kr_b2_s]
          rw [kr_bi_f hy, if_pos rfl]
    · refine Or.inl ⟨?_, ?_⟩
      · unfold f_K_isStep
        rw [q_Kw, kr_b2_s, kr_bi_t (by decide), if_neg (by decide), km_4, kr_b2_s, q_Kw, kr_b2_s]
        rw [kr_bi_t ha, if_neg (by decide), if_neg (by decide)]
        unfold f_K_isStep_B34
        rw [if_neg (by decide)]
        unfold f_K_isStep_B43
        rw [q_Kw, kr_b2_s]
        rw [kr_bi_f hb, if_pos rfl]
      · intro S
        unfold f_M_step
        rw [if_neg (by decide), if_neg (by decide), if_neg (by decide), if_pos rfl]
        unfold f_M_step_B34
        rw [q_Mi, kr_b2_s, kr_bi_t (by decide), if_neg (by decide), q_Mi, kr_b2_s]
        rw [kr_bi_t ha, if_neg (by decide), if_neg (by decide)]
        rw [if_neg (fun q => hb (by rw [q]; decide))]
        unfold f_M_step_B80 f_M_step_B81
        rw [if_pos rfl]
  · refine Or.inl ⟨?_, ?_⟩
    · unfold f_K_isStep
      rw [q_Kw, kr_b2_s, kr_bi_t (by decide), if_neg (by decide), km_4, kr_b2_s, q_Kw, kr_b2_s]
      rw [kr_bi_f ha, if_pos rfl]
    · intro S
      unfold f_M_step
      rw [if_neg (by decide), if_neg (by decide), if_neg (by decide), if_pos rfl]
      unfold f_M_step_B34
      rw [q_Mi, kr_b2_s, kr_bi_t (by decide), if_neg (by decide), q_Mi, kr_b2_s]
      rw [kr_bi_f ha, if_pos rfl]
      unfold f_M_step_B80 f_M_step_B81
      rw [if_pos rfl]
theorem km_5 (S : AS) : f_K_mostFirst S 5 = some ((0 : Int32), S) := by
  unfold f_K_mostFirst
  rw [if_neg (by decide), if_neg (by decide), if_neg (by decide), if_neg (by decide), if_neg (by decide)]
theorem st_5 (a b y n : Int32) : kr_st0 5 a b y n ∨ kr_st1 5 a b y n := by
  by_cases ha : ((0 : Int32) ≤ a ∧ a ≤ 0)
  · by_cases hb : ((0 : Int32) ≤ b ∧ b ≤ 0)
    · refine Or.inr ⟨?_, ?_⟩
      · unfold f_K_isStep
        rw [q_Kw, kr_b2_s, kr_bi_t (by decide), if_neg (by decide), km_5, kr_b2_s, q_Kw, kr_b2_s]
        rw [kr_bi_t ha, if_neg (by decide), if_neg (by decide)]
        unfold f_K_isStep_B34
        rw [if_neg (by decide)]
        unfold f_K_isStep_B43
        rw [q_Kw, kr_b2_s]
        rw [kr_bi_t hb, if_neg (by decide)]
        rw [if_pos (by decide)]
        rfl
      · intro S
        unfold f_M_step
        rw [if_neg (by decide), if_neg (by decide), if_neg (by decide), if_neg (by decide)]
        unfold f_M_step_B34
        rw [q_Mi, kr_b2_s, kr_bi_t (by decide), if_neg (by decide), q_Mi, kr_b2_s]
        rw [kr_bi_t ha, if_neg (by decide), if_neg (by decide)]
        rw [if_pos (Int32.le_antisymm hb.2 hb.1)]
        unfold f_M_step_B76 f_M_step_B81
        rw [if_neg (by decide)]
        rw [if_pos (by decide)]
    · refine Or.inl ⟨?_, ?_⟩
      · unfold f_K_isStep
        rw [q_Kw, kr_b2_s, kr_bi_t (by decide), if_neg (by decide), km_5, kr_b2_s, q_Kw, kr_b2_s]
        rw [kr_bi_t ha, if_neg (by decide), if_neg (by decide)]
        unfold f_K_isStep_B34
        rw [if_neg (by decide)]
        unfold f_K_isStep_B43
        rw [q_Kw, kr_b2_s]
        rw [kr_bi_f hb, if_pos rfl]
      · intro S
        unfold f_M_step
        rw [if_neg (by decide), if_neg (by decide), if_neg (by decide), if_neg (by decide)]
        unfold f_M_step_B34
        rw [q_Mi, kr_b2_s, kr_bi_t (by decide), if_neg (by decide), q_Mi, kr_b2_s]
        rw [kr_bi_t ha, if_neg (by decide), if_neg (by decide)]
        rw [if_neg (fun q => hb (by rw [q]; decide))]
        unfold f_M_step_B80 f_M_step_B81
        rw [if_pos rfl]
  · refine Or.inl ⟨?_, ?_⟩
    · unfold f_K_isStep
      rw [q_Kw, kr_b2_s, kr_bi_t (by decide), if_neg (by decide), km_5, kr_b2_s, q_Kw, kr_b2_s]
      rw [kr_bi_f ha, if_pos rfl]
    · intro S
      unfold f_M_step
      rw [if_neg (by decide), if_neg (by decide), if_neg (by decide), if_neg (by decide)]
      unfold f_M_step_B34
      rw [q_Mi, kr_b2_s, kr_bi_t (by decide), if_neg (by decide), q_Mi, kr_b2_s]
      rw [kr_bi_f ha, if_pos rfl]
      unfold f_M_step_B80 f_M_step_B81
      rw [if_pos rfl]
theorem km_6 (S : AS) : f_K_mostFirst S 6 = some ((0 : Int32), S) := by
  unfold f_K_mostFirst
  rw [if_neg (by decide), if_neg (by decide), if_neg (by decide), if_neg (by decide), if_neg (by decide)]
theorem st_6 (a b y n : Int32) : kr_st0 6 a b y n ∨ kr_st1 6 a b y n := by
  by_cases ha : ((0 : Int32) ≤ a ∧ a ≤ 0)
  · by_cases hb : ((0 : Int32) ≤ b ∧ b ≤ 0)
    · refine Or.inr ⟨?_, ?_⟩
      · unfold f_K_isStep
        rw [q_Kw, kr_b2_s, kr_bi_t (by decide), if_neg (by decide), km_6, kr_b2_s, q_Kw, kr_b2_s]
        rw [kr_bi_t ha, if_neg (by decide), if_neg (by decide)]
        unfold f_K_isStep_B34
        rw [if_neg (by decide)]
        unfold f_K_isStep_B43
        rw [q_Kw, kr_b2_s]
        rw [kr_bi_t hb, if_neg (by decide)]
        rw [if_pos (by decide)]
        rfl
      · intro S
        unfold f_M_step
        rw [if_neg (by decide), if_neg (by decide), if_neg (by decide), if_neg (by decide)]
        unfold f_M_step_B34
        rw [q_Mi, kr_b2_s, kr_bi_t (by decide), if_neg (by decide), q_Mi, kr_b2_s]
        rw [kr_bi_t ha, if_neg (by decide), if_neg (by decide)]
        rw [if_pos (Int32.le_antisymm hb.2 hb.1)]
        unfold f_M_step_B76 f_M_step_B81
        rw [if_neg (by decide)]
        rw [if_pos (by decide)]
    · refine Or.inl ⟨?_, ?_⟩
      · unfold f_K_isStep
        rw [q_Kw, kr_b2_s, kr_bi_t (by decide), if_neg (by decide), km_6, kr_b2_s, q_Kw, kr_b2_s]
        rw [kr_bi_t ha, if_neg (by decide), if_neg (by decide)]
        unfold f_K_isStep_B34
        rw [if_neg (by decide)]
        unfold f_K_isStep_B43
        rw [q_Kw, kr_b2_s]
        rw [kr_bi_f hb, if_pos rfl]
      · intro S
        unfold f_M_step
        rw [if_neg (by decide), if_neg (by decide), if_neg (by decide), if_neg (by decide)]
        unfold f_M_step_B34
        rw [q_Mi, kr_b2_s, kr_bi_t (by decide), if_neg (by decide), q_Mi, kr_b2_s]
        rw [kr_bi_t ha, if_neg (by decide), if_neg (by decide)]
        rw [if_neg (fun q => hb (by rw [q]; decide))]
        unfold f_M_step_B80 f_M_step_B81
        rw [if_pos rfl]
  · refine Or.inl ⟨?_, ?_⟩
    · unfold f_K_isStep
      rw [q_Kw, kr_b2_s, kr_bi_t (by decide), if_neg (by decide), km_6, kr_b2_s, q_Kw, kr_b2_s]
      rw [kr_bi_f ha, if_pos rfl]
    · intro S
      unfold f_M_step
      rw [if_neg (by decide), if_neg (by decide), if_neg (by decide), if_neg (by decide)]
      unfold f_M_step_B34
      rw [q_Mi, kr_b2_s, kr_bi_t (by decide), if_neg (by decide), q_Mi, kr_b2_s]
      rw [kr_bi_f ha, if_pos rfl]
      unfold f_M_step_B80 f_M_step_B81
      rw [if_pos rfl]
theorem kr_r7 {k : Int32} (h : (0 : Int32) ≤ k ∧ k ≤ 6) : k = 0 ∨ k = 1 ∨ k = 2 ∨ k = 3 ∨ k = 4 ∨ k = 5 ∨ k = 6 := by
  obtain ⟨n, hn, rfl⟩ := kr_rng h
  have h7 : n < 7 := Nat.lt_of_lt_of_le hn (by decide)
  clear h hn
  revert n
  decide +kernel
theorem st_all (k a b y n : Int32) : kr_st0 k a b y n ∨ kr_st1 k a b y n := by
  by_cases hk : (0 : Int32) ≤ k ∧ k ≤ 6
  · rcases kr_r7 hk with rfl | rfl | rfl | rfl | rfl | rfl | rfl
    · exact st_0 a b y n
    · exact st_1 a b y n
    · exact st_2 a b y n
    · exact st_3 a b y n
    · exact st_4 a b y n
    · exact st_5 a b y n
    · exact st_6 a b y n
  · refine Or.inl ⟨?_, ?_⟩
    · unfold f_K_isStep
      rw [q_Kw, kr_b2_s, kr_bi_f hk, if_pos rfl]
    · intro S
      unfold f_M_step
      rw [if_neg (fun q => hk (by rw [q]; decide)), if_neg (fun q => hk (by rw [q]; decide)), if_neg (fun q => hk (by rw [q]; decide)), if_neg (fun q => hk (by rw [q]; decide))]
      unfold f_M_step_B34
      rw [q_Mi, kr_b2_s, kr_bi_f hk, if_pos rfl]
      unfold f_M_step_B80 f_M_step_B81
      rw [if_pos rfl]
