/-! ===== p1: step, the rest ===== -/
theorem kr_zs : gR kr_Z 22 5 (some 4) = some (some 11) ∧ sK kr_Z 11 = 13 ∧ sI kr_Z 11 5 = 0 ∧ sI kr_Z 66 8 = 0 := by decide +kernel
theorem kr_zs5 : ∀ j, j < 5 → sR kr_Z 11 j = some (12 + j) ∧ sK kr_Z (12 + j) = 40 ∧ 0 < sL kr_Z (12 + j) := by decide +kernel
theorem kr_zs6 : ∀ j, j < 6 → sR kr_Z 57 (10 + j) = some (66 + j) ∧ sK kr_Z (66 + j) = 40 ∧ 8 < sL kr_Z (66 + j) ∧ (0 < j → 96 < sL kr_Z (66 + j)) := by decide +kernel
def kr_F (S : AS) : Prop := sK S = sK kr_Z ∧ sL S = sL kr_Z ∧ sR S = sR kr_Z ∧ sI S 66 8 = 0 ∧ sC S = sC kr_Z ∧ sS S = sS kr_Z
theorem kr_F0 : kr_F kr_Z := ⟨rfl, rfl, rfl, kr_zs.2.2.2, rfl, rfl⟩
theorem F_w {S : AS} {k j : Nat} {v : Int32} (h : kr_F S) (h2 : ¬ k = 66) : kr_F (wI S k j v) := by
  obtain ⟨a1, a2, a3, a4, a5, a6⟩ := h
  refine ⟨by rw [kr_sK_wI]; exact a1, by rw [kr_sL_wI]; exact a2, by rw [kr_sR_wI]; exact a3, ?_, by rw [kr_sC_wI]; exact a5, by rw [kr_sS_wI]; exact a6⟩
  rw [kr_sI_ne (fun q => h2 q.1.symm)]
  exact a4
theorem kr_sR_wJ (S : AS) (k j : Nat) (v : Int64) : sR (wJ S k j v) = sR S := rfl
theorem F_J {S : AS} {k j : Nat} {v : Int64} (h : kr_F S) : kr_F (wJ S k j v) := by
  obtain ⟨a1, a2, a3, a4, a5, a6⟩ := h
  exact ⟨by rw [kr_sK_wJ]; exact a1, by rw [kr_sL_wJ]; exact a2, by rw [kr_sR_wJ]; exact a3, by rw [kr_sI_wJ]; exact a4, by rw [kr_sC_wJ]; exact a5, by rw [kr_sS_wJ]; exact a6⟩
theorem F_K {S : AS} (h : kr_F S) {k κ : Nat} (e : sK kr_Z k = κ) : sK S k = κ := by rw [h.1]; exact e
theorem Ga {S : AS} (h : kr_F S) (h5 : sI S 11 5 = 0) : gI S 13 5 (some 11) = some (0 : Int32) := by
  rw [kr_gI_s (F_K h kr_zs.2.1), h5]
theorem Gr {S : AS} (h : kr_F S) {κ k j p : Nat} (ek : sK kr_Z k = κ) (e : sR kr_Z k j = some p) : gR S κ j (some k) = some (some p) := by
  rw [kr_gR_s (F_K h ek), h.2.2.1, e]
theorem Gb {S : AS} (h : kr_F S) {p : Nat} {i v : Int32} (ek : sK kr_Z p = 40) (e : 0 ≤ i.toInt ∧ i.toInt < (sL kr_Z p : Int)) : bI S (some p) i v = some (wI S p i.toNatClampNeg v) := by
  unfold bI
  rw [Option.bind_some, if_pos ⟨F_K h ek, e.1, by rw [h.2.1]; exact e.2⟩]
theorem Gl {S : AS} (h : kr_F S) {p : Nat} {i : Int32} (ek : sK kr_Z p = 40) (e : 0 ≤ i.toInt ∧ i.toInt < (sL kr_Z p : Int)) : aI S 40 (some p) i = some (sI S p i.toNatClampNeg) := by
  unfold aI
  rw [Option.bind_some, if_pos ⟨F_K h ek, e.1, by rw [h.2.1]; exact e.2⟩]
theorem kr_b0 {p : Nat} (h : 0 < sL kr_Z p) : 0 ≤ (0 : Int32).toInt ∧ (0 : Int32).toInt < (sL kr_Z p : Int) := by
  rw [show (0 : Int32).toInt = 0 from by decide]
  omega
theorem kr_b8 {p : Nat} (h : 8 < sL kr_Z p) : 0 ≤ (8 : Int32).toInt ∧ (8 : Int32).toInt < (sL kr_Z p : Int) := by
  rw [show (8 : Int32).toInt = 8 from by decide]
  omega
theorem kr_b96 {p : Nat} (h : 96 < sL kr_Z p) : 0 ≤ ((96 : Int32) + 0).toInt ∧ ((96 : Int32) + 0).toInt < (sL kr_Z p : Int) := by
  rw [show ((96 : Int32) + 0).toInt = 96 from by decide]
  omega
theorem Gk {S : AS} (h : kr_F S) {j : Nat} (hj : j < 5) (v : Int32) : gR S 13 j (some 11) = some (some (12 + j)) ∧ bI S (some (12 + j)) (0 : Int32) v = some (wI S (12 + j) 0 v) := by
  obtain ⟨e1, e2, e3⟩ := kr_zs5 j hj
  exact ⟨Gr h kr_zs.2.1 e1, Gb h e2 (kr_b0 e3)⟩
theorem G5 {S : AS} {p j : Nat} {v : Int32} (hp : ¬ p = 11) (h : sI S 11 5 = 0) : sI (wI S p j v) 11 5 = 0 := by
  rw [kr_sI_ne (fun q => hp q.1.symm)]
  exact h
theorem fl_add (k a b y n : Int32) : ∃ T : AS, f_Flow_add kr_Z (some 11) k a b y n = some ((0 : Int32) + 1 - 1, T) ∧ kr_F T ∧ sJ T = sJ kr_Z := by
  have f0 := kr_F0
  have g0 := kr_zs.2.2.1
  have f1 : kr_F (wI kr_Z (12 + 0) 0 k) := F_w f0 (by decide)
  have g1 : sI (wI kr_Z (12 + 0) 0 k) 11 5 = 0 := G5 (by decide) g0
  have f2 := F_w (k := 12 + 1) (j := 0) (v := a) f1 (by decide)
  have g2 := G5 (p := 12 + 1) (j := 0) (v := a) (by decide) g1
  have f3 := F_w (k := 12 + 2) (j := 0) (v := b) f2 (by decide)
  have g3 := G5 (p := 12 + 2) (j := 0) (v := b) (by decide) g2
  have f4 := F_w (k := 12 + 3) (j := 0) (v := y) f3 (by decide)
  have g4 := G5 (p := 12 + 3) (j := 0) (v := y) (by decide) g3
  have f5 := F_w (k := 12 + 4) (j := 0) (v := n) f4 (by decide)
  have g5 := G5 (p := 12 + 4) (j := 0) (v := n) (by decide) g4
  refine ⟨_, ?_, F_w (k := 11) (j := 5) (v := (0 : Int32) + 1) f5 (by decide), rfl⟩
  unfold f_Flow_add
  rw [Ga f0 g0, Option.bind_some, if_neg (by decide), Option.bind_some, if_pos (by decide), (Gk f0 (j := 0) (by decide) k).1, Option.bind_some, Option.bind_some, (Gk f0 (j := 0) (by decide) k).2, Option.bind_some]
  rw [(Gk f1 (j := 1) (by decide) a).1, Option.bind_some, Ga f1 g1, Option.bind_some, (Gk f1 (j := 1) (by decide) a).2, Option.bind_some]
  rw [(Gk f2 (j := 2) (by decide) b).1, Option.bind_some, Ga f2 g2, Option.bind_some, (Gk f2 (j := 2) (by decide) b).2, Option.bind_some]
  rw [(Gk f3 (j := 3) (by decide) y).1, Option.bind_some, Ga f3 g3, Option.bind_some, (Gk f3 (j := 3) (by decide) y).2, Option.bind_some]
  rw [(Gk f4 (j := 4) (by decide) n).1, Option.bind_some, Ga f4 g4, Option.bind_some, (Gk f4 (j := 4) (by decide) n).2, Option.bind_some]
  rw [Ga f5 g5, Option.bind_some, kr_pI_s (F_K f5 kr_zs.2.1), Option.bind_some, kr_gI_s (by rw [kr_sK_wI]; exact F_K f5 kr_zs.2.1), Option.bind_some, kr_sI_wI]
theorem Gm {S : AS} (h : kr_F S) {j : Nat} (hj : j < 6) : gR S 23 (10 + j) (some 57) = some (some (66 + j)) := Gr h kr_z126.2.2.1 (kr_zs6 j hj).1
theorem Gn {S : AS} (h : kr_F S) {j : Nat} (hj : j < 6) (h0 : 0 < j) (v : Int32) : bI S (some (66 + j)) ((96 : Int32) + 0) v = some (wI S (66 + j) 96 v) := Gb h (kr_zs6 j hj).2.1 (kr_b96 ((kr_zs6 j hj).2.2.2 h0))
theorem Gc {S : AS} (h : kr_F S) : aI S 40 (some (66 + 0)) (8 : Int32) = some (0 : Int32) := by
  rw [Gl h (kr_zs6 0 (by decide)).2.1 (kr_b8 (kr_zs6 0 (by decide)).2.2.1)]
  exact congrArg some h.2.2.2.1
theorem ms_add {S : AS} (h : kr_F S) (k a b y n : Int32) : ∃ T : AS, f_M_step_B109 S (some 57) k a b y n = some ((0 : Int32) + 1 - 1, T) ∧ sI T 57 82 = 0 ∧ sK T = sK kr_Z ∧ sL T = sL kr_Z ∧ sC T = sC kr_Z ∧ sS T = sS kr_Z ∧ sJ T = sJ S := by
  have f0 : kr_F (wI S 57 82 0) := F_w h (by decide)
  have f1 := F_w (k := 66 + 1) (j := 96) (v := k) f0 (by decide)
  have f2 := F_w (k := 66 + 2) (j := 96) (v := a) f1 (by decide)
  have f3 := F_w (k := 66 + 3) (j := 96) (v := b) f2 (by decide)
  have f4 := F_w (k := 66 + 4) (j := 96) (v := y) f3 (by decide)
  have f5 := F_w (k := 66 + 5) (j := 96) (v := n) f4 (by decide)
  have hm : f_M_mayBoth S (some 57) (1 : Int32) (1 : Int32) = some ((1 : Int32), wI S 57 82 0) := by
    unfold f_M_mayBoth f_M_mayBoth_B18
    rw [if_neg (by decide), if_neg (by decide), kr_pI_s (F_K h kr_z126.2.2.1), Option.bind_some, kr_gI_s (by rw [kr_sK_wI]; exact F_K h kr_z126.2.2.1), Option.bind_some, kr_sI_wI, if_pos rfl]
  have e0 := (kr_zs6 0 (by decide)).2.1
  have e8 := kr_b8 (kr_zs6 0 (by decide)).2.2.1
  refine ⟨wI (wI (wI (wI (wI (wI (wI S 57 82 0) (66 + 1) 96 k) (66 + 2) 96 a) (66 + 3) 96 b) (66 + 4) 96 y) (66 + 5) 96 n) (66 + 0) 8 ((0 : Int32) + 1), ?_, ?_, ?_, ?_, ?_, ?_, ?_⟩
  · unfold f_M_step_B109 f_M_step_B114
    rw [Gm h (j := 0) (by decide), Option.bind_some, Gc h, Option.bind_some, if_neg (by decide)]
    unfold f_M_step_B136
    rw [kr_rv_s (F_K h kr_z126.2.2.1), Option.bind_some, hm, kr_b2_s, if_neg (by decide), Gm f0 (j := 0) (by decide), Option.bind_some, Gc f0, Option.bind_some, Option.bind_some]
    rw [Gm f0 (j := 1) (by decide), Option.bind_some, Gn f0 (j := 1) (by decide) (by decide), Option.bind_some]
    rw [Gm f1 (j := 2) (by decide), Option.bind_some, Gn f1 (j := 2) (by decide) (by decide), Option.bind_some]
    rw [Gm f2 (j := 3) (by decide), Option.bind_some, Gn f2 (j := 3) (by decide) (by decide), Option.bind_some]
    rw [Gm f3 (j := 4) (by decide), Option.bind_some, Gn f3 (j := 4) (by decide) (by decide), Option.bind_some]
    rw [Gm f4 (j := 5) (by decide), Option.bind_some, Gn f4 (j := 5) (by decide) (by decide), Option.bind_some]
    rw [Gm f5 (j := 0) (by decide), Option.bind_some, Gc f5, Option.bind_some, Gb f5 e0 e8, Option.bind_some, show (8 : Int32).toNatClampNeg = 8 from by decide]
    rw [kr_gR_s (by rw [kr_sK_wI]; exact F_K f5 kr_z126.2.2.1), Option.bind_some, kr_sR_wI, f5.2.2.1, (kr_zs6 0 (by decide)).1]
    unfold aI
    rw [Option.bind_some, if_pos ⟨by rw [kr_sK_wI]; exact F_K f5 e0, e8.1, by rw [kr_sL_wI, f5.2.1]; exact e8.2⟩, show (8 : Int32).toNatClampNeg = 8 from by decide, kr_sI_wI, Option.bind_some]
  · rw [kr_sI_ne (by decide), kr_sI_ne (by decide), kr_sI_ne (by decide), kr_sI_ne (by decide), kr_sI_ne (by decide), kr_sI_ne (by decide), kr_sI_wI]
  · rw [kr_sK_wI]; exact f5.1
  · rw [kr_sL_wI]; exact f5.2.1
  · rw [kr_sC_wI]; exact f5.2.2.2.2.1
  · rw [kr_sS_wI]; exact f5.2.2.2.2.2
  · rfl
theorem kr_z66 : gR (wX kr_Z) 23 10 (some 57) = some (some 66) ∧ aI (wX kr_Z) 40 (some 66) (8 : Int32) = some (0 : Int32) ∧ kr_rv kr_Z 13 (some 11) = some () := by decide +kernel
theorem o_step (X : Nat → Int32) : kr_good (f_W_law_B452 X 6 (kr_K6 X) kr_Z (some 4) (some 57) (some 126) (0 : Int32)) = true := by
  simp only [f_W_law_B452, kr_sx1, kr_sx2, kr_sx3, kr_sx4, kr_sx5, Option.bind_some, kr_tail]
  generalize X 1 = k
  generalize X 2 = a
  generalize X 3 = b
  generalize X 4 = y
  generalize X 5 = n
  rcases st_all k a b y n with ⟨h1, h2⟩ | ⟨h1, h2⟩
  · have hk : f_K_step kr_Z (some 4) k a b y n = some (.inr "java/lang/IllegalArgumentException", wX kr_Z) := by
      unfold f_K_step
      rw [h1, kr_b2_s, q_Kreq, kr_bx_r]
    have hw : f_W_step kr_Z (some 4) k a b y n (some 126) = some ((1 : Int32), wX kr_Z) := by
      unfold f_W_step
      rw [zrv22, Option.bind_some, hk, kr_bh_r, if_pos rfl]
    have hm : f_M_step (wX kr_Z) (some 57) k a b y n = some ((0 : Int32), kr_M1) := by
      rw [h2]
      unfold f_M_step_B113 f_M_step_B114
      rw [kr_z66.1, Option.bind_some, kr_z66.2.1, Option.bind_some, if_neg (by decide)]
      unfold f_M_step_B136
      rw [zrvX, Option.bind_some, mZ_both, kr_b2_s, if_pos rfl]
    rw [hw, kr_b2_s, zrvX, Option.bind_some, hm, kr_b2_s]
    clear h1 h2 hk hw hm
    decide +kernel
  · obtain ⟨T, e1, e2, e3⟩ := fl_add k a b y n
    have hk : f_K_step kr_Z (some 4) k a b y n = some (.inl ((0 : Int32) + 1 - 1), T) := by
      unfold f_K_step
      rw [h1, kr_b2_s, q_Kreq1, kr_bx_l, kr_zs.1, Option.bind_some, Ga kr_F0 kr_zs.2.2.1, Option.bind_some, if_neg (by decide)]
      unfold f_K_step_B30
      rw [q_Kst1, kr_bx_l, kr_zs.1, Option.bind_some, kr_z66.2.2, Option.bind_some, e1, kr_b2_s]
    have hw : f_W_step kr_Z (some 4) k a b y n (some 126) = some ((0 : Int32), wJ T 126 0 ((0 : Int32) + 1 - 1).toInt64) := by
      unfold f_W_step
      rw [zrv22, Option.bind_some, hk, kr_bh_l, kr_b126 _ _ (F_K e2 kr_z126.1) (by rw [e2.2.1]; exact kr_z126.2.1), Option.bind_some]
    have fJ : kr_F (wJ T 126 0 ((0 : Int32) + 1 - 1).toInt64) := F_J e2
    obtain ⟨U, m1, m2, m3, m4, m5, m6, m7⟩ := ms_add fJ k a b y n
    have hv : sK U 57 = 23 := by rw [m3]; exact kr_z126.2.2.1
    have ht : f_M_thrown U (some 57) = some ((0 : Int32), U) := by
      unfold f_M_thrown
      rw [kr_gI_s hv, Option.bind_some, m2]
    rw [hw, kr_b2_s, kr_rv_s (F_K fJ kr_z126.2.2.1), Option.bind_some, h2, m1, kr_b2_s, kr_rv_s hv, Option.bind_some, ht, kr_b2_s, if_pos rfl, if_pos rfl, kr_a126 _ (by rw [m3]; exact kr_z126.1) (by rw [m4]; exact kr_z126.2.1), Option.bind_some, m7, kr_sJ_wJ, if_pos (by decide)]
    exact kr_gd m5 m6
