/-! ===== step and clear: the law's cases ===== -/
def vl (k a b y z : Int32) (j : Nat) : Int32 := if j = 0 then k else if j = 1 then a else if j = 2 then b else if j = 3 then y else z
theorem KS_f {S : AS} {f n : Nat} {r : Nat → Nat} {k a b y z : Int32} : sI (KS S f n r k a b y z) f 5 = Int32.ofNat (n + 1) := ti_sI_eq _ f 5 _
theorem KS_o {S : AS} {f n p : Nat} {r : Nat → Nat} {k a b y z : Int32} (h : p ≠ f) (hr : ∀ j, j < 5 → r j ≠ p) (i : Nat) : sI (KS S f n r k a b y z) p i = sI S p i := by
  unfold KS
  rw [ti_sI_ne (fun q => h q.1), ti_sI_ne (fun q => hr 4 (by decide) q.1.symm), ti_sI_ne (fun q => hr 3 (by decide) q.1.symm), ti_sI_ne (fun q => hr 2 (by decide) q.1.symm), ti_sI_ne (fun q => hr 1 (by decide) q.1.symm), ti_sI_ne (fun q => hr 0 (by decide) q.1.symm)]
theorem KS_r {S : AS} {f n j i : Nat} {r : Nat → Nat} {k a b y z : Int32} (hf : ∀ j, j < 5 → r j ≠ f) (hd : ∀ i j, i < 5 → j < 5 → r i = r j → i = j) (hj : j < 5) : sI (KS S f n r k a b y z) (r j) i = if i = n then vl k a b y z j else sI S (r j) i := by
  have ne : ∀ i', i' < 5 → i' ≠ j → ¬ (r j = r i' ∧ i = n) := fun i' h h' q => h' (hd i' j h hj q.1.symm)
  unfold KS
  rw [ti_sI_ne (fun q => hf j hj q.1)]
  by_cases c : i = n
  · subst c
    rw [if_pos rfl]
    have w : ∀ (S' : AS) (v : Int32), sI (wI S' (r j) i v) (r j) i = v := fun S' v => ti_sI_eq S' _ _ v
    match j, hj with
    | 0, _ => rw [ti_sI_ne (ne 4 (by decide) (by decide)), ti_sI_ne (ne 3 (by decide) (by decide)), ti_sI_ne (ne 2 (by decide) (by decide)), ti_sI_ne (ne 1 (by decide) (by decide)), w]; rfl
    | 1, _ => rw [ti_sI_ne (ne 4 (by decide) (by decide)), ti_sI_ne (ne 3 (by decide) (by decide)), ti_sI_ne (ne 2 (by decide) (by decide)), w]; rfl
    | 2, _ => rw [ti_sI_ne (ne 4 (by decide) (by decide)), ti_sI_ne (ne 3 (by decide) (by decide)), w]; rfl
    | 3, _ => rw [ti_sI_ne (ne 4 (by decide) (by decide)), w]; rfl
    | 4, _ => rw [w]; rfl
  · rw [if_neg c, ti_sI_ne (fun q => c q.2), ti_sI_ne (fun q => c q.2), ti_sI_ne (fun q => c q.2), ti_sI_ne (fun q => c q.2), ti_sI_ne (fun q => c q.2)]
theorem lg_rf (x : Int64) : lg_cmp x x = 0 := by
  unfold lg_cmp
  rw [if_neg (Int64.lt_irrefl), if_pos rfl]
theorem x_thrown {T : Nat → Nat} {S : AS} (hT : TI T S) : f_M_thrown S (some 57) = some (sI S 57 82, S) := by
  unfold f_M_thrown
  rw [ti_gI (κ := 23) ((Tx.K hT hT.t9.1 (by decide)).trans rfl), Option.bind_some]
/-- T alone changed -/
theorem DR_T {T T' : Nat → Nat} {S : AS} {f n : Nat} {r : Nat → Nat} (h : DR T S f n r) (e : ∀ k, T k ≠ 0 → T' k = T k) : DR T' S f n r := by
  obtain ⟨a1, a2, a3, a4, a5, a6, a7, a8⟩ := h
  exact ⟨a1, (e f (by rw [a2]; decide)).trans a2, a3, a4, a5, fun j hj => ⟨(a6 j hj).1, (e _ (by rw [(a6 j hj).2]; decide)).trans (a6 j hj).2⟩, a7, a8⟩
/-- what the class's step leaves -/
def KST (S S1 : AS) (f n : Nat) (r : Nat → Nat) (k a b y z : Int32) : Prop := (∀ p j, sR S1 p j = sR S p j) ∧ sI S1 f 5 = Int32.ofNat (n + 1) ∧ (∀ p, p ≠ f → (∀ j, j < 5 → r j ≠ p) → ∀ i, sI S1 p i = sI S p i) ∧ (∀ j i, j < 5 → sI S1 (r j) i = if i = n then vl k a b y z j else sI S (r j) i)
theorem sI_wJ (S : AS) (p j : Nat) (v : Int64) : sI (wJ S p j v) = sI S := rfl
theorem sR_wJ (S : AS) (p j : Nat) (v : Int64) : sR (wJ S p j v) = sR S := rfl
theorem sR_wI (S : AS) (p j : Nat) (v : Int32) : sR (wI S p j v) = sR S := rfl
theorem sJ_wJ (S : AS) (v : Int64) : sJ (wJ S 126 0 v) 126 0 = v := by
  show (if (126 : Nat) = 126 ∧ (0 : Nat) = 0 then v else sJ S 126 0) = v
  rw [if_pos ⟨rfl, rfl⟩]
theorem KST_of {S : AS} {f n : Nat} {r : Nat → Nat} {k a b y z : Int32} (hf : ∀ j, j < 5 → r j ≠ f) (hd : ∀ i j, i < 5 → j < 5 → r i = r j → i = j) (v : Int64) : KST S (wJ (KS S f n r k a b y z) 126 0 v) f n r k a b y z := by
  refine ⟨fun p j => ?_, ?_, fun p h1 h2 i => ?_, fun j i hj => ?_⟩
  · rw [sR_wJ]
    unfold KS
    rw [sR_wI, sR_wI, sR_wI, sR_wI, sR_wI, sR_wI]
  · rw [sI_wJ]
    exact KS_f
  · rw [sI_wJ]
    exact KS_o h1 h2 i
  · rw [sI_wJ]
    exact KS_r hf hd hj
theorem DR_step {T T1 : Nat → Nat} {w : List Nat} {S S1 S2 : AS} {f n c s : Nat} {r : Nat → Nat} {k a b y z : Int32} (hT : TI T S) (h : DR T S f n r) (hn : n < 12) (h1 : KST S S1 f n r k a b y z) (hty : ∀ k, T k ≠ 0 → T1 k = T k) (g : Rl T1 w S1 c s T1 S2) (hw : ∀ z ∈ w, z < 50000) (hs : STP S1 S2 n k a b y z) : DR T1 S2 f (n + 1) r := by
  obtain ⟨K4, Kf, Kr, f57, k6, r57⟩ := DR_K hT h
  obtain ⟨b1, b2, b3, b4⟩ := h1
  have h' := DR_T h hty
  obtain ⟨a1, a2, a3, a4, a5, a6, a7, a8⟩ := h'
  have nm : ∀ z, 50000 ≤ z → ¬ z ∈ w := fun z h q => by
    have := hw z q
    omega
  have hI : ∀ p i, p ≠ 57 → (∀ q, 66 ≤ q → q ≤ 71 → p ≠ q) → sI S2 p i = sI S1 p i := fun p i h1 h2 => by
    rw [hs p i, if_neg (fun q => h1 q.1), if_neg (fun q => h2 66 (by decide) (by decide) q.1), if_neg (fun q => h2 p (by omega) (by omega) rfl)]
  refine ⟨?_, a2, by omega, ?_, ?_, fun j hj => ⟨?_, (a6 j hj).2⟩, a7, fun j i hj hi => ?_⟩
  · rw [g.fR 4 5 (by rw [hty 4 (by rw [hT.t9.2.2.2.2.1]; decide), hT.t9.2.2.2.2.1]; decide) (nm _ (by unfold cr; omega)), b1]
    exact a1
  · rw [hI f 5 f57 (fun q h1 h2 e => (k6 q h1 h2).1 e.symm)]
    exact b2
  · rw [hs 66 8, if_neg (by decide), if_pos ⟨rfl, rfl⟩]
  · rw [g.fR f j (by rw [a2]; decide) (nm _ (by unfold cr; omega)), b1]
    exact (a6 j hj).1
  · have e := hs (67 + j) (96 + i)
    rw [if_neg (show ¬ (67 + j = 57 ∧ 96 + i = 82) by omega), if_neg (show ¬ (67 + j = 66 ∧ 96 + i = 8) by omega)] at e
    rw [hI (r j) i (r57 j hj) (fun q h1 h2 e => (k6 q h1 h2).2 j hj e), b4 j i hj]
    by_cases c : i = n
    · rw [if_pos (show (67 ≤ 67 + j ∧ 67 + j ≤ 71) ∧ 96 + i = 96 + n by omega)] at e
      rw [if_pos c, e]
      unfold vl
      match j, hj with
      | 0, _ => rfl
      | 1, _ => rfl
      | 2, _ => rfl
      | 3, _ => rfl
      | 4, _ => rfl
    · rw [if_neg (show ¬ ((67 ≤ 67 + j ∧ 67 + j ≤ 71) ∧ 96 + i = 96 + n) by omega)] at e
      rw [if_neg c, e, b3 (67 + j) (k6 (67 + j) (by omega) (by omega)).1 (k6 (67 + j) (by omega) (by omega)).2]
      exact a8 j i hj (by omega)
theorem sx_v {X : Nat → Int32} {L : Nat} {i v v' : Int32} (h : kr_sx X L i = some v) (h' : kr_sx X L i = some v') : v' = v := by
  rw [h] at h'
  cases h'
  rfl
theorem c_clear {X : Nat → Int32} {L : Nat} {k : AS → Option Nat → Option Nat → Option Nat → Int32 → Option (Int32 × AS)} {Q : Int32 × AS → Prop} {n : Nat} {S : AS} {x : Int32} (hL : L ≤ 3072) (h0 : 0 ≤ x.toInt) (h6 : x.toInt + 6 ≤ (L : Int)) (hn : n ≤ 600) (hw : LW n S) (hk : ∀ S', LW (n + 1) S' → Ho (k S' (some 4) (some 57) (some 126) (x + 6)) Q) : Ho (f_W_law_B444 X L k S (some 4) (some 57) (some 126) x) Q := by
  obtain ⟨T, hI, t1, t2, t3, ⟨f, m, r, hr⟩, hv⟩ := hw
  unfold f_W_law_B444
  refine r_rv hI.1 t1 rfl ?_
  have e := ho_eq (x_K_clear hI.1 hr) (t_K_clear hI.1 t1)
  rw [x_K_clear hI.1 hr, b2_s]
  obtain ⟨e, -⟩ := e
  have e : Rl T kw_K42 S 0 0 T (wI S f 5 0) := e
  obtain ⟨K4, Kf, Kr, f57, k6, r57⟩ := DR_K hI.1 hr
  obtain ⟨S1, hS1⟩ : ∃ S1, S1 = wI S f 5 0 := ⟨_, rfl⟩
  rw [← hS1] at e ⊢
  have g1 := Rlweak (c' := 10) (s' := 700) e (fun _ z => List.mem_cons_of_mem 99999 z) (by decide) (by decide)
  have f1 := FT_fr hI.2.2.2.1 g1 (by decide +kernel)
  have i1 := IV_K hI g1 t2 (by decide +kernel)
  obtain ⟨a1, a2, a3, a4, a5, a6, a7, a8⟩ := hr
  have f66 : ¬ (66 = f ∧ 8 = 5) := fun q => by omega
  have hs8 : (sI S1 66 8).toInt = (m : Int) := by
    rw [hS1, ti_sI_ne f66, a5]
    exact (gl2 m (by omega)).1
  refine r_rv g1.1 (t2.up g1.ty) rfl ?_
  refine r_b2 (ho_and (mm_clear g1.1 (t2.up g1.ty) i1.1 (by have := i1.2; omega)) (t_M_clearX g1.1 (t2.up g1.ty) a3 hs8)) (fun v S2 p => ?_)
  obtain ⟨⟨g2, m2⟩, -, e2⟩ := p
  have e2 : S2 = wI (wI S1 57 82 0) 66 8 0 := (Prod.mk.inj e2).2
  have hv2 := VL_fr (VL_fr hv g1 (by decide +kernel) (by decide +kernel)) g2 (by decide +kernel) (by decide +kernel)
  refine hk _ (LW_M hI t1 t2 t3 g1 i1.2 f1 g2 m2 ⟨⟨f, 0, r, ?_, a2, by omega, ?_, ?_, fun j hj => ⟨?_, (a6 j hj).2⟩, a7, fun j i _ h => absurd h (Nat.not_lt_zero _)⟩, hv2⟩ (by decide +kernel))
  · rw [show sR S2 = sR S by rw [e2, sR_wI, sR_wI, hS1, sR_wI]]
    exact a1
  · rw [e2, ti_sI_ne (fun q => (k6 66 (by decide) (by decide)).1 q.1.symm), ti_sI_ne (fun q => f57 q.1), hS1, ti_sI_eq]
    rfl
  · rw [e2, ti_sI_eq]
    rfl
  · rw [show sR S2 = sR S by rw [e2, sR_wI, sR_wI, hS1, sR_wI]]
    exact (a6 j hj).1
theorem sI_wX (S : AS) : sI (wX S) = sI S := rfl
theorem sR_wX (S : AS) : sR (wX S) = sR S := rfl
theorem DR_X {T : Nat → Nat} {S : AS} {f n : Nat} {r : Nat → Nat} (h : DR T S f n r) : DR T (wX S) f n r := h
theorem c_step {X : Nat → Int32} {L : Nat} {k : AS → Option Nat → Option Nat → Option Nat → Int32 → Option (Int32 × AS)} {Q : Int32 × AS → Prop} {n : Nat} {S : AS} {x : Int32} (hL : L ≤ 3072) (h0 : 0 ≤ x.toInt) (h6 : x.toInt + 6 ≤ (L : Int)) (hn : n ≤ 600) (hw : LW n S) (hk : ∀ S', LW (n + 1) S' → Ho (k S' (some 4) (some 57) (some 126) (x + 6)) Q) : Ho (f_W_law_B368 X L k S (some 4) (some 57) (some 126) x) Q := by
  obtain ⟨T, hI, t1, t2, t3, ⟨f, m, r, hr⟩, hv⟩ := hw
  unfold f_W_law_B368
  refine r_sx (sx_ok hL h0 h6 1 (by decide)) (fun v27 q27 => ?_)
  refine r_sx (sx_ok hL h0 h6 2 (by decide)) (fun v28 q28 => ?_)
  refine r_sx (sx_ok hL h0 h6 3 (by decide)) (fun v29 q29 => ?_)
  refine r_sx (sx_ok hL h0 h6 4 (by decide)) (fun v30 q30 => ?_)
  refine r_sx (sx_ok hL h0 h6 5 (by decide)) (fun v31 q31 => ?_)
  refine r_b2 (ho_and (w_step hI.1 t1 t3) (x_W_step hI.1 hr v27 v28 v29 v30 v31)) (fun v33 S32 p => ?_)
  obtain ⟨⟨T1, g1⟩, p⟩ := p
  have g1 : Rl T (99999 :: kw_K13) S 10 700 T1 S32 := g1
  have f1 := FT_fr hI.2.2.2.1 g1 (by decide +kernel)
  have i1 := IV_K hI g1 t2 (by decide +kernel)
  refine r_sx (sx_ok hL h0 h6 1 (by decide)) (fun v34 q34 => ?_)
  refine r_sx (sx_ok hL h0 h6 2 (by decide)) (fun v35 q35 => ?_)
  refine r_sx (sx_ok hL h0 h6 3 (by decide)) (fun v36 q36 => ?_)
  refine r_sx (sx_ok hL h0 h6 4 (by decide)) (fun v37 q37 => ?_)
  refine r_sx (sx_ok hL h0 h6 5 (by decide)) (fun v38 q38 => ?_)
  rw [sx_v q27 q34, sx_v q28 q35, sx_v q29 q36, sx_v q30 q37, sx_v q31 q38]
  refine r_rv g1.1 (t2.up g1.ty) rfl ?_
  obtain ⟨K4, Kf, Kr, f57, k6, r57⟩ := DR_K hI.1 hr
  have hkst := KST_of (S := S) (f := f) (n := m) (r := r) (k := v27) (a := v28) (b := v29) (y := v30) (z := v31) (fun j hj => (Kr j hj).2.2) hr.2.2.2.2.2.2.1 (Int32.ofNat m).toInt64
  have hs8 : (sI S32 66 8).toInt = (m : Int) := by
    have : sI S32 66 8 = sI S 66 8 := by
      rcases p with ⟨-, e⟩ | ⟨-, -, e⟩ | ⟨-, -, e⟩
      · rw [(Prod.mk.inj e).2, sI_wX]
      · rw [(Prod.mk.inj e).2, sI_wX]
      · rw [(Prod.mk.inj e).2]
        exact hkst.2.2.1 66 (k6 66 (by decide) (by decide)).1 (k6 66 (by decide) (by decide)).2 8
    rw [this, hr.2.2.2.2.1]
    exact (gl2 m (by have := hr.2.2.1; omega)).1
  refine r_b2 (ho_and (mm_step g1.1 (t2.up g1.ty) i1.1 (by have := i1.2; omega)) (t_M_stepX g1.1 (t2.up g1.ty) hr.2.2.1 hs8)) (fun v41 S40 p2 => ?_)
  obtain ⟨⟨g2, m2⟩, -, p2⟩ := p2
  have g2 : Rl T1 kw_st S32 1 0 T1 S40 := g2
  have hv2 := VL_fr (VL_fr hv g1 (by decide +kernel) (by decide +kernel)) g2 (by decide +kernel) (by decide +kernel)
  have fin : ∀ m', DR T1 S40 f m' r → Ho (f_W_law_B2025 X L k S40 (some 4) (some 57) (some 126) x) Q := fun m' h => hk _ (LW_M hI t1 t2 t3 g1 i1.2 f1 g2 m2 ⟨⟨f, m', r, h⟩, hv2⟩ (by decide +kernel))
  have same : ∀ v, S32 = wX S → S40 = wI S32 57 82 v → DR T1 S40 f m r := fun v e e' => by
    have d : DR T1 S32 f m r := by
      rw [e]
      exact DR_X (DR_T hr g1.ty)
    have z := DR_fr d (thr_Rl g1.1 (t2.up g1.ty) v) (by decide +kernel)
    rw [e']
    exact z
  rcases p with ⟨no, e⟩ | ⟨ok, h12, e⟩ | ⟨ok, h12, e⟩
  · rcases p2 with ⟨no2, e2⟩ | ⟨ok2, h122, e2⟩ | ⟨ok2, h122, e2, st⟩
    · obtain ⟨e, e'⟩ := Prod.mk.inj e
      obtain ⟨e2, e2'⟩ := Prod.mk.inj e2
      exact fin m (same 1 e' e2')
    · exact absurd ok2 no
    · exact absurd ok2 no
  · rcases p2 with ⟨no2, e2⟩ | ⟨ok2, h122, e2⟩ | ⟨ok2, h122, e2, st⟩
    · exact absurd ok no2
    · obtain ⟨e, e'⟩ := Prod.mk.inj e
      obtain ⟨e2, e2'⟩ := Prod.mk.inj e2
      exact fin m (same 2 e' e2')
    · omega
  · rcases p2 with ⟨no2, e2⟩ | ⟨ok2, h122, e2⟩ | ⟨ok2, h122, e2, st⟩
    · exact absurd ok no2
    · omega
    · obtain ⟨e, e'⟩ := Prod.mk.inj e
      have e2 : v41 = Int32.ofNat m := e2
      have st : STP S32 S40 m v27 v28 v29 v30 v31 := st
      exact fin (m + 1) (DR_step hI.1 hr h12 (by rw [e']; exact hkst) g1.ty g2 (by decide +kernel) st)
