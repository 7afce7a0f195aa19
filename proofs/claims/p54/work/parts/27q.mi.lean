/-! ===== step, clear, publish, leave: what they leave of what holds between calls ===== -/
theorem x_mayBoth {T : Nat → Nat} {S : AS} {x : Option Nat} {a b : Int32} (hT : TI T S) (hx : Tx T 100 x) : f_M_mayBoth S x a b = some (if a = 0 then (0, wI S 57 82 1) else if b = 0 then (0, wI S 57 82 2) else (1, wI S 57 82 0)) := by
  obtain ⟨h1, h2, rfl⟩ := sgp hT hx (p := 57) rfl
  have hk : sK S 57 = 39 := (Tx.K hT h1 h2).trans rfl
  have b18 : ∀ v : Int32, f_M_mayBoth_B18 S (some 57) (some 57) v = some ((if v = 0 then 1 else 0), wI S 57 82 v) := fun v => by
    unfold f_M_mayBoth_B18
    rw [ti_pI hk, Option.bind_some, ti_gI (κ := 39) (by exact hk), Option.bind_some, ti_sI_eq]
    by_cases c : v = 0
    · rw [if_pos c, if_pos c]
    · rw [if_neg c, if_neg c]
  unfold f_M_mayBoth
  by_cases c1 : a = 0
  · rw [if_pos c1, if_pos c1, b18, if_neg (by decide)]
  · rw [if_neg c1, if_neg c1]
    by_cases c2 : b = 0
    · rw [if_pos c2, if_pos c2, b18, if_neg (by decide)]
    · rw [if_neg c2, if_neg c2, b18, if_pos rfl]
theorem x_may {T : Nat → Nat} {S : AS} {x : Option Nat} {a : Int32} (hT : TI T S) (hx : Tx T 100 x) (ha : In 0 1 a) : f_M_may S x a = some (a, wI S 57 82 (if a = 0 then 1 else 0)) := by
  obtain ⟨h1, h2, rfl⟩ := sgp hT hx (p := 57) rfl
  have hk : sK S 57 = 39 := (Tx.K hT h1 h2).trans rfl
  have hz : kr_z a = some () := by
    unfold kr_z
    rw [if_pos (In01 ha)]
  unfold f_M_may
  by_cases c : a = 0
  · rw [if_pos c, if_pos c, ti_pI hk, Option.bind_some, hz]
    rfl
  · rw [if_neg c, if_neg c, ti_pI hk, Option.bind_some, hz]
    rfl
theorem thr_Rl {T : Nat → Nat} {S : AS} {x : Option Nat} (hT : TI T S) (hx : Tx T 100 x) (v : Int32) : Rl T [10082] S 0 0 T (wI S 57 82 v) := by
  obtain ⟨h1, h2, -⟩ := sgp hT hx (p := 57) rfl
  exact RlwI (Rlrf hT) (TIwI hT h1 (fun _ _ q => by cases q) (fun _ _ _ q => by cases q) (by decide)) h1 (by decide) (by decide +kernel) (by unfold phc; decide)
def STP (S S' : AS) (n : Nat) (k a b y z : Int32) : Prop := ∀ p i, sI S' p i = if p = 57 ∧ i = 82 then 0 else if p = 66 ∧ i = 8 then Int32.ofNat (n + 1) else if (67 ≤ p ∧ p ≤ 71) ∧ i = 96 + n then (if p = 67 then k else if p = 68 then a else if p = 69 then b else if p = 70 then y else z) else sI S p i
def kw_st : List Nat := [10082, 11000, 11100, 11200, 11300, 11400, 11500]
theorem most_r {k : Int32} {a : Int32} (h : 0 ≤ a ∧ a ≤ most k) : In 0 20 a ∧ ((k = 0 ∨ k = 3) → In 0 2 a) := by
  have h' := In_iff.mp h
  rw [show (0 : Int32).toInt = 0 from by decide] at h'
  unfold most at h'
  refine ⟨?_, fun q => ?_⟩
  · split at h'
    · exact In_w h' (by decide) (by decide)
    · split at h'
      · exact In_w h' (by decide) (by decide)
      · split at h'
        · exact In_w h' (by decide) (by decide)
        · split at h'
          · exact In_w h' (by decide) (by decide)
          · split at h'
            · exact In_w h' (by decide) (by decide)
            · exact In_w h' (by decide) (by decide)
  · rcases q with rfl | rfl
    · rw [if_pos rfl] at h'
      exact In_w h' (by decide) (by decide)
    · rw [if_neg (by decide), if_neg (by decide), if_neg (by decide), if_pos rfl] at h'
      exact In_w h' (by decide) (by decide)
theorem t_M_stepX {T : Nat → Nat} {S : AS} {x : Option Nat} {k a b y z : Int32} {n : Nat} (hT : TI T S) (hx : Tx T 100 x) (hn : n ≤ 12) (hs8 : (sI S 66 8).toInt = (n : Int)) : Ho (f_M_step S x k a b y z) (fun q => Rl T kw_st S 0 0 T q.2 ∧ ((¬ OKS k a b y z ∧ q = (0, wI S 57 82 1)) ∨ (OKS k a b y z ∧ 12 ≤ n ∧ q = (0, wI S 57 82 2)) ∨ (OKS k a b y z ∧ n < 12 ∧ q.1 = Int32.ofNat n ∧ STP S q.2 n k a b y z))) := by
  have thr : ∀ v, Rl T kw_st S 0 0 T (wI S 57 82 v) := fun v => Rlweak (thr_Rl hT hx v) (by decide +kernel) (Nat.le_refl _) (Nat.le_refl _)
  refine t_M_step_ok (fun hok => ?_) (fun hno => ?_)
  · unfold f_M_step_B109 f_M_step_B114
    refine rd8 hT hx hs8 ?_
    refine r_if (fun c => ?_) (fun c => ?_)
    · have := Int32.le_iff_toInt_le.mp c
      rw [(gl2 n (by omega)).1, show (12 : Int32).toInt = 12 from by decide] at this
      unfold f_M_step_B136
      refine r_rv hT hx rfl ?_
      rw [x_mayBoth hT hx, if_neg (by decide), if_pos rfl, b2_s]
      exact r_ifT rfl (r_some ⟨thr 2, Or.inr (Or.inl ⟨hok, by omega, rfl⟩)⟩)
    · have hn12 : n < 12 := by
        refine Nat.not_le.mp (fun q => c (Int32.le_iff_toInt_le.mpr ?_))
        rw [(gl2 n (by omega)).1, show (12 : Int32).toInt = 12 from by decide]
        omega
      unfold f_M_step_B136
      refine r_rv hT hx rfl ?_
      rw [x_mayBoth hT hx, if_neg (by decide), if_neg (by decide), b2_s]
      refine r_ifF (by decide) ?_
      have g1 := thr 0
      have s1 : ∀ p i, sI (wI S 57 82 0) p i = if p = 57 ∧ i = 82 then 0 else sI S p i := fun p i => rfl
      generalize wI S 57 82 0 = S2 at *
      refine rd8 g1.1 hx (n := n) (by rw [s1, if_neg (by omega)]; exact hs8) ?_
      refine r_val ?_
      have hix : In 0 107 ((96 : Int32) + Int32.ofNat n) := ⟨by rw [(i96 hn12).1]; omega, by rw [(i96 hn12).1]; omega⟩
      obtain ⟨o1, o2, o3, o4⟩ := hok
      obtain ⟨m1, m2⟩ := most_r o2
      refine r_gR g1.1 hx rfl rfl (fun v7 h7 => ?_)
      refine r_bIs (w' := kw_st) g1 h7 rfl (p := 67) rfl rfl hix (by decide) (fun _ _ _ q => by cases q; exact o1) (fun _ => rfl) (by decide) (by decide +kernel) (fun _ => by unfold phc; omega) (fun S3 g3 e3 => ?_)
      refine r_gR g3.1 hx rfl rfl (fun v9 h9 => ?_)
      refine r_bIs (w' := kw_st) g3 h9 rfl (p := 68) rfl rfl hix (by decide) (fun _ _ _ q => by cases q; exact m1) (fun _ => rfl) (by decide) (by decide +kernel) (fun _ => by unfold phc; omega) (fun S4 g4 e4 => ?_)
      refine r_gR g4.1 hx rfl rfl (fun v11 h11 => ?_)
      refine r_bIs (w' := kw_st) g4 h11 rfl (p := 69) rfl rfl hix (by decide) (fun _ _ _ q => by cases q) (fun _ => rfl) (by decide) (by decide +kernel) (fun _ => by unfold phc; omega) (fun S5 g5 e5 => ?_)
      refine r_gR g5.1 hx rfl rfl (fun v13 h13 => ?_)
      refine r_bIs (w' := kw_st) g5 h13 rfl (p := 70) rfl rfl hix (by decide) (fun _ _ _ q => by cases q) (fun _ => rfl) (by decide) (by decide +kernel) (fun _ => by unfold phc; omega) (fun S6 g6 e6 => ?_)
      refine r_gR g6.1 hx rfl rfl (fun v15 h15 => ?_)
      refine r_bIs (w' := kw_st) g6 h15 rfl (p := 71) rfl rfl hix (by decide) (fun _ _ _ q => by cases q) (fun _ => rfl) (by decide) (by decide +kernel) (fun _ => by unfold phc; omega) (fun S7 g7 e7 => ?_)
      rw [(i96 hn12).2] at e3 e4 e5 e6 e7
      have f7 : ∀ p i, sI S7 p i = if (67 ≤ p ∧ p ≤ 71) ∧ i = 96 + n then (if p = 67 then k else if p = 68 then a else if p = 69 then b else if p = 70 then y else z) else sI S2 p i := by
        intro p i
        rw [e7, sI_if, e6, sI_if, e5, sI_if, e4, sI_if, e3, sI_if]
        by_cases ci : i = 96 + n
        · by_cases c1 : p = 67
          · rw [if_neg (by omega), if_neg (by omega), if_neg (by omega), if_neg (by omega), if_pos ⟨c1, ci⟩, if_pos ⟨by omega, ci⟩, if_pos c1]
          · by_cases c2 : p = 68
            · rw [if_neg (by omega), if_neg (by omega), if_neg (by omega), if_pos ⟨c2, ci⟩, if_pos ⟨by omega, ci⟩, if_neg c1, if_pos c2]
            · by_cases c3 : p = 69
              · rw [if_neg (by omega), if_neg (by omega), if_pos ⟨c3, ci⟩, if_pos ⟨by omega, ci⟩, if_neg c1, if_neg c2, if_pos c3]
              · by_cases c4 : p = 70
                · rw [if_neg (by omega), if_pos ⟨c4, ci⟩, if_pos ⟨by omega, ci⟩, if_neg c1, if_neg c2, if_neg c3, if_pos c4]
                · by_cases c5 : p = 71
                  · rw [if_pos ⟨c5, ci⟩, if_pos ⟨by omega, ci⟩, if_neg c1, if_neg c2, if_neg c3, if_neg c4]
                  · rw [if_neg (by omega), if_neg (by omega), if_neg (by omega), if_neg (by omega), if_neg (by omega), if_neg (by omega)]
        · rw [if_neg (by omega), if_neg (by omega), if_neg (by omega), if_neg (by omega), if_neg (by omega), if_neg (by omega)]
      clear e3 e4 e5 e6 e7
      have h8' : (sI S7 66 8).toInt = (n : Int) := by rw [f7, if_neg (by omega), s1, if_neg (by omega)]; exact hs8
      refine r_gR g7.1 hx rfl rfl (fun v17 h17 => ?_)
      refine r_aIs g7.1 h17 rfl (p := 66) rfl rfl (by decide : In 0 8 (8 : Int32)) (by decide) (fun v18 _ e18 => ?_)
      rw [toNat8] at e18
      have e18' : v18 + (1 : Int32) = Int32.ofNat (n + 1) := by
        rw [e18, ofNat_of h8']
        exact (Int32.ofNat_add n 1).symm
      rw [e18']
      refine r_bIs (w' := kw_st) g7 h17 rfl (p := 66) rfl rfl (by decide : In 0 8 (8 : Int32)) (by decide) (fun _ _ _ q => by cases q; exact ⟨by rw [(gl2 (n + 1) (by omega)).1]; omega, by rw [(gl2 (n + 1) (by omega)).1]; omega⟩) (fun _ => rfl) (by decide) (by decide +kernel) (fun _ => by unfold phc; omega) (fun S8 g8 e8 => ?_)
      rw [toNat8] at e8
      refine rd8 g8.1 hx (n := n + 1) (by rw [e8, ti_sI_eq, (gl2 (n + 1) (by omega)).1]) ?_
      have en : Int32.ofNat (n + 1) - (1 : Int32) = Int32.ofNat n := by
        have : ∀ n, n < 13 → Int32.ofNat (n + 1) - (1 : Int32) = Int32.ofNat n := by decide +kernel
        exact this n (by omega)
      rw [en]
      refine r_some ⟨g8, Or.inr (Or.inr ⟨⟨o1, o2, o3, o4⟩, hn12, rfl, fun p i => ?_⟩)⟩
      show sI S8 p i = _
      rw [e8, sI_if, f7, s1]
      by_cases c1 : p = 57 ∧ i = 82
      · rw [if_neg (by omega), if_neg (by omega), if_pos c1, if_pos c1]
      · rw [if_neg c1, if_neg c1]
  · unfold f_M_step_B113 f_M_step_B114
    refine rd8 hT hx hs8 ?_
    have fin : ∀ y2 : Int32, Ho (f_M_step_B136 S x k a b y z x 0 y2) (fun q => Rl T kw_st S 0 0 T q.2 ∧ ((¬ OKS k a b y z ∧ q = (0, wI S 57 82 1)) ∨ (OKS k a b y z ∧ 12 ≤ n ∧ q = (0, wI S 57 82 2)) ∨ (OKS k a b y z ∧ n < 12 ∧ q.1 = Int32.ofNat n ∧ STP S q.2 n k a b y z))) := fun y2 => by
      unfold f_M_step_B136
      refine r_rv hT hx rfl ?_
      rw [x_mayBoth hT hx, if_pos rfl, b2_s]
      exact r_ifT rfl (r_some ⟨thr 1, Or.inl ⟨hno, rfl⟩⟩)
    exact r_if (fun _ => fin 0) (fun _ => fin 1)
theorem t_M_clearX {T : Nat → Nat} {S : AS} {x : Option Nat} {n : Nat} (hT : TI T S) (hx : Tx T 100 x) (hn : n ≤ 12) (hs8 : (sI S 66 8).toInt = (n : Int)) : Ho (f_M_clear S x) (fun q => Rl T kw_st S 0 0 T q.2 ∧ q = (Int32.ofNat n, wI (wI S 57 82 0) 66 8 0)) := by
  obtain ⟨h1, h2, -⟩ := sgp hT hx (p := 57) rfl
  unfold f_M_clear
  refine r_pIs (w' := kw_st) (Rlrf hT) hx (fun _ _ q => by cases q) (by decide +kernel) (by unfold phc; decide) (fun S1 g1 e1 => ?_)
  refine r_gR g1.1 hx rfl rfl (fun v2 h2' => ?_)
  refine r_aIs g1.1 h2' rfl (p := 66) rfl rfl (by decide : In 0 8 (8 : Int32)) (by decide) (fun v3 _ e3 => ?_)
  refine r_gR g1.1 hx rfl rfl (fun v4 h4 => ?_)
  refine r_bIs (w' := kw_st) g1 h4 rfl (p := 66) rfl rfl (by decide : In 0 8 (8 : Int32)) (by decide) (fun _ _ _ q => by cases q; decide) (fun _ => rfl) (by decide) (by decide +kernel) (fun _ => by unfold phc; omega) (fun S5 g5 e5 => ?_)
  rw [toNat8] at e3 e5
  rw [e1, ti_sI_ne (by omega)] at e3
  rw [e1] at e5
  refine r_some ⟨g5, ?_⟩
  rw [e5, e3, ofNat_of hs8]
/-! rows below the draft -/
def lowS (S S' : AS) : Prop := ∀ p i, ((p = 66 ∧ i < 8) ∨ ((p = 67 ∨ p = 68 ∨ p = 70 ∨ p = 71) ∧ i < 96) ∨ (p = 57 ∧ i = 9)) → sI S' p i = sI S p i
theorem AC_low {T : Nat → Nat} {S S' : AS} {x : Option Nat} (hT : TI T S) (hx : Tx T 100 x) (h : AC S) (e : lowS S S') : AC S' := by
  intro v n hv hn
  rw [e 57 9 (by omega)] at hv
  obtain ⟨nv, hnv, hnv8⟩ := fld hT hx (j := 9) (b := 8) rfl
  have hv8 : v < 8 := by omega
  rw [e 66 v (by omega)] at hn
  obtain ⟨n', hn', hn12⟩ := steps_n hT hx (v := v) (by omega)
  obtain ⟨h1, h2, ρ, h3⟩ := h v n hv hn
  have hn2 : n ≤ 12 := by omega
  have et : ∀ k, k < 12 → (te S' (12 * v) k ↔ te S (12 * v) k) := fun k hk => by
    unfold te
    rw [e 67 _ (by omega)]
  have en : ∀ k t, k < 12 → (nx S' (12 * v) k t ↔ nx S (12 * v) k t) := fun k t hk => by
    unfold nx
    rw [e 70 _ (by omega), e 71 _ (by omega)]
  refine ⟨h1, fun k hk h5 => ?_, ρ, h3.1, fun k hk q1 t q2 q3 => ?_⟩
  · rw [e 67 _ (by omega)] at h5
    rw [e 70 _ (by omega), e 71 _ (by omega)]
    exact h2 k hk h5
  · have q1' := (et k (by omega)).mp q1
    have q2' := (en k t (by omega)).mp q2
    have htn : t < n := nxin_t h2 hk (by have := q1'.2; omega) q2'
    exact h3.2 k hk q1' t q2' ((et t (by omega)).mp q3)
theorem AKa_low {T : Nat → Nat} {S S' : AS} {x : Option Nat} {a : Nat} (hT : TI T S) (hx : Tx T 100 x) (h : AKa S a) (e : lowS S S') (h8 : sI S' 78 a = sI S 78 a) (h9 : sI S' 79 a = sI S 79 a) (h0 : sI S' 80 a = 0 → sI S 80 a = 0) : AKa S' a := by
  obtain ⟨v, n, a1, a2, a3, a4⟩ := h
  obtain ⟨nv, hnv, hnv8⟩ := fld hT hx (j := 9) (b := 8) rfl
  have hv8 : v < 8 := by omega
  obtain ⟨n', hn', hn12⟩ := steps_n hT hx (v := v) (by omega)
  refine ⟨v, n, by rw [h8]; exact a1, by rw [e 57 9 (by omega)]; exact a2, by rw [e 66 v (by omega)]; exact a3, fun q => ?_⟩
  obtain ⟨k, k1, k2, k3⟩ := a4 (h0 q)
  exact ⟨k, k1, by rw [h9]; exact k2, by rw [e 67 _ (by omega)]; exact k3⟩
theorem MI_step {T : Nat → Nat} {S : AS} {x : Option Nat} {k a b y z : Int32} {n : Nat} {q : Int32 × AS} (hT : TI T S) (hx : Tx T 100 x) (hn : n ≤ 12) (hM : MI S) (h : Rl T kw_st S 0 0 T q.2 ∧ ((¬ OKS k a b y z ∧ q = (0, wI S 57 82 1)) ∨ (OKS k a b y z ∧ 12 ≤ n ∧ q = (0, wI S 57 82 2)) ∨ (OKS k a b y z ∧ n < 12 ∧ q.1 = Int32.ofNat n ∧ STP S q.2 n k a b y z))) : MI q.2 := by
  obtain ⟨hR, h | h | ⟨hok, hn12, -, hp⟩⟩ := h
  · rw [h.2]
    exact MI_fr hM (thr_Rl hT hx 1) hx (by decide)
  · rw [h.2.2]
    exact MI_fr hM (thr_Rl hT hx 2) hx (by decide)
  · obtain ⟨o1, o2, o3, o4⟩ := hok
    have e : lowS S q.2 := fun p i hpi => by rw [hp, if_neg (by omega), if_neg (by omega), if_neg (by omega)]
    have o : ∀ p i, p ≠ 66 → p ≠ 67 → p ≠ 68 → p ≠ 69 → p ≠ 70 → p ≠ 71 → ¬ (p = 57 ∧ i = 82) → sI q.2 p i = sI S p i := fun p i h1 h2 h3 h4 h5 h6 h7 => by rw [hp, if_neg h7, if_neg (by omega), if_neg (by omega)]
    refine ⟨fun i hi => ?_, AC_low hT hx hM.2.1 e, fun c hc => ?_, by have h1 := hR.2.2.2.1.2.2.2; have h2 := hM.2.2.2; omega⟩
    · by_cases ci : i = 96 + n
      · have q7 : sI q.2 67 i = k := by rw [hp, if_neg (by omega), if_neg (by omega), if_pos ⟨by omega, ci⟩, if_pos rfl]
        have q8 : sI q.2 68 i = a := by rw [hp, if_neg (by omega), if_neg (by omega), if_pos ⟨by omega, ci⟩, if_neg (by decide), if_pos rfl]
        have q0 : sI q.2 70 i = y := by rw [hp, if_neg (by omega), if_neg (by omega), if_pos ⟨by omega, ci⟩, if_neg (by decide), if_neg (by decide), if_neg (by decide), if_pos rfl]
        have q1 : sI q.2 71 i = z := by rw [hp, if_neg (by omega), if_neg (by omega), if_pos ⟨by omega, ci⟩, if_neg (by decide), if_neg (by decide), if_neg (by decide), if_neg (by decide)]
        rw [q7, q8, q0, q1]
        exact ⟨(most_r o2).2, o4⟩
      · have g : ∀ p, p = 67 ∨ p = 68 ∨ p = 70 ∨ p = 71 → sI q.2 p i = sI S p i := fun p h => by rw [hp, if_neg (by omega), if_neg (by omega), if_neg (by omega)]
        rw [g 67 (by omega), g 68 (by omega), g 70 (by omega), g 71 (by omega)]
        exact hM.1 i hi
    · rw [o 57 19 (by omega) (by omega) (by omega) (by omega) (by omega) (by omega) (by omega)] at hc
      exact AKa_low hT hx (hM.2.2.1 c hc) e (o 78 c (by omega) (by omega) (by omega) (by omega) (by omega) (by omega) (by omega)) (o 79 c (by omega) (by omega) (by omega) (by omega) (by omega) (by omega) (by omega)) (fun z => by rw [← o 80 c (by omega) (by omega) (by omega) (by omega) (by omega) (by omega) (by omega)]; exact z)
theorem MI_clear {T : Nat → Nat} {S S' : AS} {x : Option Nat} (hT : TI T S) (hx : Tx T 100 x) (hM : MI S) (hR : Rl T kw_st S 0 0 T S') (h : S' = wI (wI S 57 82 0) 66 8 0) : MI S' := by
  have o : ∀ p i, ¬ (p = 66 ∧ i = 8) → ¬ (p = 57 ∧ i = 82) → sI S' p i = sI S p i := fun p i h1 h2 => by rw [h, ti_sI_ne h1, ti_sI_ne h2]
  have e : lowS S S' := fun p i hpi => o p i (by omega) (by omega)
  refine ⟨fun i hi => ?_, AC_low hT hx hM.2.1 e, fun c hc => ?_, by have h1 := hR.2.2.2.1.2.2.2; have h2 := hM.2.2.2; omega⟩
  · rw [o 67 i (by omega) (by omega), o 68 i (by omega) (by omega), o 70 i (by omega) (by omega), o 71 i (by omega) (by omega)]
    exact hM.1 i hi
  · rw [o 57 19 (by omega) (by omega)] at hc
    exact AKa_low hT hx (hM.2.2.1 c hc) e (o 78 c (by omega) (by omega)) (o 79 c (by omega) (by omega)) (fun z => by rw [← o 80 c (by omega) (by omega)]; exact z)
theorem MI_publish {T : Nat → Nat} {S : AS} {x : Option Nat} {n v : Nat} {q : Int32 × AS} (hT : TI T S) (hx : Tx T 100 x) (hn : n ≤ 12) (hv : sI S 57 9 = Int32.ofNat v) (hM : MI S) (h : Rl T (10082 :: kw_pub) S 0 0 T q.2 ∧ ((PUB S n ∧ q.1 = Int32.ofNat v ∧ PUBS (wI S 57 82 0) q.2 v n) ∨ (¬ PUB S n ∧ q = (0, wI S 57 82 1)))) (hv8 : v ≤ 8) : MI q.2 := by
  obtain ⟨hR, ⟨hP, -, hp⟩ | h⟩ := h
  · obtain ⟨n0, hv7, hnx, ρ, hrk⟩ := hP
    have hv9 : (sI S 57 9).toInt = (v : Int) := by rw [hv, (gl2 v (by omega)).1]
    have hv8' : v < 8 := by omega
    have o : ∀ p i, ¬ (p = 57 ∧ i = 9) → ¬ (p = 57 ∧ i = 82) → p ≠ 66 → ¬ ((67 ≤ p ∧ p ≤ 71) ∧ 12 * v ≤ i ∧ i < 12 * v + n) → sI q.2 p i = sI S p i := fun p i h1 h2 h3 h4 => by rw [hp, if_neg h1, if_neg (by omega), if_neg (by omega), if_neg h4, ti_sI_ne h2]
    have cpy : ∀ p i, (67 ≤ p ∧ p ≤ 71) → i < n → sI q.2 p (12 * v + i) = sI S p (96 + i) := fun p i h1 h2 => by
      rw [hp, if_neg (by omega), if_neg (by omega), if_neg (by omega), if_pos (by omega), ti_sI_ne (by omega)]
      congr 1
      omega
    have o66 : ∀ i, i ≠ 8 → i ≠ v → sI q.2 66 i = sI S 66 i := fun i h1 h2 => by rw [hp, if_neg (by omega), if_neg (by omega), if_neg (by omega), if_neg (by omega), ti_sI_ne (by omega)]
    have n66 : sI q.2 66 v = Int32.ofNat n := by rw [hp, if_neg (by omega), if_neg (by omega), if_pos ⟨rfl, rfl⟩]
    have v9 : (sI q.2 57 9).toInt = (v + 1 : Nat) := by rw [hp, if_pos ⟨rfl, rfl⟩, (gl2 (v + 1) (by omega)).1]
    refine ⟨fun i hi => ?_, fun w m hw hm => ?_, fun c hc => ?_, by have h1 := hR.2.2.2.1.2.2.2; have h2 := hM.2.2.2; omega⟩
    · by_cases ci : 12 * v ≤ i ∧ i < 12 * v + n
      · obtain ⟨j, rfl⟩ : ∃ j, i = 12 * v + j := ⟨i - 12 * v, by omega⟩
        rw [cpy 67 j (by omega) (by omega), cpy 68 j (by omega) (by omega), cpy 70 j (by omega) (by omega), cpy 71 j (by omega) (by omega)]
        exact hM.1 (96 + j) (by omega)
      · rw [o 67 i (by omega) (by omega) (by omega) (by omega), o 68 i (by omega) (by omega) (by omega) (by omega), o 70 i (by omega) (by omega) (by omega) (by omega), o 71 i (by omega) (by omega) (by omega) (by omega)]
        exact hM.1 i hi
    · rw [v9] at hw
      by_cases cw : w = v
      · subst cw
        have hmn : m = n := by
          rw [n66, (gl2 n (by omega)).1] at hm
          omega
        subst hmn
        have et : ∀ k, k < m → (te q.2 (12 * w) k ↔ te S 96 k) := fun k hk => by
          unfold te
          rw [cpy 67 k (by omega) hk]
        have en : ∀ k t, k < m → (nx q.2 (12 * w) k t ↔ nx S 96 k t) := fun k t hk => by
          unfold nx
          rw [cpy 70 k (by omega) hk, cpy 71 k (by omega) hk]
        refine ⟨n0, fun k hk h5 => ?_, ρ, hrk.1, fun k hk q1 t q2 q3 => ?_⟩
        · rw [cpy 67 k (by omega) hk] at h5
          rw [cpy 70 k (by omega) hk, cpy 71 k (by omega) hk]
          exact hnx k hk h5
        · have q1' := (et k hk).mp q1
          have q2' := (en k t hk).mp q2
          have htn : t < m := nxin_t hnx hk (by have := q1'.2; omega) q2'
          exact hrk.2 k hk q1' t q2' ((et t htn).mp q3)
      · have hwv : w < v := by omega
        rw [o66 w (by omega) cw] at hm
        obtain ⟨m', hm', hm12⟩ := steps_n hT hx (v := w) (by omega)
        obtain ⟨h1, h2, ρ', h3⟩ := hM.2.1 w m (by omega) hm
        have lo : ∀ p k, (67 ≤ p ∧ p ≤ 71) → k < 12 → sI q.2 p (12 * w + k) = sI S p (12 * w + k) := fun p k hp' hk => o p _ (by omega) (by omega) (by omega) (by omega)
        have et : ∀ k, k < 12 → (te q.2 (12 * w) k ↔ te S (12 * w) k) := fun k hk => by
          unfold te
          rw [lo 67 k (by omega) hk]
        have en : ∀ k t, k < 12 → (nx q.2 (12 * w) k t ↔ nx S (12 * w) k t) := fun k t hk => by
          unfold nx
          rw [lo 70 k (by omega) hk, lo 71 k (by omega) hk]
        refine ⟨h1, fun k hk h5 => ?_, ρ', h3.1, fun k hk q1 t q2 q3 => ?_⟩
        · rw [lo 67 k (by omega) (by omega)] at h5
          rw [lo 70 k (by omega) (by omega), lo 71 k (by omega) (by omega)]
          exact h2 k hk h5
        · have q1' := (et k (by omega)).mp q1
          have q2' := (en k t (by omega)).mp q2
          have htn : t < m := nxin_t h2 hk (by have := q1'.2; omega) q2'
          exact h3.2 k hk q1' t q2' ((et t (by omega)).mp q3)
    · rw [o 57 19 (by omega) (by omega) (by omega) (by omega)] at hc
      obtain ⟨w, m, a1, a2, a3, a4⟩ := hM.2.2.1 c hc
      have hwv : w < v := by omega
      obtain ⟨m', hm', hm12⟩ := steps_n hT hx (v := w) (by omega)
      refine ⟨w, m, by rw [o 78 c (by omega) (by omega) (by omega) (by omega)]; exact a1, by rw [v9]; omega, by rw [o66 w (by omega) (by omega)]; exact a3, fun z => ?_⟩
      rw [o 80 c (by omega) (by omega) (by omega) (by omega)] at z
      obtain ⟨k, k1, k2, k3⟩ := a4 z
      exact ⟨k, k1, by rw [o 79 c (by omega) (by omega) (by omega) (by omega)]; exact k2, by rw [o 67 _ (by omega) (by omega) (by omega) (by omega)]; exact k3⟩
  · rw [h.2]
    exact MI_fr hM (thr_Rl hT hx 1) hx (by decide)
