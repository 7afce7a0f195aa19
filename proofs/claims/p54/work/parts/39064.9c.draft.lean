/-! ===== the draft: the class's and the reference's steps, exactly ===== -/
def DR (T : Nat → Nat) (S : AS) (f n : Nat) (r : Nat → Nat) : Prop :=
  sR S 4 5 = some f ∧ T f = 40 ∧ n ≤ 12 ∧ sI S f 5 = Int32.ofNat n ∧ sI S 66 8 = Int32.ofNat n ∧
  (∀ j, j < 5 → sR S f j = some (r j) ∧ T (r j) = 41) ∧ (∀ i j, i < 5 → j < 5 → r i = r j → i = j) ∧
  (∀ j k, j < 5 → k < n → sI S (r j) k = sI S (67 + j) (96 + k))
def kr_rc5 : List Nat := [2002, 10009, 50105, 4005, 4100, 54000, 54001, 54002, 54003, 54004, 11000, 11100, 11200, 11300, 11400, 11500]
theorem rc_no {w : List Nat} (h : kr_rc5.all (fun z => !w.contains z) = true) {z : Nat} (hz : z ∈ kr_rc5) : ¬ z ∈ w := fun q => by
  have := List.all_eq_true.mp h z hz
  rw [List.contains_iff_mem.mpr q] at this
  cases this
theorem md_ty {T : Nat → Nat} {S : AS} (hT : TI T S) {j τ p : Nat} (a : ft 100 j = some τ) (b : sg τ = some p) : T p = τ ∧ τ ≠ 0 := sg_p hT ⟨57, rfl, hT.t9.1, by decide⟩ a b
theorem DR_fr {T T' : Nat → Nat} {w : List Nat} {S S' : AS} {c s f n : Nat} {r : Nat → Nat} (h : DR T S f n r) (hR : Rl T w S c s T' S') (hw : kr_rc5.all (fun z => !w.contains z) = true) : DR T' S' f n r := by
  have hT : TI T S := hR.2.2.2.2.2.2.2.2
  obtain ⟨a1, a2, a3, a4, a5, a6, a7, a8⟩ := h
  have no := fun {z} => rc_no hw (z := z)
  have hm : ∀ p τ, 110 ≤ τ → τ < 116 → T p = τ → ∀ i, sI S' p i = sI S p i := fun p τ h1 h2 e i => by
    refine hR.fI p i (by rw [e]; omega) ?_
    rw [e, show cl τ i = 100 * τ from if_neg (by
      have : τ = 110 ∨ τ = 111 ∨ τ = 112 ∨ τ = 113 ∨ τ = 114 ∨ τ = 115 := by omega
      rcases this with rfl | rfl | rfl | rfl | rfl | rfl <;> decide)]
    have : τ = 110 ∨ τ = 111 ∨ τ = 112 ∨ τ = 113 ∨ τ = 114 ∨ τ = 115 := by omega
    rcases this with rfl | rfl | rfl | rfl | rfl | rfl <;> exact no (by decide)
  have m : ∀ j, j < 6 → T (66 + j) = 110 + j := fun j hj => by
    match j, hj with
    | 0, _ => exact (md_ty hT (j := 10) rfl rfl).1
    | 1, _ => exact (md_ty hT (j := 11) rfl rfl).1
    | 2, _ => exact (md_ty hT (j := 12) rfl rfl).1
    | 3, _ => exact (md_ty hT (j := 13) rfl rfl).1
    | 4, _ => exact (md_ty hT (j := 14) rfl rfl).1
    | 5, _ => exact (md_ty hT (j := 15) rfl rfl).1
  have e4 : T 4 = 1 := hT.t9.2.2.2.2.1
  refine ⟨?_, ?_, a3, ?_, ?_, fun j hj => ?_, a7, fun j k hj hk => ?_⟩
  · rw [hR.fR 4 5 (by rw [e4]; decide) (by rw [e4]; exact no (by decide))]
    exact a1
  · rw [hR.ty f (by rw [a2]; decide)]
    exact a2
  · rw [hR.fI f 5 (by rw [a2]; decide) (by rw [a2]; exact no (by decide))]
    exact a4
  · rw [hm 66 110 (by decide) (by decide) (m 0 (by decide))]
    exact a5
  · obtain ⟨b1, b2⟩ := a6 j hj
    refine ⟨?_, ?_⟩
    · rw [hR.fR f j (by rw [a2]; decide) (by
        rw [a2]
        match j, hj with
        | 0, _ => exact no (by decide)
        | 1, _ => exact no (by decide)
        | 2, _ => exact no (by decide)
        | 3, _ => exact no (by decide)
        | 4, _ => exact no (by decide))]
      exact b1
    · rw [hR.ty _ (by rw [b2]; decide)]
      exact b2
  · obtain ⟨b1, b2⟩ := a6 j hj
    rw [hR.fI (r j) k (by rw [b2]; decide) (by rw [b2]; exact no (by rw [show cl 41 k = 4100 from if_neg (by decide)]; decide)), hm (67 + j) (111 + j) (by omega) (by omega) (by rw [show 67 + j = 66 + (1 + j) by omega, m (1 + j) (by omega)]; omega)]
    exact a8 j k hj hk
def z_r (j : Nat) : Nat := 12 + j
theorem DR_K {T : Nat → Nat} {S : AS} {f n : Nat} {r : Nat → Nat} (hT : TI T S) (h : DR T S f n r) : sK S 4 = 22 ∧ sK S f = 13 ∧ (∀ j, j < 5 → sK S (r j) = 40 ∧ sL S (r j) = 12 ∧ r j ≠ f) ∧ f ≠ 57 ∧ (∀ p, 66 ≤ p → p ≤ 71 → p ≠ f ∧ ∀ j, j < 5 → r j ≠ p) ∧ (∀ j, j < 5 → r j ≠ 57) := by
  obtain ⟨a1, a2, a3, a4, a5, a6, a7, a8⟩ := h
  have m : ∀ j, j < 6 → T (66 + j) = 110 + j := fun j hj => by
    match j, hj with
    | 0, _ => exact (md_ty hT (j := 10) rfl rfl).1
    | 1, _ => exact (md_ty hT (j := 11) rfl rfl).1
    | 2, _ => exact (md_ty hT (j := 12) rfl rfl).1
    | 3, _ => exact (md_ty hT (j := 13) rfl rfl).1
    | 4, _ => exact (md_ty hT (j := 14) rfl rfl).1
    | 5, _ => exact (md_ty hT (j := 15) rfl rfl).1
  have t57 := hT.t9.1
  refine ⟨Tx.K hT hT.t9.2.2.2.2.1 (by decide), Tx.K hT a2 (by decide), fun j hj => ⟨Tx.K hT (a6 j hj).2 (by decide), (hT.t1 (r j) (by rw [(a6 j hj).2]; decide)).2.2.2 12 (by rw [(a6 j hj).2]; rfl), fun q => ?_⟩, fun q => ?_, fun p h1 h2 => ⟨fun q => ?_, fun j hj q => ?_⟩, fun j hj q => ?_⟩
  · have := (a6 j hj).2
    rw [q, a2] at this
    cases this
  · rw [q, t57] at a2
    cases a2
  · have := m (p - 66) (by omega)
    rw [show 66 + (p - 66) = p by omega, q, a2] at this
    omega
  · have := m (p - 66) (by omega)
    rw [show 66 + (p - 66) = p by omega, ← q, (a6 j hj).2] at this
    omega
  · have := (a6 j hj).2
    rw [q, t57] at this
    cases this
def KS (S : AS) (f n : Nat) (r : Nat → Nat) (k a b y z : Int32) : AS := wI (wI (wI (wI (wI (wI S (r 0) n k) (r 1) n a) (r 2) n b) (r 3) n y) (r 4) n z) f 5 (Int32.ofNat (n + 1))
theorem x_add {T : Nat → Nat} {S : AS} {f n : Nat} {r : Nat → Nat} (hT : TI T S) (h : DR T S f n r) (k a b y z : Int32) (hn : n < 12) : f_Flow_add S (some f) k a b y z = some (Int32.ofNat n, KS S f n r k a b y z) := by
  obtain ⟨K4, Kf, Kr, -⟩ := DR_K hT h
  obtain ⟨a1, a2, a3, a4, a5, a6, a7, a8⟩ := h
  have nf : ∀ j, j < 5 → ∀ {S' : AS} {v : Int32}, sI (wI S' (r j) n v) f 5 = sI S' f 5 := fun j hj => ti_sI_ne (fun q => (Kr j hj).2.2 q.1.symm)
  have i1 := (gl2 n (by omega)).1
  have l : ∀ j, j < 5 → n < sL S (r j) := fun j hj => by rw [(Kr j hj).2.1]; exact hn
  unfold f_Flow_add
  rw [x_g Kf a4, Option.bind_some, if_neg (fun q => by
      have := Int32.lt_iff_toInt_lt.mp q
      rw [i1, show (0 : Int32).toInt = 0 from by decide] at this
      omega), Option.bind_some, if_pos (Int32.lt_iff_toInt_lt.mpr (by rw [i1, show (12 : Int32).toInt = 12 from by decide]; omega)),
    x_r Kf (a6 0 (by omega)).1, Option.bind_some, Option.bind_some, x_b (Kr 0 (by omega)).1 (l 0 (by omega)) (by omega), Option.bind_some,
    x_r (S := wI S (r 0) n k) Kf (a6 1 (by omega)).1, Option.bind_some, x_g (S := wI S (r 0) n k) Kf ((nf 0 (by omega)).trans a4), Option.bind_some, x_b (S := wI S (r 0) n k) (Kr 1 (by omega)).1 (l 1 (by omega)) (by omega), Option.bind_some,
    x_r (S := wI (wI S (r 0) n k) (r 1) n a) Kf (a6 2 (by omega)).1, Option.bind_some, x_g (S := wI (wI S (r 0) n k) (r 1) n a) Kf (((nf 1 (by omega)).trans (nf 0 (by omega))).trans a4), Option.bind_some, x_b (S := wI (wI S (r 0) n k) (r 1) n a) (Kr 2 (by omega)).1 (l 2 (by omega)) (by omega), Option.bind_some,
    x_r (S := wI (wI (wI S (r 0) n k) (r 1) n a) (r 2) n b) Kf (a6 3 (by omega)).1, Option.bind_some, x_g (S := wI (wI (wI S (r 0) n k) (r 1) n a) (r 2) n b) Kf ((((nf 2 (by omega)).trans (nf 1 (by omega))).trans (nf 0 (by omega))).trans a4), Option.bind_some, x_b (S := wI (wI (wI S (r 0) n k) (r 1) n a) (r 2) n b) (Kr 3 (by omega)).1 (l 3 (by omega)) (by omega), Option.bind_some,
    x_r (S := wI (wI (wI (wI S (r 0) n k) (r 1) n a) (r 2) n b) (r 3) n y) Kf (a6 4 (by omega)).1, Option.bind_some, x_g (S := wI (wI (wI (wI S (r 0) n k) (r 1) n a) (r 2) n b) (r 3) n y) Kf (((((nf 3 (by omega)).trans (nf 2 (by omega))).trans (nf 1 (by omega))).trans (nf 0 (by omega))).trans a4), Option.bind_some, x_b (S := wI (wI (wI (wI S (r 0) n k) (r 1) n a) (r 2) n b) (r 3) n y) (Kr 4 (by omega)).1 (l 4 (by omega)) (by omega), Option.bind_some,
    x_g (S := wI (wI (wI (wI (wI S (r 0) n k) (r 1) n a) (r 2) n b) (r 3) n y) (r 4) n z) Kf ((((((nf 4 (by omega)).trans (nf 3 (by omega))).trans (nf 2 (by omega))).trans (nf 1 (by omega))).trans (nf 0 (by omega))).trans a4), Option.bind_some,
    ti_pI (S := wI (wI (wI (wI (wI S (r 0) n k) (r 1) n a) (r 2) n b) (r 3) n y) (r 4) n z) Kf, Option.bind_some, x_g (S := wI (wI (wI (wI (wI (wI S (r 0) n k) (r 1) n a) (r 2) n b) (r 3) n y) (r 4) n z) f 5 (Int32.ofNat n + 1)) Kf (ti_sI_eq _ f 5 _), Option.bind_some]
  have e1 : Int32.ofNat n + 1 = Int32.ofNat (n + 1) := by rw [Int32.ofNat_add]; rfl
  rw [Int32.add_sub_cancel, e1]
  rfl
theorem x_K_step {T : Nat → Nat} {S : AS} {f n : Nat} {r : Nat → Nat} (hT : TI T S) (h : DR T S f n r) (k a b y z : Int32) : Ho (f_K_step S (some 4) k a b y z) (fun q => (¬ OKS k a b y z ∧ q = (.inr "java/lang/IllegalArgumentException", wX S)) ∨ (OKS k a b y z ∧ 12 ≤ n ∧ q = (.inr "java/lang/IllegalStateException", wX S)) ∨ (OKS k a b y z ∧ n < 12 ∧ q = (.inl (Int32.ofNat n), KS S f n r k a b y z))) := by
  obtain ⟨K4, Kf, Kr, -⟩ := DR_K hT h
  have i1 := (gl2 n (by have := h.2.2.1; omega)).1
  unfold f_K_step
  refine r_b2 (t_isStep S k a b y z) (fun v S' p => ?_)
  obtain ⟨e, p⟩ := p
  have e : S' = S := e
  rw [e]
  rcases p with ⟨p, hok⟩ | ⟨p, hno⟩
  · have p : v = 1 := p
    rw [p, rA1, bx_l, ti_gR K4, Option.bind_some, h.1, x_g Kf h.2.2.2.1, Option.bind_some]
    refine r_if (fun c => ?_) (fun c => ?_)
    · have := Int32.le_iff_toInt_le.mp c
      rw [i1, show (12 : Int32).toInt = 12 from by decide] at this
      unfold f_K_step_B30
      rw [rS0, bx_r]
      exact r_some (Or.inr (Or.inl ⟨hok, by omega, rfl⟩))
    · have hn12 : n < 12 := by
        refine Nat.not_le.mp (fun q => c (Int32.le_iff_toInt_le.mpr ?_))
        rw [i1, show (12 : Int32).toInt = 12 from by decide]
        omega
      unfold f_K_step_B30
      rw [rS1, bx_l, ti_gR K4, Option.bind_some, h.1, ti_rv Kf, Option.bind_some, x_add hT h k a b y z hn12, b2_s]
      exact r_some (Or.inr (Or.inr ⟨hok, hn12, rfl⟩))
  · have p : v = 0 := p
    rw [p, rA0, bx_r]
    exact r_some (Or.inl ⟨hno, rfl⟩)
theorem x_K_clear {T : Nat → Nat} {S : AS} {f n : Nat} {r : Nat → Nat} (hT : TI T S) (h : DR T S f n r) : f_K_clear S (some 4) = some (Int32.ofNat n, wI S f 5 0) := by
  obtain ⟨K4, Kf, -⟩ := DR_K hT h
  unfold f_K_clear
  rw [ti_gR K4, Option.bind_some, h.1, x_g Kf h.2.2.2.1, Option.bind_some, Option.bind_some, ti_pI Kf, Option.bind_some]
def vl (k a b y z : Int32) (j : Nat) : Int32 := if j = 0 then k else if j = 1 then a else if j = 2 then b else if j = 3 then y else z
theorem KS_f {S : AS} {f n : Nat} {r : Nat → Nat} {k a b y z : Int32} : sI (KS S f n r k a b y z) f 5 = Int32.ofNat (n + 1) := ti_sI_eq _ f 5 _
theorem KS_o {S : AS} {f n p : Nat} {r : Nat → Nat} {k a b y z : Int32} (h : p ≠ f) (hr : ∀ j, j < 5 → r j ≠ p) (i : Nat) : sI (KS S f n r k a b y z) p i = sI S p i := by
  unfold KS
  rw [ti_sI_ne (fun q => h q.1), ti_sI_ne (fun q => hr 4 (by decide) q.1.symm), ti_sI_ne (fun q => hr 3 (by decide) q.1.symm), ti_sI_ne (fun q => hr 2 (by decide) q.1.symm), ti_sI_ne (fun q => hr 1 (by decide) q.1.symm), ti_sI_ne (fun q => hr 0 (by decide) q.1.symm)]
theorem KS_r {S : AS} {f n j i : Nat} {r : Nat → Nat} {k a b y z : Int32} (hf : ∀ j, j < 5 → r j ≠ f) (hd : ∀ i j, i < 5 → j < 5 → r i = r j → i = j) (hj : j < 5) : sI (KS S f n r k a b y z) (r j) i = if i = n then vl k a b y z j else sI S (r j) i := by
  have ne : ∀ i', i' < 5 → i' ≠ j → ¬ (r j = r i' ∧ i = n) := fun i' h h' q => h' (hd i' j h hj q.1.symm)
  unfold KS
  rw [ti_sI_ne (fun q => hf j hj q.1)]
  by_cases c : i = n
  · subst c
    rw [if_pos rfl]
    have w : ∀ (S' : AS) (v : Int32), sI (wI S' (r j) i v) (r j) i = v := fun S' v => ti_sI_eq S' _ _ v
    match j, hj with
    | 0, _ => rw [ti_sI_ne (ne 4 (by decide) (by decide)), ti_sI_ne (ne 3 (by decide) (by decide)), ti_sI_ne (ne 2 (by decide) (by decide)), ti_sI_ne (ne 1 (by decide) (by decide)), w]; rfl
    | 1, _ => rw [ti_sI_ne (ne 4 (by decide) (by decide)), ti_sI_ne (ne 3 (by decide) (by decide)), ti_sI_ne (ne 2 (by decide) (by decide)), w]; rfl
    | 2, _ => rw [ti_sI_ne (ne 4 (by decide) (by decide)), ti_sI_ne (ne 3 (by decide) (by decide)), w]; rfl
    | 3, _ => rw [ti_sI_ne (ne 4 (by decide) (by decide)), w]; rfl
    | 4, _ => rw [w]; rfl
  · rw [if_neg c, ti_sI_ne (fun q => c q.2), ti_sI_ne (fun q => c q.2), ti_sI_ne (fun q => c q.2), ti_sI_ne (fun q => c q.2), ti_sI_ne (fun q => c q.2)]
theorem DR_T {T T' : Nat → Nat} {S : AS} {f n : Nat} {r : Nat → Nat} (h : DR T S f n r) (e : ∀ k, T k ≠ 0 → T' k = T k) : DR T' S f n r := by
  obtain ⟨a1, a2, a3, a4, a5, a6, a7, a8⟩ := h
  exact ⟨a1, (e f (by rw [a2]; decide)).trans a2, a3, a4, a5, fun j hj => ⟨(a6 j hj).1, (e _ (by rw [(a6 j hj).2]; decide)).trans (a6 j hj).2⟩, a7, a8⟩
def KST (S S1 : AS) (f n : Nat) (r : Nat → Nat) (k a b y z : Int32) : Prop := (∀ p j, sR S1 p j = sR S p j) ∧ sI S1 f 5 = Int32.ofNat (n + 1) ∧ (∀ p, p ≠ f → (∀ j, j < 5 → r j ≠ p) → ∀ i, sI S1 p i = sI S p i) ∧ (∀ j i, j < 5 → sI S1 (r j) i = if i = n then vl k a b y z j else sI S (r j) i)
theorem KST_of {S : AS} {f n : Nat} {r : Nat → Nat} {k a b y z : Int32} (hf : ∀ j, j < 5 → r j ≠ f) (hd : ∀ i j, i < 5 → j < 5 → r i = r j → i = j) (v : Int64) : KST S (wJ (KS S f n r k a b y z) 126 0 v) f n r k a b y z := by
  refine ⟨fun p j => ?_, ?_, fun p h1 h2 i => ?_, fun j i hj => ?_⟩
  · rw [sR_wJ]
    unfold KS
    rw [sR_wI, sR_wI, sR_wI, sR_wI, sR_wI, sR_wI]
  · rw [sI_wJ]
    exact KS_f
  · rw [sI_wJ]
    exact KS_o h1 h2 i
  · rw [sI_wJ]
    exact KS_r hf hd hj
theorem DR_step {T T1 : Nat → Nat} {w : List Nat} {S S1 S2 : AS} {f n c s : Nat} {r : Nat → Nat} {k a b y z : Int32} (hT : TI T S) (h : DR T S f n r) (hn : n < 12) (h1 : KST S S1 f n r k a b y z) (hty : ∀ k, T k ≠ 0 → T1 k = T k) (g : Rl T1 w S1 c s T1 S2) (hw : ∀ z ∈ w, z < 50000) (hs : STP S1 S2 n k a b y z) : DR T1 S2 f (n + 1) r := by
  obtain ⟨K4, Kf, Kr, f57, k6, r57⟩ := DR_K hT h
  obtain ⟨b1, b2, b3, b4⟩ := h1
  have h' := DR_T h hty
  obtain ⟨a1, a2, a3, a4, a5, a6, a7, a8⟩ := h'
  have nm : ∀ z, 50000 ≤ z → ¬ z ∈ w := fun z h q => by
    have := hw z q
    omega
  have hI : ∀ p i, p ≠ 57 → (∀ q, 66 ≤ q → q ≤ 71 → p ≠ q) → sI S2 p i = sI S1 p i := fun p i h1 h2 => by
    rw [hs p i, if_neg (fun q => h1 q.1), if_neg (fun q => h2 66 (by decide) (by decide) q.1), if_neg (fun q => h2 p (by omega) (by omega) rfl)]
  refine ⟨?_, a2, by omega, ?_, ?_, fun j hj => ⟨?_, (a6 j hj).2⟩, a7, fun j i hj hi => ?_⟩
  · rw [g.fR 4 5 (by rw [hty 4 (by rw [hT.t9.2.2.2.2.1]; decide), hT.t9.2.2.2.2.1]; decide) (nm _ (by unfold cr; omega)), b1]
    exact a1
  · rw [hI f 5 f57 (fun q h1 h2 e => (k6 q h1 h2).1 e.symm)]
    exact b2
  · rw [hs 66 8, if_neg (by decide), if_pos ⟨rfl, rfl⟩]
  · rw [g.fR f j (by rw [a2]; decide) (nm _ (by unfold cr; omega)), b1]
    exact (a6 j hj).1
  · have e := hs (67 + j) (96 + i)
    rw [if_neg (show ¬ (67 + j = 57 ∧ 96 + i = 82) by omega), if_neg (show ¬ (67 + j = 66 ∧ 96 + i = 8) by omega)] at e
    rw [hI (r j) i (r57 j hj) (fun q h1 h2 e => (k6 q h1 h2).2 j hj e), b4 j i hj]
    by_cases c : i = n
    · rw [if_pos (show (67 ≤ 67 + j ∧ 67 + j ≤ 71) ∧ 96 + i = 96 + n by omega)] at e
      rw [if_pos c, e]
      unfold vl
      match j, hj with
      | 0, _ => rfl
      | 1, _ => rfl
      | 2, _ => rfl
      | 3, _ => rfl
      | 4, _ => rfl
    · rw [if_neg (show ¬ ((67 ≤ 67 + j ∧ 67 + j ≤ 71) ∧ 96 + i = 96 + n) by omega)] at e
      rw [if_neg c, e, b3 (67 + j) (k6 (67 + j) (by omega) (by omega)).1 (k6 (67 + j) (by omega) (by omega)).2]
      exact a8 j i hj (by omega)
theorem DR_X {T : Nat → Nat} {S : AS} {f n : Nat} {r : Nat → Nat} (h : DR T S f n r) : DR T (wX S) f n r := h
theorem x_aI {S : AS} {k n : Nat} {v : Int32} (h : sK S k = 40) (hl : n < sL S k) (hn : n ≤ 300) (e : sI S k n = v) : aI S 40 (some k) (Int32.ofNat n) = some v := by
  obtain ⟨e1, e2⟩ := gl2 n (by omega)
  unfold aI
  rw [Option.bind_some, if_pos ⟨h, by rw [e1]; omega, by rw [e1]; omega⟩, e2, e]
theorem x_there {S : AS} {f n : Nat} (Kf : sK S f = 13) (a4 : sI S f 5 = Int32.ofNat n) (hn : n ≤ 12) (v : Int32) : f_Flow_isThere S (some f) v = some (if 0 ≤ v.toInt ∧ v.toInt < (n : Int) then 1 else 0, S) := by
  have i1 := (gl2 n (by omega)).1
  unfold f_Flow_isThere
  by_cases c : v < 0
  · have := lt0.mp c
    rw [if_pos c, if_neg (by omega)]
  · have c' : ¬ v.toInt < 0 := fun q => c (lt0.mpr q)
    rw [if_neg c, x_g Kf a4, Option.bind_some]
    by_cases d : Int32.ofNat n ≤ v
    · have := Int32.le_iff_toInt_le.mp d
      rw [i1] at this
      rw [if_pos d, if_neg (by omega)]
    · have d' := Int32.lt_iff_toInt_lt.mp (Int32.not_le.mp d)
      rw [i1] at d'
      rw [if_neg d, if_neg (fun q => by
        have := Int32.le_iff_toInt_le.mp q
        rw [show (12 : Int32).toInt = 12 from by decide] at this
        omega), if_pos ⟨by omega, d'⟩]
section
variable {T : Nat → Nat} {S : AS} {f n : Nat} {r : Nat → Nat}
theorem x_th1 (hT : TI T S) (h : DR T S f n r) {k : Nat} (hk : k < n) : f_Flow_isThere S (some f) (Int32.ofNat k) = some (1, S) := by
  have hn := h.2.2.1
  rw [x_there (DR_K hT h).2.1 h.2.2.2.1 hn, if_pos ⟨by rw [(gl2 k (by omega)).1]; omega, by rw [(gl2 k (by omega)).1]; omega⟩]
theorem x_row (hT : TI T S) (h : DR T S f n r) {j k : Nat} (hj : j < 5) (hk : k < n) : gR S 13 j (some f) = some (some (r j)) ∧ aI S 40 (some (r j)) (Int32.ofNat k) = some (sI S (67 + j) (96 + k)) := by
  obtain ⟨K4, Kf, Kr, -⟩ := DR_K hT h
  have hn := h.2.2.1
  exact ⟨x_r Kf (h.2.2.2.2.2.1 j hj).1, x_aI (Kr j hj).1 (by rw [(Kr j hj).2.1]; omega) (by omega) (h.2.2.2.2.2.2.2 j k hj hk)⟩
theorem x_kind (hT : TI T S) (h : DR T S f n r) {k : Nat} (hk : k < n) : f_Flow_kindOf S (some f) (Int32.ofNat k) = some (sI S 67 (96 + k), S) := by
  obtain ⟨e1, e2⟩ := x_row hT h (j := 0) (by decide) hk
  unfold f_Flow_kindOf
  rw [ti_rv (DR_K hT h).2.1, Option.bind_some, x_th1 hT h hk, b2_s, if_neg (by decide), e1, Option.bind_some, e2, Option.bind_some]
theorem x_nx1 (hT : TI T S) (h : DR T S f n r) {k : Nat} (hk : k < n) : f_Flow_nextOf S (some f) (Int32.ofNat k) 1 = some (sI S 70 (96 + k), S) := by
  obtain ⟨e1, e2⟩ := x_row hT h (j := 3) (by decide) hk
  unfold f_Flow_nextOf
  rw [ti_rv (DR_K hT h).2.1, Option.bind_some, x_th1 hT h hk, b2_s, if_neg (by decide), if_neg (by decide), e1, Option.bind_some, e2, Option.bind_some]
theorem x_nx0 (hT : TI T S) (h : DR T S f n r) {k : Nat} (hk : k < n) : f_Flow_nextOf S (some f) (Int32.ofNat k) 0 = some (sI S 71 (96 + k), S) := by
  obtain ⟨e1, e2⟩ := x_row hT h (j := 4) (by decide) hk
  unfold f_Flow_nextOf
  rw [ti_rv (DR_K hT h).2.1, Option.bind_some, x_th1 hT h hk, b2_s, if_neg (by decide), if_pos rfl, e1, Option.bind_some, e2, Option.bind_some]
theorem x_none (hT : TI T S) (h : DR T S f n r) {v : Int32} (hv : In (-1) 11 v) : f_Flow_isNoneOrThere S (some f) v = some (if v.toInt < (n : Int) then 1 else 0, S) := by
  have hn := h.2.2.1
  unfold f_Flow_isNoneOrThere f_Flow_isNoneOrThere_B13
  by_cases c : v = -1
  · rw [if_pos c, if_pos (by rw [c, show (-1 : Int32).toInt = -1 from by decide]; omega)]
  · have c' : 0 ≤ v.toInt := by
      have : v.toInt ≠ -1 := fun q => c (Int32.toInt_inj.mp (q.trans (by decide)))
      have := hv.1
      omega
    have e := x_there (DR_K hT h).2.1 h.2.2.2.1 hn v
    rw [if_neg c, ti_rv (DR_K hT h).2.1, Option.bind_some]
    by_cases d : v.toInt < (n : Int)
    · rw [if_pos ⟨c', d⟩] at e
      rw [e, b2_s, if_neg (by decide : ¬ (1 : Int32) = 0), if_pos d]
    · rw [if_neg (fun q => d q.2)] at e
      rw [e, b2_s, if_pos rfl, if_neg d]
theorem nat1 (j : Nat) : Int32.ofNat j + 1 = Int32.ofNat (j + 1) := by rw [Int32.ofNat_add]; rfl
theorem nat_le {a b : Nat} (ha : a ≤ 12) (hb : b ≤ 12) : Int32.ofNat a ≤ Int32.ofNat b ↔ a ≤ b := by
  rw [Int32.le_iff_toInt_le, (gl2 a (by omega)).1, (gl2 b (by omega)).1]
  omega
theorem x_all (hT : TI T S) (h : DR T S f n r) (hsr : SR S) : Ho (f_Flow_hasAllNextSteps S (some f)) (fun q => q.2 = S ∧ ((q.1 = 1 ∧ nxin S 96 n) ∨ (q.1 = 0 ∧ ¬ nxin S 96 n))) := by
  obtain ⟨K4, Kf, Kr, -⟩ := DR_K hT h
  have hn := h.2.2.1
  have key : ∀ m j fu, j + m = n → m < fu → (∀ k, k < j → (sI S 67 (96 + k)).toInt < 5 → (sI S 70 (96 + k)).toInt < (n : Int) ∧ (sI S 71 (96 + k)).toInt < (n : Int)) → Ho (f_Flow_hasAllNextSteps_L2 fu S (some f) (Int32.ofNat j)) (fun q => q.2 = S ∧ ((q.1 = 1 ∧ nxin S 96 n) ∨ (q.1 = 0 ∧ ¬ nxin S 96 n))) := by
    intro m
    induction m with
    | zero =>
      intro j fu h1 h2 hall
      obtain ⟨fu, rfl⟩ : ∃ g, fu = g + 1 := ⟨fu - 1, by omega⟩
      have hj : j = n := by omega
      subst hj
      unfold f_Flow_hasAllNextSteps_L2 f_Flow_hasAllNextSteps_C2
      rw [x_g Kf h.2.2.2.1, Option.bind_some, if_pos ((nat_le hn hn).mpr (Nat.le_refl _))]
      exact r_some ⟨rfl, Or.inl ⟨rfl, hall⟩⟩
    | succ m ih =>
      intro j fu h1 h2 hall
      obtain ⟨fu, rfl⟩ : ∃ g, fu = g + 1 := ⟨fu - 1, by omega⟩
      have hj : j < n := by omega
      unfold f_Flow_hasAllNextSteps_L2 f_Flow_hasAllNextSteps_C2
      rw [x_g Kf h.2.2.2.1, Option.bind_some, if_neg (fun q => by have := (nat_le hn (by omega)).mp q; omega), ti_rv Kf, Option.bind_some, x_kind hT h hj, b2_s]
      have go : ((sI S 67 (96 + j)).toInt < 5 → (sI S 70 (96 + j)).toInt < (n : Int) ∧ (sI S 71 (96 + j)).toInt < (n : Int)) → Ho (f_Flow_hasAllNextSteps_B47 (f_Flow_hasAllNextSteps_L2 fu) S (some f) (Int32.ofNat j)) (fun q => q.2 = S ∧ ((q.1 = 1 ∧ nxin S 96 n) ∨ (q.1 = 0 ∧ ¬ nxin S 96 n))) := fun hok => by
        unfold f_Flow_hasAllNextSteps_B47
        rw [Option.bind_some, nat1]
        refine ih (j + 1) fu (by omega) (by omega) (fun k hk => ?_)
        by_cases c : k = j
        · rw [c]; exact hok
        · exact hall k (by omega)
      refine r_if (fun c => go (fun q => ?_)) (fun c => ?_)
      · have := Int32.le_iff_toInt_le.mp c
        rw [show (5 : Int32).toInt = 5 from by decide] at this
        omega
      · have c5 : (sI S 67 (96 + j)).toInt < 5 := by
          have := Int32.lt_iff_toInt_lt.mp (Int32.not_le.mp c)
          rw [show (5 : Int32).toInt = 5 from by decide] at this
          exact this
        obtain ⟨y1, y2⟩ := (hsr (96 + j) (by omega)).2 c5
        have e1 := x_none hT h y1
        have e2 := x_none hT h y2
        rw [ti_rv Kf, Option.bind_some, x_nx1 hT h hj, b2_s, ti_rv Kf, Option.bind_some]
        by_cases d : (sI S 70 (96 + j)).toInt < (n : Int)
        · rw [if_pos d] at e1
          rw [e1, b2_s, if_neg (by decide : ¬ (1 : Int32) = 0), ti_rv Kf, Option.bind_some, x_nx0 hT h hj, b2_s, ti_rv Kf, Option.bind_some]
          by_cases d2 : (sI S 71 (96 + j)).toInt < (n : Int)
          · rw [if_pos d2] at e2
            rw [e2, b2_s, if_neg (by decide : ¬ (1 : Int32) = 0)]
            exact go (fun _ => ⟨d, d2⟩)
          · rw [if_neg d2] at e2
            rw [e2, b2_s, if_pos rfl]
            exact r_some ⟨rfl, Or.inr ⟨rfl, fun q => d2 (q j hj c5).2⟩⟩
        · rw [if_neg d] at e1
          rw [e1, b2_s, if_pos rfl]
          exact r_some ⟨rfl, Or.inr ⟨rfl, fun q => d (q j hj c5).1⟩⟩
  unfold f_Flow_hasAllNextSteps
  exact key n 0 kr_FU (by omega) (by show n < 2000; omega) (fun k hk => absurd hk (Nat.not_lt_zero _))
end
theorem r_Te {β : Type} {T : Nat → Nat} {S : AS} {f n k : Nat} {r : Nat → Nat} {F : Int32 → AS → Option β} {Q : β → Prop} (hT : TI T S) (h : DR T S f n r) (hk : k < n) (h1 : te S 96 k → Ho (F 1 S) Q) (h0 : ¬ te S 96 k → Ho (F 0 S) Q) : Ho (kr_b2 (f_Flow_isTest S (some f) (Int32.ofNat k)) F) Q := by
  obtain ⟨⟨v, S'⟩, e, h2⟩ : Ho (f_Flow_isTest S (some f) (Int32.ofNat k)) (fun q => q.2 = S ∧ ((q.1 = 1 ∧ te S 96 k) ∨ (q.1 = 0 ∧ ¬ te S 96 k))) := by
    unfold f_Flow_isTest
    rw [ti_rv (DR_K hT h).2.1, Option.bind_some, x_kind hT h hk, b2_s]
    exact r_KwX (fun p q => ⟨(1, S), rfl, rfl, Or.inl ⟨rfl, In_iff.mp ⟨p, q⟩⟩⟩) (fun p => ⟨(0, S), rfl, rfl, Or.inr ⟨rfl, fun q => p (In_iff.mpr q)⟩⟩)
  obtain ⟨e2, h2⟩ := h2
  cases e2
  rw [e, b2_s]
  rcases h2 with ⟨p, q⟩ | ⟨p, q⟩
  · cases p
    exact h1 q
  · cases p
    exact h0 q
theorem r_Lv {β : Type} {S : AS} {v x : Int32} {F : Int32 → AS → Option β} {Q : β → Prop} (hv : In (-1) 11 v) (h1 : (∀ t : Nat, v.toInt = (t : Int) → bt x t = true) → Ho (F 1 S) Q) (h0 : (∃ t : Nat, v.toInt = (t : Int) ∧ ¬ bt x t = true) → Ho (F 0 S) Q) : Ho (kr_b2 (f_Flow_leaves S v x) F) Q := by
  unfold f_Flow_leaves f_Flow_leaves_B13 f_K_isIn
  by_cases c : v = -1
  · rw [if_pos c, b2_s]
    refine h1 (fun t ht => ?_)
    rw [c, show (-1 : Int32).toInt = -1 from by decide] at ht
    omega
  · have c' : 0 ≤ v.toInt := by
      have : v.toInt ≠ -1 := fun q => c (Int32.toInt_inj.mp (q.trans (by decide)))
      have := hv.1
      omega
    obtain ⟨t, ht, e⟩ := ofNat_In (n := 11) (v := v) ⟨c', hv.2⟩
    have et : v.toInt = (t : Int) := by rw [e]; exact (gl2 t (by omega)).1
    have b := bt_test x (j := t) (by omega)
    rw [if_neg c, e]
    by_cases d : bt x t = true
    · rw [if_pos (b.mpr d), b2_s, if_neg (by decide : ¬ (1 : Int32) = 0), b2_s]
      refine h1 (fun t' ht' => ?_)
      have : t' = t := by omega
      rw [this]
      exact d
    · rw [if_neg (fun q => d (b.mp q)), b2_s, if_pos rfl, b2_s]
      exact h0 ⟨t, et, d⟩
def BI (S : AS) (n : Nat) (x : Int32) : Prop := (∀ i, bt x i = true → i < n) ∧ ∃ ρ : Nat → Nat, (∀ k, bt x k = true → ρ k < cb (bt x) 12) ∧ ∀ k, bt x k = true → te S 96 k → ∀ t, nx S 96 k t → bt x t = true ∧ ρ t < ρ k
theorem bt_set {x : Int32} {k : Nat} (hk : k < 12) (i : Nat) : bt (x ||| ((1 : Int32) <<< (Int32.ofNat k &&& 31))) i = (bt x i || decide (i = k)) := by rw [bt_or, bt_shl hk]
theorem BI_set {S : AS} {n k : Nat} {x : Int32} (hn : n ≤ 12) (h : BI S n x) (hk : k < n) (hs : ¬ te S 96 k ∨ ∀ t, nx S 96 k t → bt x t = true) : BI S n (x ||| ((1 : Int32) <<< (Int32.ofNat k &&& 31))) := by
  obtain ⟨h1, ρ, h2, h3⟩ := h
  have hb := fun i => bt_set (x := x) (k := k) (by omega) i
  by_cases c : bt x k = true
  · have e : bt (x ||| ((1 : Int32) <<< (Int32.ofNat k &&& 31))) = bt x := funext fun i => by
      rw [hb i]
      by_cases d : i = k
      · subst d
        rw [c]
        rfl
      · rw [decide_eq_false d, Bool.or_false]
    unfold BI
    rw [e]
    exact ⟨h1, ρ, h2, h3⟩
  · have up : ∀ i, bt x i = true → bt (x ||| ((1 : Int32) <<< (Int32.ofNat k &&& 31))) i = true := fun i hi => by rw [hb i, hi]; rfl
    have hk' : bt (x ||| ((1 : Int32) <<< (Int32.ofNat k &&& 31))) k = true := by rw [hb k, decide_eq_true rfl, Bool.or_true]
    have cl := cb_lt (f := bt x) (g := bt (x ||| ((1 : Int32) <<< (Int32.ofNat k &&& 31)))) up c hk' (n := 12) (by omega)
    have old : ∀ i, bt (x ||| ((1 : Int32) <<< (Int32.ofNat k &&& 31))) i = true → i = k ∨ bt x i = true := fun i hi => by
      rw [hb i] at hi
      by_cases d : i = k
      · exact Or.inl d
      · rw [decide_eq_false d, Bool.or_false] at hi
        exact Or.inr hi
    have nk : ∀ i, bt x i = true → i ≠ k := fun i hi e => c (by rw [← e]; exact hi)
    refine ⟨fun i hi => ?_, fun i => if i = k then cb (bt x) 12 else ρ i, fun i hi => ?_, fun i hi ht t hx => ?_⟩
    · rcases old i hi with e | e
      · omega
      · exact h1 i e
    · dsimp only
      rcases old i hi with e | e
      · rw [if_pos e]
        exact cl
      · rw [if_neg (nk i e)]
        have := h2 i e
        omega
    · dsimp only
      by_cases e : i = k
      · subst e
        rcases hs with hs | hs
        · exact absurd ht hs
        · have b := hs t hx
          refine ⟨up t b, ?_⟩
          rw [if_pos rfl, if_neg (nk t b)]
          exact h2 t b
      · rcases old i hi with e' | e'
        · exact absurd e' e
        · obtain ⟨b1, b2⟩ := h3 i e' ht t hx
          refine ⟨up t b1, ?_⟩
          rw [if_neg (nk t b1), if_neg e]
          exact b2
theorem x_round {T : Nat → Nat} {S : AS} {f n : Nat} {r : Nat → Nat} (hT : TI T S) (h : DR T S f n r) (hsr : SR S) {k4 : AS → Option Nat → Int32 → Int32 → Option (Int32 × AS)} {x0 x2 : Int32} {Q : Int32 × AS → Prop}
    (hk : ∀ x, (∀ i, bt x0 i = true → bt x i = true) → BI S n x → (∀ k, k < n → (¬ te S 96 k ∨ ∀ t, nx S 96 k t → bt x0 t = true) → bt x k = true) → Ho (k4 S (some f) x (x2 + 1)) Q) :
    ∀ m j fu, j + m = n → m < fu → ∀ x, (∀ i, bt x0 i = true → bt x i = true) → BI S n x → (∀ k, k < j → (¬ te S 96 k ∨ ∀ t, nx S 96 k t → bt x0 t = true) → bt x k = true) → Ho (f_Flow_hasLoopOfTests_L14 k4 fu S (some f) x x2 (Int32.ofNat j)) Q := by
  obtain ⟨K4, Kf, Kr, -⟩ := DR_K hT h
  have hn := h.2.2.1
  intro m
  induction m with
  | zero =>
    intro j fu h1 h2 x ha hb hc
    obtain ⟨fu, rfl⟩ : ∃ g, fu = g + 1 := ⟨fu - 1, by omega⟩
    have hj : j = n := by omega
    subst hj
    unfold f_Flow_hasLoopOfTests_L14 f_Flow_hasLoopOfTests_C14
    rw [x_g Kf h.2.2.2.1, Option.bind_some, if_pos ((nat_le hn hn).mpr (Nat.le_refl _)), Option.bind_some]
    exact hk x ha hb hc
  | succ m ih =>
    intro j fu h1 h2 x ha hb hc
    obtain ⟨fu, rfl⟩ : ∃ g, fu = g + 1 := ⟨fu - 1, by omega⟩
    have hj : j < n := by omega
    unfold f_Flow_hasLoopOfTests_L14 f_Flow_hasLoopOfTests_C14
    rw [x_g Kf h.2.2.2.1, Option.bind_some, if_neg (fun q => by have := (nat_le hn (by omega)).mp q; omega), ti_rv Kf, Option.bind_some]
    have put : (¬ te S 96 j ∨ ∀ t, nx S 96 j t → bt x t = true) → Ho (f_Flow_hasLoopOfTests_B56 k4 (f_Flow_hasLoopOfTests_L14 k4 fu) S (some f) x x2 (Int32.ofNat j)) Q := fun hs => by
      unfold f_Flow_hasLoopOfTests_B56 f_Flow_hasLoopOfTests_B62
      rw [Option.bind_some, Option.bind_some, nat1]
      have hb2 := fun i => bt_set (x := x) (k := j) (by omega) i
      refine ih (j + 1) fu (by omega) (by omega) _ (fun i hi => by rw [hb2 i, ha i hi]; rfl) (BI_set hn hb hj hs) (fun k hk hs' => ?_)
      rw [hb2 k]
      by_cases c : k = j
      · rw [decide_eq_true c, Bool.or_true]
      · rw [hc k (by omega) hs']
        rfl
    have skip : (te S 96 j ∧ ∃ t, nx S 96 j t ∧ ¬ bt x t = true) → Ho (f_Flow_hasLoopOfTests_B62 k4 (f_Flow_hasLoopOfTests_L14 k4 fu) S (some f) x x2 (Int32.ofNat j)) Q := fun hs => by
      unfold f_Flow_hasLoopOfTests_B62
      rw [Option.bind_some, nat1]
      refine ih (j + 1) fu (by omega) (by omega) _ ha hb (fun k hk hs' => ?_)
      by_cases c : k = j
      · subst c
        obtain ⟨h5, t, h6, h7⟩ := hs
        rcases hs' with q | q
        · exact absurd h5 q
        · exact absurd (ha t (q t h6)) h7
      · exact hc k (by omega) hs'
    refine r_Te hT h hj (fun ht => ?_) (fun ht => ?_)
    · obtain ⟨y1, y2⟩ := (hsr (96 + j) (by omega)).2 (by have := ht.2; omega)
      rw [if_neg (by decide : ¬ (1 : Int32) = 0), ti_rv Kf, Option.bind_some, x_nx1 hT h hj, b2_s]
      refine r_Lv y1 (fun l1 => ?_) (fun l1 => ?_)
      · rw [if_neg (by decide : ¬ (1 : Int32) = 0), ti_rv Kf, Option.bind_some, x_nx0 hT h hj, b2_s]
        refine r_Lv y2 (fun l2 => ?_) (fun l2 => ?_)
        · rw [if_neg (by decide : ¬ (1 : Int32) = 0)]
          exact put (Or.inr (fun t q => q.elim (l1 t) (l2 t)))
        · rw [if_pos rfl]
          obtain ⟨t, q1, q2⟩ := l2
          exact skip ⟨ht, t, Or.inr q1, q2⟩
      · rw [if_pos rfl]
        obtain ⟨t, q1, q2⟩ := l1
        exact skip ⟨ht, t, Or.inl q1, q2⟩
    · rw [if_pos rfl]
      exact put (Or.inl ht)
theorem some_good {S : AS} {n : Nat} {x : Int32} {ρ : Nat → Nat} (hx : nxin S 96 n) (hr : rnk S 96 n ρ) : ∀ m k, ρ k < m → k < n → ¬ bt x k = true → ∃ k', k' < n ∧ ¬ bt x k' = true ∧ (¬ te S 96 k' ∨ ∀ t, nx S 96 k' t → bt x t = true)
  | 0, k, h, _, _ => absurd h (Nat.not_lt_zero _)
  | m + 1, k, h, hk, hb => by
    by_cases c : te S 96 k
    · by_cases d : ∀ t, nx S 96 k t → bt x t = true
      · exact ⟨k, hk, hb, Or.inr d⟩
      · obtain ⟨t, d⟩ := Classical.not_forall.mp d
        have d1 : nx S 96 k t := Classical.byContradiction fun q => d (fun z => absurd z q)
        have d2 : ¬ bt x t = true := fun q => d (fun _ => q)
        have ht := nxin_t hx hk (by have := c.2; omega) d1
        by_cases e : te S 96 t
        · have := hr.2 k hk c t d1 e
          exact some_good hx hr m t (by omega) ht d2
        · exact ⟨t, ht, d2, Or.inl e⟩
    · exact ⟨k, hk, hb, Or.inl c⟩
theorem msk : ∀ n, n ≤ 12 → ∀ j, j < 32 → bt (((1 : Int32) <<< (Int32.ofNat n &&& 31)) - 1) j = decide (j < n) := by decide +kernel
theorem cb_dec : ∀ n, n ≤ 12 → cb (fun i => decide (i < n)) 12 = n := by decide +kernel
theorem x_loop {T : Nat → Nat} {S : AS} {f n : Nat} {r : Nat → Nat} (hT : TI T S) (h : DR T S f n r) (hsr : SR S) (hx : nxin S 96 n) : Ho (f_Flow_hasLoopOfTests S (some f)) (fun q => q.2 = S ∧ ((q.1 = 0 ∧ ∃ ρ, rnk S 96 n ρ) ∨ (q.1 = 1 ∧ ¬ ∃ ρ, rnk S 96 n ρ))) := by
  obtain ⟨K4, Kf, Kr, -⟩ := DR_K hT h
  have hn := h.2.2.1
  have key : ∀ m i fu, i + m = n → m < fu → ∀ x, BI S n x → ((∃ ρ, rnk S 96 n ρ) → i ≤ cb (bt x) 12 ∨ ∀ k, k < n → bt x k = true) → Ho (f_Flow_hasLoopOfTests_L4 fu S (some f) x (Int32.ofNat i)) (fun q => q.2 = S ∧ ((q.1 = 0 ∧ ∃ ρ, rnk S 96 n ρ) ∨ (q.1 = 1 ∧ ¬ ∃ ρ, rnk S 96 n ρ))) := by
    intro m
    induction m with
    | zero =>
      intro i fu h1 h2 x hb hr
      obtain ⟨fu, rfl⟩ : ∃ g, fu = g + 1 := ⟨fu - 1, by omega⟩
      have hj : i = n := by omega
      subst hj
      unfold f_Flow_hasLoopOfTests_L4 f_Flow_hasLoopOfTests_C4
      rw [x_g Kf h.2.2.2.1, Option.bind_some, if_pos ((nat_le hn hn).mpr (Nat.le_refl _)), Option.bind_some]
      obtain ⟨b1, ρ, b2, b3⟩ := hb
      refine r_if (fun c => r_some ⟨rfl, Or.inl ⟨rfl, ?_⟩⟩) (fun c => r_some ⟨rfl, Or.inr ⟨rfl, fun q => c ?_⟩⟩)
      · have full : ∀ k, k < i → bt x k = true := fun k hk => by
          rw [c, msk i hn k (by omega), decide_eq_true hk]
        have le := cb_le (bt x) 12
        refine ⟨fun k => min (ρ k) 12, fun k => Nat.min_le_right _ _, fun k hk ht t hx' htt => ?_⟩
        obtain ⟨z1, z2⟩ := b3 k (full k hk) ht t hx'
        have := b2 k (full k hk)
        dsimp only
        omega
      · have full : ∀ k, k < i → bt x k = true := by
          rcases hr q with q | q
          · intro k hk
            refine Classical.byContradiction fun d => ?_
            have := cb_lt (f := bt x) (g := fun j => decide (j < i)) (fun j hj => decide_eq_true (b1 j hj)) d (decide_eq_true hk) (n := 12) (by omega)
            rw [cb_dec i hn] at this
            omega
          · exact q
        refine bt_ext (fun j hj => ?_)
        rw [msk i hn j hj]
        by_cases d : j < i
        · rw [full j d, decide_eq_true d]
        · rw [decide_eq_false d]
          cases e : bt x j with
          | false => rfl
          | true => exact absurd (b1 j e) d
    | succ m ih =>
      intro i fu h1 h2 x hb hr
      obtain ⟨fu, rfl⟩ : ∃ g, fu = g + 1 := ⟨fu - 1, by omega⟩
      have hj : i < n := by omega
      unfold f_Flow_hasLoopOfTests_L4 f_Flow_hasLoopOfTests_C4
      rw [x_g Kf h.2.2.2.1, Option.bind_some, if_neg (fun q => by have := (nat_le hn (by omega)).mp q; omega)]
      refine x_round hT h hsr (x0 := x) (fun x' m1 m2 m3 => ?_) n 0 kr_FU (by omega) (by show n < 2000; omega) x (fun _ q => q) hb (fun k hk => absurd hk (Nat.not_lt_zero _))
      rw [nat1]
      refine ih (i + 1) fu (by omega) (by omega) x' m2 (fun q => ?_)
      by_cases full : ∀ k, k < n → bt x' k = true
      · exact Or.inr full
      · have nf : ∃ k, k < n ∧ ¬ bt x k = true := by
          obtain ⟨k, hk⟩ := Classical.not_forall.mp full
          exact ⟨k, Classical.byContradiction fun z => hk (fun y => absurd y z), fun z => hk (fun _ => m1 k z)⟩
        obtain ⟨k0, hk0, hb0⟩ := nf
        obtain ⟨ρ, hρ⟩ := q
        obtain ⟨k', g1, g2, g3⟩ := some_good hx hρ (ρ k0 + 1) k0 (Nat.lt_succ_self _) hk0 hb0
        have := cb_lt (f := bt x) (g := bt x') m1 g2 (m3 k' g1 g3) (n := 12) (by omega)
        rcases hr ⟨ρ, hρ⟩ with z | z
        · exact Or.inl (by omega)
        · exact absurd (z k' g1) g2
  unfold f_Flow_hasLoopOfTests
  exact key n 0 kr_FU (by omega) (by show n < 2000; omega) 0 ⟨fun i hi => (by rw [bt_0] at hi; cases hi), fun _ => 0, fun k hk => (by rw [bt_0] at hk; cases hk), fun k hk => (by rw [bt_0] at hk; cases hk)⟩ (fun _ => Or.inl (Nat.zero_le _))
def FL (S : AS) (k j : Nat) (S' : AS) : Prop := sN S' = sN S + 1 ∧ sR S' k j = some (sN S) ∧ (∀ p, p < sN S → sI S' p = sI S p ∧ sK S' p = sK S p) ∧ (∀ p i, p < sN S → ¬ (p = k ∧ i = j) → sR S' p i = sR S p i)
theorem x_one {β : Type} {S : AS} {k j : Nat} {F : AS → Option β} {Q : β → Prop} (hk : k < sN S) (hK : sK S k = 13) (h : ∀ S', FL S k j S' → Ho (F S') Q) : Ho ((nA S 40 (12 : Int32)).bind fun S2 => (pR S2 13 j (some k) (some (sN S))).bind F) Q := by
  rw [nA_s (12 : Int32) 12 tv12 (by decide), Option.bind_some, ti_pR (by rw [(ti_wN (by omega)).1]; exact hK) (pb_k (by rw [(ti_wN0 S 40 12 12).1]; decide)), Option.bind_some]
  refine h _ ⟨rfl, ti_sR_eq _ k j _, fun p hp => ?_, fun p i hp hn => ?_⟩
  · have e := ti_wN (S := S) (κ := 40) (l := 12) (s := 12) (k := p) (by omega)
    exact ⟨e.2.2.1, e.1⟩
  · have e := ti_wN (S := S) (κ := 40) (l := 12) (s := 12) (k := p) (by omega)
    rw [ti_sR_ne hn, e.2.2.2.1]
def NEW (S S' : AS) : Prop := sI S' 17 2 = sI S 17 2 + 1 ∧ ∃ (f : Nat) (r : Nat → Nat), sR S' 4 5 = some f ∧ sI S' f 5 = 0 ∧ (∀ j : Nat, j < 5 → sR S' f j = some (r j)) ∧ (∀ i j : Nat, i < 5 → j < 5 → r i = r j → i = j)
theorem x_Flow {S : AS} {k : Nat} (hk : k < sN S) (hK : sK S k = 13) : Ho (f_Flow_init S (some k)) (fun S' => sN S ≤ sN S' ∧ (∀ p, p < sN S → sI S' p = sI S p ∧ sK S' p = sK S p) ∧ (∀ p i, p < sN S → p ≠ k → sR S' p i = sR S p i) ∧ ∃ r : Nat → Nat, (∀ j, j < 5 → sR S' k j = some (r j)) ∧ (∀ i j, i < 5 → j < 5 → r i = r j → i = j)) := by
  unfold f_Flow_init
  rw [Option.bind_some]
  refine x_one hk hK (fun S1 h1 => ?_)
  obtain ⟨a1, b1, c1, d1⟩ := h1
  refine x_one (by omega) ((c1 k (by omega)).2.trans hK) (fun S2 h2 => ?_)
  obtain ⟨a2, b2, c2, d2⟩ := h2
  refine x_one (by omega) ((c2 k (by omega)).2.trans ((c1 k (by omega)).2.trans hK)) (fun S3 h3 => ?_)
  obtain ⟨a3, b3, c3, d3⟩ := h3
  refine x_one (by omega) ((c3 k (by omega)).2.trans ((c2 k (by omega)).2.trans ((c1 k (by omega)).2.trans hK))) (fun S4 h4 => ?_)
  obtain ⟨a4, b4, c4, d4⟩ := h4
  refine x_one (by omega) ((c4 k (by omega)).2.trans ((c3 k (by omega)).2.trans ((c2 k (by omega)).2.trans ((c1 k (by omega)).2.trans hK)))) (fun S5 h5 => ?_)
  obtain ⟨a5, b5, c5, d5⟩ := h5
  refine r_some ⟨by omega, fun p hp => ⟨?_, ?_⟩, fun p i hp hn => ?_, fun j => sN S + j, fun j hj => ?_, fun i j _ _ e => by dsimp only at e; omega⟩
  · rw [(c5 p (by omega)).1, (c4 p (by omega)).1, (c3 p (by omega)).1, (c2 p (by omega)).1, (c1 p (by omega)).1]
  · rw [(c5 p (by omega)).2, (c4 p (by omega)).2, (c3 p (by omega)).2, (c2 p (by omega)).2, (c1 p (by omega)).2]
  · rw [d5 p i (by omega) (fun q => hn q.1), d4 p i (by omega) (fun q => hn q.1), d3 p i (by omega) (fun q => hn q.1), d2 p i (by omega) (fun q => hn q.1), d1 p i (by omega) (fun q => hn q.1)]
  · match j, hj with
    | 0, _ => rw [d5 k 0 (by omega) (fun q => absurd q.2 (by decide)), d4 k 0 (by omega) (fun q => absurd q.2 (by decide)), d3 k 0 (by omega) (fun q => absurd q.2 (by decide)), d2 k 0 (by omega) (fun q => absurd q.2 (by decide)), b1]; rfl
    | 1, _ => rw [d5 k 1 (by omega) (fun q => absurd q.2 (by decide)), d4 k 1 (by omega) (fun q => absurd q.2 (by decide)), d3 k 1 (by omega) (fun q => absurd q.2 (by decide)), b2, show sN S1 = sN S + 1 by omega]
    | 2, _ => rw [d5 k 2 (by omega) (fun q => absurd q.2 (by decide)), d4 k 2 (by omega) (fun q => absurd q.2 (by decide)), b3, show sN S2 = sN S + 2 by omega]
    | 3, _ => rw [d5 k 3 (by omega) (fun q => absurd q.2 (by decide)), b4, show sN S3 = sN S + 3 by omega]
    | 4, _ => rw [b5, show sN S4 = sN S + 4 by omega]
theorem x_B55 {T : Nat → Nat} {S : AS} (hT : TI T S) (hx : Tx T 1 (some 4)) (h8 : (sI S 17 2).toInt < 8) : Ho (f_K_publish_B55 S (some 4) 1) (fun q => q.1 = .inl (sI S 17 2) ∧ NEW S q.2) := by
  have g := Rlrf hT
  have K4 : sK S 4 = 22 := Tx.K hT hT.t9.2.2.2.2.1 (by decide)
  unfold f_K_publish_B55
  rw [rS1, bx_l]
  refine r_gR g.1 hx rfl rfl (fun v3 h2 => ?_)
  refine r_gR g.1 hx rfl rfl (fun v4 h3 => ?_)
  refine r_rv g.1 h2 rfl ?_
  refine r_b2 (ho_add (w' := kw_K43) 0 g h2 (by decide) h3 rfl h8 (by decide) (by decide +kernel)) (fun v7 S6 hh => ?_)
  obtain ⟨T5, g6, e7, e7s⟩ := hh
  have g6 : Rl T kw_K43 S 1 300 T5 S6 := g6
  have e7s : sI S6 17 2 = sI S 17 2 + 1 := e7s
  have h4 : T5 4 = 1 := g6.1.t9.2.2.2.2.1
  have n4 : 4 < sN S6 := (g6.1.t1 4 (by rw [h4]; decide)).1
  have n17 : 17 < sN S6 := (g6.1.t1 17 (by have := (g6.1.t6 0 (by decide)).1; rw [show lp 0 = 17 from rfl] at this; rw [this]; decide)).1
  have K46 : sK S6 4 = 22 := Tx.K g6.1 h4 (by decide)
  have r46 := g6.1.t2 4 6 20 (by rw [h4]; rfl)
  rw [Option.bind_some]
  have e13 : sK (nO S6 13) (sN S6) = 13 := (ti_wN0 S6 13 0 (kr_cN (13 - 10))).1
  have old : ∀ p, p < sN S6 → sI (nO S6 13) p = sI S6 p ∧ sK (nO S6 13) p = sK S6 p ∧ sR (nO S6 13) p = sR S6 p := fun p hp => by
    have e := ti_wN (S := S6) (κ := 13) (l := 0) (s := kr_cN (13 - 10)) (k := p) (by omega)
    exact ⟨e.2.2.1, e.1, e.2.2.2.1⟩
  have nw : sI (nO S6 13) (sN S6) = fun _ => 0 := (ti_wN0 S6 13 0 (kr_cN (13 - 10))).2.2.1
  have nn : sN (nO S6 13) = sN S6 + 1 := rfl
  generalize nO S6 13 = S8 at *
  refine r_bind (x_Flow (S := S8) (k := sN S6) (by omega) e13) (fun S9 h9 => ?_)
  obtain ⟨a1, a2, a3, r, a4, a5⟩ := h9
  have k9 : sK S9 4 = 22 := by rw [(a2 4 (by omega)).2, (old 4 n4).2.1, K46]
  rw [ti_pR k9 (pb_k (by rw [(a2 (sN S6) (by omega)).2, e13]; decide)), Option.bind_some]
  have k10 : sK (wR S9 4 5 (some (sN S6))) 4 = 22 := k9
  obtain ⟨d, hd, hd2, -⟩ := r46
  have hd17 : d = 17 := g6.1.t7 d 17 (by rw [hd2]; rfl)
  have k20 : sK S6 d = 10 := (Tx.K g6.1 hd2 (by decide)).trans rfl
  have nd : d < sN S6 := (g6.1.t1 d (by rw [hd2]; decide)).1
  have r10 : sR (wR S9 4 5 (some (sN S6))) 4 6 = some d := by
    rw [ti_sR_ne (by omega), a3 4 6 (by omega) (by omega), (old 4 n4).2.2]
    exact hd
  have k10d : sK (wR S9 4 5 (some (sN S6))) d = 10 := by
    show sK S9 d = 10
    rw [(a2 d (by omega)).2, (old d nd).2.1, k20]
  have new : NEW S (wR S9 4 5 (some (sN S6))) := by
    refine ⟨?_, sN S6, r, ti_sR_eq S9 4 5 _, ?_, fun j hj => ?_, a5⟩
    · show sI S9 17 2 = _
      rw [(a2 17 (by omega)).1, (old 17 n17).1]
      exact e7s
    · show sI S9 (sN S6) 5 = 0
      rw [(a2 (sN S6) (by omega)).1, nw]
    · rw [ti_sR_ne (by omega)]
      exact a4 j hj
  generalize wR S9 4 5 (some (sN S6)) = S10 at *
  rw [ti_gR k10, Option.bind_some, r10, ti_rv k10d, Option.bind_some]
  unfold f_AL_size
  rw [ti_gI k10d, Option.bind_some, b2_s, hd17, new.1, Int32.add_sub_cancel]
  exact r_some ⟨rfl, new⟩
def PK (S : AS) (n : Nat) : Prop := 0 < n ∧ (sI S 17 2).toInt < 8 ∧ nxin S 96 n ∧ ∃ ρ, rnk S 96 n ρ
theorem x_K_publish {T : Nat → Nat} {S : AS} {f n : Nat} {r : Nat → Nat} (hT : TI T S) (hx : Tx T 1 (some 4)) (h : DR T S f n r) (hsr : SR S) : Ho (f_K_publish S (some 4)) (fun q => (¬ PK S n ∧ q = (.inr "java/lang/IllegalStateException", wX S)) ∨ (PK S n ∧ q.1 = .inl (sI S 17 2) ∧ NEW S q.2)) := by
  obtain ⟨K4, Kf, Kr, -⟩ := DR_K hT h
  have hn := h.2.2.1
  have i1 := (gl2 n (by omega)).1
  have no : ∀ {S' : AS}, S' = S → ¬ PK S n → Ho (f_K_publish_B54 S' (some 4)) (fun q => (¬ PK S n ∧ q = (.inr "java/lang/IllegalStateException", wX S)) ∨ (PK S n ∧ q.1 = .inl (sI S 17 2) ∧ NEW S q.2)) := fun e hp => by
    rw [e]
    unfold f_K_publish_B54 f_K_publish_B55
    rw [rS0, bx_r]
    exact r_some (Or.inl ⟨hp, rfl⟩)
  unfold f_K_publish
  refine r_gR hT hx rfl rfl (fun v27 h1 => ?_)
  refine r_rv hT h1 rfl ?_
  refine r_size 0 hT h1 (by decide) (fun v30 e2 => ?_)
  have e2 : v30 = sI S 17 2 := e2
  refine r_if (fun c => ?_) (fun c => ?_)
  · have := Int32.le_iff_toInt_le.mp c
    rw [show (8 : Int32).toInt = 8 from by decide, e2] at this
    unfold f_K_publish_B17
    rw [rS0, bx_r]
    exact r_some (Or.inl ⟨fun q => by have := q.2.1; omega, rfl⟩)
  · have h8 := Int32.lt_iff_toInt_lt.mp (Int32.not_le.mp c)
    rw [show (8 : Int32).toInt = 8 from by decide, e2] at h8
    unfold f_K_publish_B17
    rw [rS1, bx_l, ti_gR K4, Option.bind_some, h.1, x_g Kf h.2.2.2.1, Option.bind_some]
    refine r_if (fun c2 => no rfl (fun q => ?_)) (fun c2 => ?_)
    · have := Int32.le_iff_toInt_le.mp c2
      rw [i1, show (0 : Int32).toInt = 0 from by decide] at this
      have := q.1
      omega
    · have n0 : 0 < n := by
        have := Int32.lt_iff_toInt_lt.mp (Int32.not_le.mp c2)
        rw [i1, show (0 : Int32).toInt = 0 from by decide] at this
        omega
      rw [Option.bind_some, ti_rv Kf, Option.bind_some]
      refine r_b2 (x_all hT h hsr) (fun v22 S21 p => ?_)
      obtain ⟨e, p⟩ := p
      have e : S21 = S := e
      rw [e]
      rcases p with ⟨p, hx1⟩ | ⟨p, hx1⟩
      · have p : v22 = 1 := p
        rw [p, if_neg (by decide : ¬ (1 : Int32) = 0), ti_gR K4, Option.bind_some, h.1, ti_rv Kf, Option.bind_some]
        refine r_b2 (x_loop hT h hsr hx1) (fun v26 S25 p2 => ?_)
        obtain ⟨e', p2⟩ := p2
        have e' : S25 = S := e'
        rw [e']
        rcases p2 with ⟨p2, hr⟩ | ⟨p2, hr⟩
        · have p2 : v26 = 0 := p2
          rw [p2, if_pos rfl]
          obtain ⟨q, hq, hq2⟩ := x_B55 hT hx h8
          exact ⟨q, hq, Or.inr ⟨⟨n0, h8, hx1, hr⟩, hq2⟩⟩
        · have p2 : v26 = 1 := p2
          rw [p2, if_neg (by decide : ¬ (1 : Int32) = 0)]
          exact no rfl (fun q => hr q.2.2.2)
      · have p : v22 = 0 := p
        rw [p, if_pos rfl]
        exact no rfl (fun q => hx1 q.2.2.1)
