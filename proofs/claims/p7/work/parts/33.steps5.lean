/-! ===== the draft: step and clear, exactly ===== -/
theorem x_g {S : AS} {f j : Nat} {v : Int32} (h : sK S f = 13) (e : sI S f j = v) : gI S 13 j (some f) = some v := by rw [ti_gI h, e]
theorem x_r {S : AS} {f j q : Nat} (h : sK S f = 13) (e : sR S f j = some q) : gR S 13 j (some f) = some (some q) := by rw [ti_gR h, e]
theorem x_b {S : AS} {k n : Nat} {v : Int32} (h : sK S k = 40) (hl : n < sL S k) (hn : n ≤ 300) : bI S (some k) (Int32.ofNat n) v = some (wI S k n v) := by
  obtain ⟨e1, e2⟩ := gl2 n (by omega)
  unfold bI
  rw [Option.bind_some, if_pos ⟨h, by rw [e1]; omega, by rw [e1]; omega⟩, e2]
theorem DR_K {T : Nat → Nat} {S : AS} {f n : Nat} {r : Nat → Nat} (hT : TI T S) (h : DR T S f n r) : sK S 4 = 22 ∧ sK S f = 13 ∧ (∀ j, j < 5 → sK S (r j) = 40 ∧ sL S (r j) = 12 ∧ r j ≠ f) ∧ f ≠ 57 ∧ (∀ p, 66 ≤ p → p ≤ 71 → p ≠ f ∧ ∀ j, j < 5 → r j ≠ p) ∧ (∀ j, j < 5 → r j ≠ 57) := by
  obtain ⟨a1, a2, a3, a4, a5, a6, a7, a8⟩ := h
  have m : ∀ j, j < 6 → T (66 + j) = 110 + j := fun j hj => by
    match j, hj with
    | 0, _ => exact (md_ty hT (j := 10) rfl rfl).1
    | 1, _ => exact (md_ty hT (j := 11) rfl rfl).1
    | 2, _ => exact (md_ty hT (j := 12) rfl rfl).1
    | 3, _ => exact (md_ty hT (j := 13) rfl rfl).1
    | 4, _ => exact (md_ty hT (j := 14) rfl rfl).1
    | 5, _ => exact (md_ty hT (j := 15) rfl rfl).1
  have t57 := hT.t9.1
  refine ⟨Tx.K hT hT.t9.2.2.2.2.1 (by decide), Tx.K hT a2 (by decide), fun j hj => ⟨Tx.K hT (a6 j hj).2 (by decide), (hT.t1 (r j) (by rw [(a6 j hj).2]; decide)).2.2.2 12 (by rw [(a6 j hj).2]; rfl), fun q => ?_⟩, fun q => ?_, fun p h1 h2 => ⟨fun q => ?_, fun j hj q => ?_⟩, fun j hj q => ?_⟩
  · have := (a6 j hj).2
    rw [q, a2] at this
    cases this
  · rw [q, t57] at a2
    cases a2
  · have := m (p - 66) (by omega)
    rw [show 66 + (p - 66) = p by omega, q, a2] at this
    omega
  · have := m (p - 66) (by omega)
    rw [show 66 + (p - 66) = p by omega, ← q, (a6 j hj).2] at this
    omega
  · have := (a6 j hj).2
    rw [q, t57] at this
    cases this
def KS (S : AS) (f n : Nat) (r : Nat → Nat) (k a b y z : Int32) : AS := wI (wI (wI (wI (wI (wI S (r 0) n k) (r 1) n a) (r 2) n b) (r 3) n y) (r 4) n z) f 5 (Int32.ofNat (n + 1))
theorem x_add {T : Nat → Nat} {S : AS} {f n : Nat} {r : Nat → Nat} (hT : TI T S) (h : DR T S f n r) (k a b y z : Int32) (hn : n < 12) : f_Flow_add S (some f) k a b y z = some (Int32.ofNat n, KS S f n r k a b y z) := by
  obtain ⟨K4, Kf, Kr, -⟩ := DR_K hT h
  obtain ⟨a1, a2, a3, a4, a5, a6, a7, a8⟩ := h
  have nf : ∀ j, j < 5 → ∀ {S' : AS} {v : Int32}, sI (wI S' (r j) n v) f 5 = sI S' f 5 := fun j hj => ti_sI_ne (fun q => (Kr j hj).2.2 q.1.symm)
  have i1 := (gl2 n (by omega)).1
  have l : ∀ j, j < 5 → n < sL S (r j) := fun j hj => by rw [(Kr j hj).2.1]; exact hn
  unfold f_Flow_add
  rw [x_g Kf a4, Option.bind_some, if_neg (fun q => by
      have := Int32.lt_iff_toInt_lt.mp q
      rw [i1, show (0 : Int32).toInt = 0 from by decide] at this
      omega), Option.bind_some, if_pos (Int32.lt_iff_toInt_lt.mpr (by rw [i1, show (12 : Int32).toInt = 12 from by decide]; omega)),
    x_r Kf (a6 0 (by omega)).1, Option.bind_some, Option.bind_some, x_b (Kr 0 (by omega)).1 (l 0 (by omega)) (by omega), Option.bind_some,
    x_r (S := wI S (r 0) n k) Kf (a6 1 (by omega)).1, Option.bind_some, x_g (S := wI S (r 0) n k) Kf ((nf 0 (by omega)).trans a4), Option.bind_some, x_b (S := wI S (r 0) n k) (Kr 1 (by omega)).1 (l 1 (by omega)) (by omega), Option.bind_some,
    x_r (S := wI (wI S (r 0) n k) (r 1) n a) Kf (a6 2 (by omega)).1, Option.bind_some, x_g (S := wI (wI S (r 0) n k) (r 1) n a) Kf (((nf 1 (by omega)).trans (nf 0 (by omega))).trans a4), Option.bind_some, x_b (S := wI (wI S (r 0) n k) (r 1) n a) (Kr 2 (by omega)).1 (l 2 (by omega)) (by omega), Option.bind_some,
    x_r (S := wI (wI (wI S (r 0) n k) (r 1) n a) (r 2) n b) Kf (a6 3 (by omega)).1, Option.bind_some, x_g (S := wI (wI (wI S (r 0) n k) (r 1) n a) (r 2) n b) Kf ((((nf 2 (by omega)).trans (nf 1 (by omega))).trans (nf 0 (by omega))).trans a4), Option.bind_some, x_b (S := wI (wI (wI S (r 0) n k) (r 1) n a) (r 2) n b) (Kr 3 (by omega)).1 (l 3 (by omega)) (by omega), Option.bind_some,
    x_r (S := wI (wI (wI (wI S (r 0) n k) (r 1) n a) (r 2) n b) (r 3) n y) Kf (a6 4 (by omega)).1, Option.bind_some, x_g (S := wI (wI (wI (wI S (r 0) n k) (r 1) n a) (r 2) n b) (r 3) n y) Kf (((((nf 3 (by omega)).trans (nf 2 (by omega))).trans (nf 1 (by omega))).trans (nf 0 (by omega))).trans a4), Option.bind_some, x_b (S := wI (wI (wI (wI S (r 0) n k) (r 1) n a) (r 2) n b) (r 3) n y) (Kr 4 (by omega)).1 (l 4 (by omega)) (by omega), Option.bind_some,
    x_g (S := wI (wI (wI (wI (wI S (r 0) n k) (r 1) n a) (r 2) n b) (r 3) n y) (r 4) n z) Kf ((((((nf 4 (by omega)).trans (nf 3 (by omega))).trans (nf 2 (by omega))).trans (nf 1 (by omega))).trans (nf 0 (by omega))).trans a4), Option.bind_some,
    ti_pI (S := wI (wI (wI (wI (wI S (r 0) n k) (r 1) n a) (r 2) n b) (r 3) n y) (r 4) n z) Kf, Option.bind_some, x_g (S := wI (wI (wI (wI (wI (wI S (r 0) n k) (r 1) n a) (r 2) n b) (r 3) n y) (r 4) n z) f 5 (Int32.ofNat n + 1)) Kf (ti_sI_eq _ f 5 _), Option.bind_some]
  have e1 : Int32.ofNat n + 1 = Int32.ofNat (n + 1) := by rw [Int32.ofNat_add]; rfl
  rw [Int32.add_sub_cancel, e1]
  rfl
theorem ho_and {β : Type} {x : Option β} {P Q : β → Prop} (h1 : Ho x P) (h2 : Ho x Q) : Ho x (fun b => P b ∧ Q b) := by
  obtain ⟨b, e, hp⟩ := h1
  obtain ⟨b', e', hq⟩ := h2
  rw [e] at e'
  cases e'
  exact ⟨b, e, hp, hq⟩
theorem ho_eq {β : Type} {x : Option β} {b : β} {P : β → Prop} (e : x = some b) (h : Ho x P) : P b := by
  obtain ⟨b', e', h⟩ := h
  rw [e] at e'
  cases e'
  exact h
theorem bx_l {α β : Type} (v : α) (S : AS) (F : α → AS → Option ((β ⊕ String) × AS)) : kr_bx (some (.inl v, S)) F = F v S := rfl
theorem bx_r {α β : Type} (e : String) (S : AS) (F : α → AS → Option ((β ⊕ String) × AS)) : kr_bx (some (.inr e, S)) F = some (.inr e, S) := rfl
theorem rA1 (S : AS) : f_K_requireArgument S 1 = some (.inl (), S) := rfl
theorem rA0 (S : AS) : f_K_requireArgument S 0 = some (.inr "java/lang/IllegalArgumentException", wX S) := rfl
theorem rS1 (S : AS) : f_K_requireState S 1 = some (.inl (), S) := rfl
theorem rS0 (S : AS) : f_K_requireState S 0 = some (.inr "java/lang/IllegalStateException", wX S) := rfl
theorem x_K_step {T : Nat → Nat} {S : AS} {f n : Nat} {r : Nat → Nat} (hT : TI T S) (h : DR T S f n r) (k a b y z : Int32) : Ho (f_K_step S (some 4) k a b y z) (fun q => (¬ OKS k a b y z ∧ q = (.inr "java/lang/IllegalArgumentException", wX S)) ∨ (OKS k a b y z ∧ 12 ≤ n ∧ q = (.inr "java/lang/IllegalStateException", wX S)) ∨ (OKS k a b y z ∧ n < 12 ∧ q = (.inl (Int32.ofNat n), KS S f n r k a b y z))) := by
  obtain ⟨K4, Kf, Kr, -⟩ := DR_K hT h
  have i1 := (gl2 n (by have := h.2.2.1; omega)).1
  unfold f_K_step
  refine r_b2 (t_isStep S k a b y z) (fun v S' p => ?_)
  obtain ⟨e, p⟩ := p
  have e : S' = S := e
  rw [e]
  rcases p with ⟨p, hok⟩ | ⟨p, hno⟩
  · have p : v = 1 := p
    rw [p, rA1, bx_l, ti_gR K4, Option.bind_some, h.1, x_g Kf h.2.2.2.1, Option.bind_some]
    refine r_if (fun c => ?_) (fun c => ?_)
    · have := Int32.le_iff_toInt_le.mp c
      rw [i1, show (12 : Int32).toInt = 12 from by decide] at this
      unfold f_K_step_B30
      rw [rS0, bx_r]
      exact r_some (Or.inr (Or.inl ⟨hok, by omega, rfl⟩))
    · have hn12 : n < 12 := by
        refine Nat.not_le.mp (fun q => c (Int32.le_iff_toInt_le.mpr ?_))
        rw [i1, show (12 : Int32).toInt = 12 from by decide]
        omega
      unfold f_K_step_B30
      rw [rS1, bx_l, ti_gR K4, Option.bind_some, h.1, ti_rv Kf, Option.bind_some, x_add hT h k a b y z hn12, b2_s]
      exact r_some (Or.inr (Or.inr ⟨hok, hn12, rfl⟩))
  · have p : v = 0 := p
    rw [p, rA0, bx_r]
    exact r_some (Or.inl ⟨hno, rfl⟩)
theorem x_bJ {T : Nat → Nat} {S : AS} (hT : TI T S) (v : Int64) : bJ S (some 126) (0 : Int32) v = some (wJ S 126 0 v) := by
  have e := hT.t9.2.2.2.2.2
  have k : sK S 126 = 42 := Tx.K hT e (by decide)
  have l := (hT.t1 126 (by rw [e]; decide)).2.2.2 1 (by rw [e]; rfl)
  unfold bJ
  rw [Option.bind_some, if_pos ⟨k, by decide, by rw [l]; decide⟩]
  rfl
theorem x_aJ {T : Nat → Nat} {S : AS} (hT : TI T S) : aJ S (some 126) (0 : Int32) = some (sJ S 126 0) := by
  have e := hT.t9.2.2.2.2.2
  have k : sK S 126 = 42 := Tx.K hT e (by decide)
  have l := (hT.t1 126 (by rw [e]; decide)).2.2.2 1 (by rw [e]; rfl)
  unfold aJ
  rw [Option.bind_some, if_pos ⟨k, by decide, by rw [l]; decide⟩]
  rfl
theorem bJ_K {S : AS} (k : sK S 126 = 42) (l : sL S 126 = 1) (v : Int64) : bJ S (some 126) (0 : Int32) v = some (wJ S 126 0 v) := by
  unfold bJ
  rw [Option.bind_some, if_pos ⟨k, by decide, by rw [l]; decide⟩]
  rfl
theorem bh_l {α β : Type} (v : α) (S : AS) (G : String → AS → Option β) (F : α → AS → Option β) : kr_bh (some (.inl v, S)) G F = F v S := rfl
theorem bh_r {α β : Type} (e : String) (S : AS) (G : String → AS → Option β) (F : α → AS → Option β) : kr_bh (some (.inr e, S)) G F = G e S := rfl
theorem x_W_step {T : Nat → Nat} {S : AS} {f n : Nat} {r : Nat → Nat} (hT : TI T S) (h : DR T S f n r) (k a b y z : Int32) : Ho (f_W_step S (some 4) k a b y z (some 126)) (fun q => (¬ OKS k a b y z ∧ q = (1, wX S)) ∨ (OKS k a b y z ∧ 12 ≤ n ∧ q = (2, wX S)) ∨ (OKS k a b y z ∧ n < 12 ∧ q = (0, wJ (KS S f n r k a b y z) 126 0 (Int32.ofNat n).toInt64))) := by
  have e := hT.t9.2.2.2.2.2
  have k6 : sK S 126 = 42 := Tx.K hT e (by decide)
  have l6 : sL S 126 = 1 := (hT.t1 126 (by rw [e]; decide)).2.2.2 1 (by rw [e]; rfl)
  obtain ⟨K4, -⟩ := DR_K hT h
  unfold f_W_step
  rw [ti_rv K4, Option.bind_some]
  obtain ⟨q, hq, p⟩ := x_K_step hT h k a b y z
  rw [hq]
  rcases p with ⟨p1, rfl⟩ | ⟨p1, p2, rfl⟩ | ⟨p1, p2, rfl⟩
  · rw [bh_r]
    exact r_ifT rfl (r_some (Or.inl ⟨p1, rfl⟩))
  · rw [bh_r]
    exact r_ifF (by decide +kernel) (r_ifT rfl (r_some (Or.inr (Or.inl ⟨p1, p2, rfl⟩))))
  · rw [bh_l, bJ_K (S := KS S f n r k a b y z) k6 l6, Option.bind_some]
    exact r_some (Or.inr (Or.inr ⟨p1, p2, rfl⟩))
theorem x_K_clear {T : Nat → Nat} {S : AS} {f n : Nat} {r : Nat → Nat} (hT : TI T S) (h : DR T S f n r) : f_K_clear S (some 4) = some (Int32.ofNat n, wI S f 5 0) := by
  obtain ⟨K4, Kf, -⟩ := DR_K hT h
  unfold f_K_clear
  rw [ti_gR K4, Option.bind_some, h.1, x_g Kf h.2.2.2.1, Option.bind_some, Option.bind_some, ti_pI Kf, Option.bind_some]
