section
/-! ===== a session begins ===== -/
theorem st_nO {α : Type} {S : AS} {κ : Nat} {F : AS → Option α} : Le ((some (nO S κ)).bind F) (F (nO S κ)) := fun _ ha => ha
theorem nO_f (S : AS) (κ : Nat) {k : Nat} (hk : k ≠ sN S) : sI (nO S κ) k = sI S k ∧ sR (nO S κ) k = sR S k ∧ sL (nO S κ) k = sL S k := by
  have := ti_wN (S := S) (κ := κ) (l := 0) (s := kr_cN (κ - 10)) hk
  exact ⟨this.2.2.1, this.2.2.2.1, this.2.1⟩
theorem nO_0 (S : AS) (κ : Nat) : sI (nO S κ) (sN S) = (fun _ => 0) ∧ sR (nO S κ) (sN S) = (fun _ => none) := ⟨(ti_wN0 S κ 0 (kr_cN (κ - 10))).2.2.1, (ti_wN0 S κ 0 (kr_cN (κ - 10))).2.2.2⟩
theorem nO_N (S : AS) (κ : Nat) : sN (nO S κ) = sN S + 1 := rfl
/-- the row of minutes of a shown -/
def SHK (S S' : AS) (y : Nat) (g : Nat → Int32) : Prop := sN S' = sN S + 1 ∧ sR S' y 0 = some (sN S) ∧ (∀ k j, k < sN S → ¬ (k = y ∧ j = 0) → sR S' k j = sR S k j) ∧ (∀ k j, k < sN S → sI S' k j = sI S k j) ∧ (∀ f, f < 3 → sI S' (sN S) f = g f) ∧ (∀ k, k < sN S → sL S' k = sL S k)
theorem p_sh0 {S : AS} {y : Nat} {α : Type} {F : AS → Option α} {Q : α → Prop} (hy : y < sN S) (H : ∀ S', SHK S S' y (fun _ => -1) → Hp (F S') Q) : Hp ((nA S 40 (3 : Int32)).bind fun S2 => (bI S2 (some (sN S)) (0 : Int32) (-1 : Int32)).bind fun S3 => (bI S3 (some (sN S)) (1 : Int32) (-1 : Int32)).bind fun S4 => (bI S4 (some (sN S)) (2 : Int32) (-1 : Int32)).bind fun S5 => (pR S5 20 0 (some y) (some (sN S))).bind fun S6 => F S6) Q := by
  refine p_of st_nA ?_
  generalize (3 : Int32).toNatClampNeg = l3
  obtain ⟨S1, e1⟩ : ∃ S1, S1 = wN S 40 l3 l3 := ⟨_, rfl⟩
  rw [← e1]
  have N1 : sN S1 = sN S + 1 := by rw [e1]; rfl
  have f1 : ∀ k, k ≠ sN S → sI S1 k = sI S k ∧ sR S1 k = sR S k ∧ sL S1 k = sL S k := fun k hk => by
    have := ti_wN (S := S) (κ := 40) (l := l3) (s := l3) hk
    rw [e1]
    exact ⟨this.2.2.1, this.2.2.2.1, this.2.1⟩
  refine p_of (st_bIe (n := 0) (by decide)) (p_of (st_bIe (n := 1) (by decide)) (p_of (st_bIe (n := 2) (by decide)) (p_of st_pR ?_)))
  generalize (-1 : Int32) = w at H ⊢
  obtain ⟨S5, e5⟩ : ∃ S5, S5 = wI (wI (wI S1 (sN S) 0 w) (sN S) 1 w) (sN S) 2 w := ⟨_, rfl⟩
  rw [← e5]
  have N5 : sN S5 = sN S + 1 := by
    rw [e5]
    exact N1
  have R5 : sR S5 = sR S1 := by rw [e5, sR_wI, sR_wI, sR_wI]
  have L5 : sL S5 = sL S1 := by
    rw [e5]
    rfl
  refine H _ ⟨N5, ti_sR_eq _ _ _ _, fun k j hk q => ?_, fun k j hk => ?_, fun f hf => ?_, fun k hk => ?_⟩
  · rw [ti_sR_ne q, R5, (f1 k (by omega)).2.1]
  · show sI S5 k j = _
    rw [e5, ti_sI_ne (by omega), ti_sI_ne (by omega), ti_sI_ne (by omega), (f1 k (by omega)).1]
  · show sI S5 (sN S) f = w
    match f, hf with
    | 0, _ => rw [e5, ti_sI_ne (by omega), ti_sI_ne (by omega), ti_sI_eq]
    | 1, _ => rw [e5, ti_sI_ne (by omega), ti_sI_eq]
    | 2, _ => rw [e5, ti_sI_eq]
  · show sL S5 k = _
    rw [L5, (f1 k (by omega)).2.2]
theorem p_sh1 {S : AS} {y : Nat} (hy : y < sN S) : Hp (f_Shown_init1 S (some y)) (fun S' => SHK S S' y (fun _ => -1)) := by
  unfold f_Shown_init1
  exact p_of st_val (p_sh0 hy (fun S' h => p_ret h))
theorem p_sh2_L {S : AS} {y x p px : Nat} {g : Nat → Int32} (hy : sR S y 0 = some p) (hx : sR S x 0 = some px) (hp : p ≠ px) (hg : ∀ f, f < 3 → sI S px f = g f) : ∀ (k j fu : Nat) (S1 : AS), j + k = 3 → sR S1 = sR S → sL S1 = sL S → sN S1 = sN S → (∀ a b, ¬ (a = p ∧ b < 3) → sI S1 a b = sI S a b) → (∀ f, f < j → sI S1 p f = g f) → Hp (f_Shown_init2_L25 fu S1 (some y) (some x) (Int32.ofNat j)) (fun S2 => sR S2 = sR S ∧ sL S2 = sL S ∧ sN S2 = sN S ∧ (∀ a b, ¬ (a = p ∧ b < 3) → sI S2 a b = sI S a b) ∧ (∀ f, f < 3 → sI S2 p f = g f))
  | _, _, 0, _, _, _, _, _, _, _ => p_0
  | 0, j, fu + 1, S1, hk, r1, r2, r3, r4, r5 => by
    unfold f_Shown_init2_L25 f_Shown_init2_C25
    have e : j = 3 := by omega
    subst e
    exact p_of (st_T (by decide)) (p_ret ⟨r1, r2, r3, r4, r5⟩)
  | k + 1, j, fu + 1, S1, hk, r1, r2, r3, r4, r5 => by
    unfold f_Shown_init2_L25 f_Shown_init2_C25
    refine p_of (st_F (fun q => by have := (ole (a := 3) (b := j) (by decide) (by omega)).mp q; omega)) (p_of (st_gRe (v := some p) (by rw [r1]; exact hy)) (p_of (st_gRe (v := some px) (by rw [r1]; exact hx)) (p_of (st_aIe (v := g j) (oc (by omega)) ((r4 _ _ (by omega)).trans (hg j (by omega)))) (p_of (st_bIe (oc (by omega))) (p_of st_val ?_)))))
    rw [o1]
    refine p_sh2_L hy hx hp hg k (j + 1) fu _ (by omega) r1 r2 r3 (fun a b z => ?_) (fun f hf => ?_)
    · rw [ti_sI_ne (by omega)]
      exact r4 a b z
    · by_cases z : f = j
      · subst z
        rw [ti_sI_eq]
      · rw [ti_sI_ne (by omega)]
        exact r5 f (by omega)
theorem p_sh2 {S : AS} {y x px : Nat} (hy : y < sN S) (hxy : x ≠ y) (hxn : x < sN S) (hx : sR S x 0 = some px) (hpx : px < sN S) : Hp (f_Shown_init2 S (some y) (some x)) (fun S' => SHK S S' y (sI S px)) := by
  unfold f_Shown_init2
  refine p_of st_val (p_sh0 (F := fun S11 => f_Shown_init2_L25 kr_FU S11 (some y) (some x) (0 : Int32)) hy (fun S' h => ?_))
  obtain ⟨h1, h2, h3, h4, h5, h6⟩ := h
  refine p_mono (p_sh2_L (S := S') (p := sN S) (px := px) (g := sI S px) h2 ((h3 x 0 hxn (by omega)).trans hx) (by omega) (fun f hf => h4 px f hpx) 3 0 kr_FU S' rfl rfl rfl rfl (fun _ _ _ => rfl) (fun f hf => absurd hf (Nat.not_lt_zero _))) (fun S2 q => ?_)
  obtain ⟨q1, q2, q3, q4, q5⟩ := q
  refine ⟨q3.trans h1, by rw [q1]; exact h2, fun k j hk z => by rw [q1]; exact h3 k j hk z, fun k j hk => (q4 k j (by omega)).trans (h4 k j hk), q5, fun k hk => by rw [q2]; exact h6 k hk⟩
theorem p_sesI {S1 : AS} {z : Nat} {n : Int32} {p ow sh : Option Nat} {now : Int32} : Hp (f_Session_init S1 (some z) n p ow sh now) (fun S' => S' = wI (wI (wR (wR (wR (wI (wI S1 z 6 1) z 0 n) z 1 p) z 2 ow) z 3 sh) z 4 now) z 5 now) := by
  unfold f_Session_init
  exact p_of st_val (p_of st_pZ (p_of st_pI (p_of st_pR (p_of st_pR (p_of st_pR (p_of st_pI (p_of st_pI (p_ret rfl))))))))
/-- the class's new session -/
def NSK (S S' : AS) (n d px : Nat) (p ow : Option Nat) : Prop :=
  (∀ k j, k < sN S → ¬ (k = 19 ∧ (j = 0 ∨ j = 2)) → ¬ (k = 4 ∧ j = 9) → k ≠ 5 → k ≠ 6 → k ≠ 7 → sI S' k j = sI S k j) ∧
  (∀ k j, k < sN S → ¬ (k = 19 ∧ j = 1) → ¬ (k = d ∧ j = n) → sR S' k j = sR S k j) ∧
  (sI S' 19 2 = Int32.ofNat (n + 1) ∧ sI S' 4 9 = sI S 4 9 + 1) ∧
  ((∀ i, i < n → lel S' 19 i = lel S 19 i) ∧ lel S' 19 n = sN S) ∧
  (sI S' (sN S) 0 = Int32.ofNat n ∧ sR S' (sN S) 1 = p ∧ sR S' (sN S) 2 = ow ∧ sR S' (sN S) 3 = some (sN S + 1) ∧ sI S' (sN S) 4 = sI S 4 0 ∧ sI S' (sN S) 5 = sI S 4 0 ∧ sI S' (sN S) 6 = 1) ∧
  (sR S' (sN S + 1) 0 = some (sN S + 2) ∧ ∀ f, f < 3 → sI S' (sN S + 2) f = sI S px f) ∧
  ∃ Sa, sI Sa 5 2 = sI S 5 2 ∧ sI Sa 6 = sI S 6 ∧ AWK Sa S' (Int32.ofNat 0) (Int32.ofNat n)
theorem p_newK {S : AS} {n d x px : Nat} {p ow : Option Nat} (k4 : K4F S) (hs : sI S 19 2 = Int32.ofNat n) (hr : sR S 19 1 = some d) (hL : sL S d ≤ 400) (hn : n < 60) (h19 : 19 < sN S) (hd : d < sN S) (hd19 : d ≠ 19) (hd4 : d ≠ 4) (hd5 : d ≠ 5) (hxn : x < sN S) (hx : sR S x 0 = some px) (hpx : px < sN S) :
    Hp (f_K_beginSession S (some 4) p ow (some x)) (fun q => q.1 = Int32.ofNat n ∧ NSK S q.2 n d px p ow) := by
  have r8 := k4.1 8 19 rfl
  unfold f_K_beginSession
  refine p_of (st_gRe r8) (p_of st_rv (p_of st_size ?_))
  rw [hs]
  refine p_of (st_gRe r8) (p_of st_nO (p_of st_nO ?_))
  obtain ⟨S7, e7⟩ : ∃ S7, S7 = nO (nO S 19) 20 := ⟨_, rfl⟩
  have N7 : sN S7 = sN S + 2 := by rw [e7]; rfl
  have f7 : ∀ k, k < sN S → sI S7 k = sI S k ∧ sR S7 k = sR S k ∧ sL S7 k = sL S k := fun k hk => by
    obtain ⟨a1, a2, a3⟩ := nO_f S 19 (k := k) (by omega)
    obtain ⟨b1, b2, b3⟩ := nO_f (nO S 19) 20 (k := k) (by rw [nO_N]; omega)
    rw [e7]
    exact ⟨b1.trans a1, b2.trans a2, b3.trans a3⟩
  rw [show sN (nO S 19) = sN S + 1 from rfl, ← e7]
  refine p_bd (p_sh2 (S := S7) (y := sN S + 1) (x := x) (px := px) (by omega) (by omega) (by omega) (by rw [(f7 x hxn).2.1]; exact hx) (by omega)) (fun S8 h8 => ?_)
  obtain ⟨a1, a2, a3, a4, a5, a6⟩ := h8
  have o8 : ∀ k j, k < sN S → sI S8 k j = sI S k j := fun k j hk => by rw [a4 k j (by omega), (f7 k hk).1]
  have r8' : ∀ k j, k < sN S → sR S8 k j = sR S k j := fun k j hk => by rw [a3 k j (by omega) (by omega), (f7 k hk).2.1]
  refine p_of (st_gIe (v := sI S 4 0) (o8 4 0 (by omega))) (p_bd p_sesI (fun S10 e10 => ?_))
  have e10 : S10 = _ := e10
  have N10 : sN S10 = sN S + 3 := by
    rw [e10]
    show sN S8 = _
    rw [a1, N7]
  have oI : ∀ k j, k ≠ sN S → sI S10 k j = sI S8 k j := fun k j hk => by
    rw [e10, ti_sI_ne (by omega), ti_sI_ne (by omega)]
    show sI (wI (wI S8 (sN S) 6 1) (sN S) 0 (Int32.ofNat n)) k j = _
    rw [ti_sI_ne (by omega), ti_sI_ne (by omega)]
  have oR : ∀ k j, k ≠ sN S → sR S10 k j = sR S8 k j := fun k j hk => by
    rw [e10, sR_wI, sR_wI, ti_sR_ne (by omega), ti_sR_ne (by omega), ti_sR_ne (by omega), sR_wI, sR_wI]
  have z0 : sI S10 (sN S) 0 = Int32.ofNat n ∧ sR S10 (sN S) 1 = p ∧ sR S10 (sN S) 2 = ow ∧ sR S10 (sN S) 3 = some (sN S + 1) ∧ sI S10 (sN S) 4 = sI S 4 0 ∧ sI S10 (sN S) 5 = sI S 4 0 ∧ sI S10 (sN S) 6 = 1 := by
    rw [e10]
    refine ⟨?_, ?_, ?_, ?_, ?_, ti_sI_eq _ _ _ _, ?_⟩
    · rw [ti_sI_ne (by omega), ti_sI_ne (by omega)]
      exact ti_sI_eq _ _ _ _
    · rw [sR_wI, sR_wI, ti_sR_ne (by omega), ti_sR_ne (by omega), ti_sR_eq]
    · rw [sR_wI, sR_wI, ti_sR_ne (by omega), ti_sR_eq]
    · rw [sR_wI, sR_wI, ti_sR_eq]
    · rw [ti_sI_ne (by omega), ti_sI_eq]
    · rw [ti_sI_ne (by omega), ti_sI_ne (by omega)]
      show sI (wI (wI S8 (sN S) 6 1) (sN S) 0 (Int32.ofNat n)) (sN S) 6 = 1
      rw [ti_sI_ne (by omega), ti_sI_eq]
  have lL : sL S10 d = sL S d := by
    rw [e10]
    show sL S8 d = _
    rw [a6 d (by omega), (f7 d hd).2.2]
  refine p_of st_rv (p_b2 (p_add (S := S10) (l := 19) (d := d) (x := sN S) (n := n) (by rw [oR _ _ (by omega), r8' _ _ h19]; exact hr) (by rw [oI _ _ (by omega), o8 _ _ h19]; exact hs) (by omega) (by rw [lL]; exact hL) (by omega) (by omega) hd19) (fun v S12 h => ?_))
  obtain ⟨b1, b2, b3, b4, b5⟩ := h
  have b2 : sI S12 19 2 = Int32.ofNat (n + 1) := b2
  have n4 : 4 < sN S := by omega
  refine p_of (st_gIe (v := sI S 4 9) (by
    show sI S12 4 9 = _
    rw [b1 4 9 (by omega) (by omega), oI _ _ (by omega), o8 _ _ n4])) (p_of st_pI ?_)
  obtain ⟨S15, e15⟩ : ∃ S15, S15 = wI S12 4 9 (sI S 4 9 + 1) := ⟨_, rfl⟩
  rw [← e15]
  have rr : sR S15 = sR S12 := by rw [e15, sR_wI]
  have R15 : ∀ k j, k < sN S → ¬ (k = 19 ∧ j = 1) → ¬ (k = d ∧ j = n) → sR S15 k j = sR S k j := fun k j hk q1 q2 => by
    rw [rr, b3 k j (by omega) q1 q2, oR _ _ (by omega), r8' _ _ hk]
  have I15 : ∀ k j, k < sN S10 → ¬ (k = 19 ∧ (j = 0 ∨ j = 2)) → ¬ (k = 4 ∧ j = 9) → sI S15 k j = sI S10 k j := fun k j hk q1 q2 => by
    rw [e15, ti_sI_ne q2, b1 k j hk q1]
  have I15' : ∀ k j, k < sN S → ¬ (k = 19 ∧ (j = 0 ∨ j = 2)) → ¬ (k = 4 ∧ j = 9) → sI S15 k j = sI S k j := fun k j hk q1 q2 => by
    rw [I15 k j (by omega) q1 q2, oI _ _ (by omega), o8 _ _ hk]
  have n5 : 5 < sN S := by omega
  refine p_of (st_gRe (v := some 5) ((R15 4 1 n4 (by omega) (by omega)).trans (k4.1 1 5 rfl))) (p_of st_gI (p_of st_rv (p_bd (p_aw (S := S15) (k := Int32.ofNat 0) (nu := Int32.ofNat n) ((R15 5 0 n5 (by omega) (by omega)).trans k4.2.1) ((R15 5 1 n5 (by omega) (by omega)).trans k4.2.2.1)) (fun S19 a => p_ret ⟨rfl, ?_⟩))))
  have a' := a.1.2.2
  have ra : sR S19 = sR S15 := a.1.1
  have w3 : ∀ j, j < 4 → sR S19 (sN S) j = sR S10 (sN S) j := fun j _ => by
    rw [ra, rr, b3 _ _ (by omega) (by omega) (by omega)]
  have w4 : ∀ j, sI S19 (sN S) j = sI S10 (sN S) j := fun j => by
    rw [a' _ _ (by omega) (by omega) (by omega), I15 _ _ (by omega) (by omega) (by omega)]
  refine ⟨fun k j hk q1 q2 q5 q6 q7 => ?_, fun k j hk q1 q2 => ?_, ⟨?_, ?_⟩, ⟨fun i hi => ?_, ?_⟩, ⟨?_, ?_, ?_, ?_, ?_, ?_, ?_⟩, ⟨?_, fun f hf => ?_⟩, S15, ?_, funext fun j => ?_, a⟩
  · rw [a' k j q5 q6 q7, I15' k j hk q1 q2]
  · rw [ra]
    exact R15 k j hk q1 q2
  · rw [a' _ _ (by omega) (by omega) (by omega), e15, ti_sI_ne (by omega)]
    exact b2
  · rw [a' _ _ (by omega) (by omega) (by omega), e15, ti_sI_eq]
  · unfold lel
    rw [ra, rr, b4 i hi, oR _ _ (by omega), r8' _ _ hd, hr]
    rfl
  · unfold lel
    rw [ra, rr, b5]
    rfl
  · rw [w4]
    exact z0.1
  · rw [w3 1 (by omega)]
    exact z0.2.1
  · rw [w3 2 (by omega)]
    exact z0.2.2.1
  · rw [w3 3 (by omega)]
    exact z0.2.2.2.1
  · rw [w4]
    exact z0.2.2.2.2.1
  · rw [w4]
    exact z0.2.2.2.2.2.1
  · rw [w4]
    exact z0.2.2.2.2.2.2
  · rw [ra, rr, b3 _ _ (by omega) (by omega) (by omega), oR _ _ (by omega), a2, N7]
  · rw [a' _ _ (by omega) (by omega) (by omega), I15 _ _ (by omega) (by omega) (by omega), oI _ _ (by omega)]
    have := a5 f hf
    rw [N7, (f7 px hpx).1] at this
    exact this
  · exact I15' 5 2 n5 (by omega) (by omega)
  · exact I15' 6 j (by omega) (by omega) (by omega)
/-- the reference's new session -/
def NSM (m m' : AS) (n : Nat) (p ow : Int32) : Prop :=
  (sR m' = sR m ∧ sL m' = sL m ∧ ∀ q j, ¬ ((q = 85 ∨ q = 86 ∨ q = 87 ∨ q = 88 ∨ q = 89) ∧ j = n) → ¬ (q = 90 ∧ 3 * n ≤ j ∧ j < 3 * n + 3) → ¬ (q = 57 ∧ (j = 30 ∨ j = 77 ∨ j = 81)) → q ≠ 123 → q ≠ 124 → q ≠ 125 → sI m' q j = sI m q j) ∧
  (sI m' 85 n = p ∧ sI m' 86 n = sI m 57 0 ∧ sI m' 87 n = sI m 57 0 ∧ sI m' 88 n = ow ∧ sI m' 89 n = 1 ∧ (∀ f, f < 3 → sI m' 90 (3 * n + f) = -1) ∧ sI m' 57 30 = Int32.ofNat (n + 1)) ∧
  ∃ ma, sI ma 57 77 = sI m 57 77 ∧ sI ma 123 = sI m 123 ∧ sI ma 124 = sI m 124 ∧ sL ma = sL m ∧ AWM ma m' (Int32.ofNat 0) (Int32.ofNat n)
theorem p_newM_L {m : AS} {n : Nat} (hmf : MF m) (hn : n < 60) (h30 : sI m 57 30 = Int32.ofNat n) : ∀ (k j fu : Nat) (M : AS), j + k = 3 → sR M = sR m → sL M = sL m → (∀ q c, ¬ (q = 90 ∧ 3 * n ≤ c ∧ c < 3 * n + 3) → sI M q c = sI m q c) → (∀ f, f < j → sI M 90 (3 * n + f) = -1) →
    Hp (f_M_newSession_L49 fu M (some 57) (Int32.ofNat n) (Int32.ofNat j)) (fun q => q.1 = Int32.ofNat n ∧ ∃ ma, (sR ma = sR m ∧ sL ma = sL m ∧ (∀ q c, ¬ (q = 90 ∧ 3 * n ≤ c ∧ c < 3 * n + 3) → ¬ (q = 57 ∧ c = 30) → sI ma q c = sI m q c)) ∧ (∀ f, f < 3 → sI ma 90 (3 * n + f) = -1) ∧ sI ma 57 30 = Int32.ofNat (n + 1) ∧ AWM ma q.2 (Int32.ofNat 0) (Int32.ofNat n))
  | _, _, 0, _, _, _, _, _, _ => p_0
  | 0, j, fu + 1, M, hk, r1, r2, r3, r4 => by
    unfold f_M_newSession_L49 f_M_newSession_C49
    have e : j = 3 := by omega
    subst e
    refine p_of (st_T (by decide)) (p_of (st_gIe (v := Int32.ofNat n) ((r3 57 30 (by omega)).trans h30)) (p_of st_pI (p_of st_rv (p_bd (p_mw (m := wI M 57 30 (Int32.ofNat n + 1)) (k := Int32.ofNat 0) (nu := Int32.ofNat n) (MF_e hmf r1)) (fun m4 b => p_ret ⟨rfl, wI M 57 30 (Int32.ofNat n + 1), ⟨r1, r2, fun q c z1 z2 => ?_⟩, fun f hf => ?_, ?_, b⟩)))))
    · rw [ti_sI_ne z2]
      exact r3 q c z1
    · rw [ti_sI_ne (by omega)]
      exact r4 f hf
    · rw [ti_sI_eq, o1]
  | k + 1, j, fu + 1, M, hk, r1, r2, r3, r4 => by
    unfold f_M_newSession_L49 f_M_newSession_C49
    refine p_of (st_F (fun q => by have := (ole (a := 3) (b := j) (by decide) (by omega)).mp q; omega)) (p_of (st_gRe (v := some 90) (MF_e hmf r1 36 90 rfl)) (p_of (st_bIe (ix3 n (by omega) j (by omega))) (p_of st_val ?_)))
    rw [o1]
    refine p_newM_L hmf hn h30 k (j + 1) fu _ (by omega) r1 r2 (fun q c z => ?_) (fun f hf => ?_)
    · rw [ti_sI_ne (by omega)]
      exact r3 q c z
    · by_cases z : f = j
      · subst z
        rw [ti_sI_eq]
      · rw [ti_sI_ne (by omega)]
        exact r4 f (by omega)
theorem p_newM {m : AS} {n : Nat} {p ow : Int32} (hmf : MF m) (hn : n < 60) (h30 : sI m 57 30 = Int32.ofNat n) : Hp (f_M_newSession m (some 57) p ow) (fun q => q.1 = Int32.ofNat n ∧ NSM m q.2 n p ow) := by
  have on : (Int32.ofNat n).toNatClampNeg = n := oc (by omega)
  unfold f_M_newSession
  refine p_of (st_gIe h30) (p_of (st_gRe (hmf 31 85 rfl)) (p_of (st_bIe on) (p_of (st_gRe (v := some 86) (hmf 32 86 rfl)) (p_of (st_gIe (v := sI m 57 0) (ti_sI_ne (by omega))) (p_of (st_bIe on) ?_)))))
  refine p_of (st_gRe (v := some 87) (hmf 33 87 rfl)) (p_of (st_gIe (v := sI m 57 0) ((ti_sI_ne (by omega)).trans (ti_sI_ne (by omega)))) (p_of (st_bIe on) (p_of (st_gRe (v := some 88) (hmf 34 88 rfl)) (p_of (st_bIe on) (p_of (st_gRe (v := some 89) (hmf 35 89 rfl)) (p_of (st_bZe on) ?_))))))
  obtain ⟨m0, e0⟩ : ∃ m0, m0 = wI (wI (wI (wI (wI m 85 n p) 86 n (sI m 57 0)) 87 n (sI m 57 0)) 88 n ow) 89 n 1 := ⟨_, rfl⟩
  rw [← e0]
  have o0 : ∀ q j, ¬ ((q = 85 ∨ q = 86 ∨ q = 87 ∨ q = 88 ∨ q = 89) ∧ j = n) → sI m0 q j = sI m q j := fun q j z => by
    rw [e0, ti_sI_ne (by omega), ti_sI_ne (by omega), ti_sI_ne (by omega), ti_sI_ne (by omega), ti_sI_ne (by omega)]
  have r0 : sR m0 = sR m := by rw [e0]; rfl
  have l0 : sL m0 = sL m := by rw [e0]; rfl
  refine p_mono (p_newM_L (m := m0) (MF_e hmf r0) hn ((o0 _ _ (by omega)).trans h30) 3 0 kr_FU m0 rfl rfl rfl (fun _ _ _ => rfl) (fun f hf => absurd hf (Nat.not_lt_zero _))) (fun q h => ?_)
  obtain ⟨h1, ma, ⟨h2, h3, h4⟩, h5, h6, h7⟩ := h
  have b' := h7.1.2.2
  refine ⟨h1, ⟨h7.1.1.trans (h2.trans r0), h7.1.2.1.trans (h3.trans l0), fun a j z1 z2 z3 z4 z5 z6 => ?_⟩, ⟨?_, ?_, ?_, ?_, ?_, fun f hf => ?_, ?_⟩, ma, ?_, funext fun j => ?_, funext fun j => ?_, h3.trans l0, h7⟩
  · rw [b' a j z4 z5 z6 (by omega), h4 a j z2 (by omega), o0 a j z1]
  · rw [b' _ _ (by omega) (by omega) (by omega) (by omega), h4 _ _ (by omega) (by omega), e0, ti_sI_ne (by omega), ti_sI_ne (by omega), ti_sI_ne (by omega), ti_sI_ne (by omega), ti_sI_eq]
  · rw [b' _ _ (by omega) (by omega) (by omega) (by omega), h4 _ _ (by omega) (by omega), e0, ti_sI_ne (by omega), ti_sI_ne (by omega), ti_sI_ne (by omega), ti_sI_eq]
  · rw [b' _ _ (by omega) (by omega) (by omega) (by omega), h4 _ _ (by omega) (by omega), e0, ti_sI_ne (by omega), ti_sI_ne (by omega), ti_sI_eq]
  · rw [b' _ _ (by omega) (by omega) (by omega) (by omega), h4 _ _ (by omega) (by omega), e0, ti_sI_ne (by omega), ti_sI_eq]
  · rw [b' _ _ (by omega) (by omega) (by omega) (by omega), h4 _ _ (by omega) (by omega), e0, ti_sI_eq]
  · rw [b' _ _ (by omega) (by omega) (by omega) (by omega)]
    exact h5 f hf
  · rw [b' _ _ (by omega) (by omega) (by omega) (by omega)]
    exact h6
  · exact (h4 _ _ (by omega) (by omega)).trans (o0 _ _ (by omega))
  · exact (h4 _ _ (by omega) (by omega)).trans (o0 _ _ (by omega))
  · exact (h4 _ _ (by omega) (by omega)).trans (o0 _ _ (by omega))
end
section
/-! ===== what a new session leaves; act, foreign ===== -/
def P_ses (S m : AS) : Prop := cAsh S m ∧ cSes S m ∧ cUsd S m ∧ cLiv S m ∧ cSsh S m ∧ cMin S m ∧ cCod S m ∧ cAU S m
section
variable {T Tm : Nat → Nat} {S0 m0 : AS}
theorem FR_ses (h : FR S0 m0) : P_ses S0 m0 := ⟨h.Ash, h.Ses, h.Usd, h.Liv, h.Ssh, h.Min, h.Cod, h.AU⟩
/-- the session list's row -/
theorem LO19 (hT : TV T S0) (h : FR S0 m0) : ∃ d, sR S0 19 1 = some d ∧ sI S0 19 2 = Int32.ofNat (nS m0) ∧ sL S0 d ≤ 400 ∧ 19 < sN S0 ∧ d < sN S0 ∧ d ≠ 19 ∧ (∀ k, T k ≠ 0 → kd (T k) ≠ 1 → T k ≠ 32 → k ≠ d) := by
  have s := h.Ses.1.2.2.trans h.Ses.1.2.1
  have n60 : nS m0 ≤ 60 := h.Ses.1.1
  obtain ⟨d, d1, d2, d3, d4, d5, d6⟩ := LO_add hT.1 (q := 2) (n := nS m0) (by decide) s (by omega)
  exact ⟨d, d1, s, d2, d3, d4, d5, d6⟩
/-- another list's elements lie where they lay -/
theorem lel_oth {S' : AS} {d n q i : Nat} (hT : TI T S0) (hq : q < 7) (hq2 : q ≠ 2) (hd : ∀ k, T k ≠ 0 → kd (T k) ≠ 1 → T k ≠ 32 → k ≠ d) (hR : ∀ k j, k < sN S0 → ¬ (k = 19 ∧ j = 1) → ¬ (k = d ∧ j = n) → sR S' k j = sR S0 k j) (hi : (i : Int) < (sI S0 (lp q) 2).toInt) : lel S' (lp q) i = lel S0 (lp q) i := by
  obtain ⟨l1, e, l2, l3, l4, l5, l6⟩ := hT.t6 q hq
  have te : T e = 30 + q := by
    rcases l3 with l3 | l3
    · exact l3
    · rw [l3, hT.t8.2.2.2.2.2.1] at l4
      omega
  have hk := (lp_all q hq).2.2.1
  have nlp : lp q ≠ 19 := fun z => by
    have := (hT.t6 2 (by decide)).1
    rw [show lp 2 = 19 from rfl, ← z, l1] at this
    omega
  have ne : e ≠ d := hd e (by rw [te]; omega) (by rw [te, hk]; decide) (by rw [te]; omega)
  have nl : lp q ≠ d := hd _ (by rw [l1]; omega) (by
    rw [l1]
    match q, hq with
    | 0, _ => decide
    | 1, _ => decide
    | 2, _ => decide
    | 3, _ => decide
    | 4, _ => decide
    | 5, _ => decide
    | 6, _ => decide) (by rw [l1]; omega)
  have n19 : e ≠ 19 := fun z => by
    have := (hT.t6 2 (by decide)).1
    rw [show lp 2 = 19 from rfl, ← z, te] at this
    omega
  unfold lel
  rw [hR (lp q) 1 (hT.t1 _ (by rw [l1]; omega)).1 (by omega) (by omega), l2]
  show (sR S' e i).getD 0 = (sR S0 e i).getD 0
  rw [hR e i (hT.t1 _ (by rw [te]; omega)).1 (by omega) (by omega)]
theorem NS_fin (hT : TV T S0) (hm : TI Tm m0) (h : FR S0 m0) {S S' m1 m' M : AS} {d px p : Nat} {ow : Option Nat} {owi : Int32} (hN : sN S0 ≤ sN S) (hI : ∀ k j, k < sN S0 → sI S k j = sI S0 k j) (hR : ∀ k j, k < sN S0 → sR S k j = sR S0 k j)
    (d1 : sR S0 19 1 = some d) (d3 : 19 < sN S0) (d4 : d < sN S0) (d6 : ∀ k, T k ≠ 0 → kd (T k) ≠ 1 → T k ≠ 32 → k ≠ d) (n60 : nS m0 < 60) (p6 : p < 6) (how : (ow = none ∧ owi = -1) ∨ ∃ o, o < nS m0 ∧ ow = some (lel S0 19 o) ∧ owi = Int32.ofNat o)
    (nk : NSK S S' (nS m0) d px (some (29 + 4 * p)) ow) (hm1 : ∀ q j, ¬ (q = 57 ∧ j = 82) → sI m1 q j = sI m0 q j) (hl1 : sL m1 = sL m0) (nm : NSM m1 m' (nS m0) (Int32.ofNat p) owi)
    (hM : ∀ q j, ¬ (q = 90 ∧ 3 * nS m0 ≤ j ∧ j < 3 * nS m0 + 3) → sI M q j = sI m' q j) (h90 : ∀ f, f < 3 → sI M 90 (3 * nS m0 + f) = sI S px f ∧ mok (sI S px f)) : P_ses S' M := by
  have b := FR_BB hT hm h
  obtain ⟨k1, k2, ⟨k3, k4⟩, ⟨k5, k6⟩, ⟨z0, z1, z2, z3, z4, z5, z6⟩, ⟨k7, k8⟩, Sa, ka1, ka2, ka⟩ := nk
  obtain ⟨⟨-, l0, m2⟩, ⟨y1, y2, y3, y4, y5, y6, y7⟩, ma, mb1, mb2, mb3, mb4, mb⟩ := nm
  obtain ⟨n0, n1, n2⟩ := h.NW
  obtain ⟨t4, t5, t6, t7, -⟩ := kt4 hT.1
  have nn60 : nS m0 ≤ 60 := by omega
  have t19 : T 19 = 22 := (hT.1.t6 2 (by decide)).1
  have lt : ∀ {k τ : Nat}, T k = τ → τ ≠ 0 → k < sN S0 := fun hk h0 => (hT.1.t1 _ (by rw [hk]; exact h0)).1
  -- what was there is as it was
  have oI : ∀ {k τ : Nat} (j : Nat), T k = τ → τ ≠ 0 → τ ≠ 22 → τ ≠ 1 → τ ≠ 2 → τ ≠ 3 → τ ≠ 4 → sI S' k j = sI S0 k j := fun {k τ} j hk a0 a1 a2 a3 a4 a5 => by
    have x := lt hk a0
    rw [k1 k j (by omega) (fun q => a1 (by rw [← hk, q.1, t19])) (fun q => a2 (by rw [← hk, q.1, t4])) (fun q => a3 (by rw [← hk, q, t5])) (fun q => a4 (by rw [← hk, q, t6])) (fun q => a5 (by rw [← hk, q, t7])), hI k j x]
  have oR : ∀ k j, k < sN S0 → ¬ (k = 19 ∧ j = 1) → ¬ (k = d ∧ j = nS m0) → sR S' k j = sR S0 k j := fun k j hk q1 q2 => by rw [k2 k j (by omega) q1 q2, hR k j hk]
  have oRt : ∀ {k τ : Nat} (j : Nat), T k = τ → τ ≠ 0 → τ ≠ 22 → τ ≠ 32 → kd τ ≠ 1 → sR S' k j = sR S0 k j := fun {k τ} j hk a0 a1 a2 a3 => oR k j (lt hk a0) (fun q => a1 (by rw [← hk, q.1, t19])) (fun q => d6 k (by rw [hk]; exact a0) (by rw [hk]; exact a3) (by rw [hk]; exact a2) q.1)
  have oM : ∀ {q j : Nat}, ¬ (q = 90 ∧ 3 * nS m0 ≤ j ∧ j < 3 * nS m0 + 3) → ¬ ((q = 85 ∨ q = 86 ∨ q = 87 ∨ q = 88 ∨ q = 89) ∧ j = nS m0) → ¬ (q = 57 ∧ (j = 30 ∨ j = 77 ∨ j = 81)) → q ≠ 123 → q ≠ 124 → q ≠ 125 → ¬ (q = 57 ∧ j = 82) → sI M q j = sI m0 q j := fun a1 a2 a3 a4 a5 a6 a7 => by rw [hM _ _ a1, m2 _ _ a2 a1 a3 a4 a5 a6, hm1 _ _ a7]
  have eN : nn (sI M 57 30) = nS m0 + 1 := by
    rw [hM _ _ (by omega), y7]
    exact nn_o (by omega)
  have eNS : nS M = nS m0 + 1 := eN
  have eA' : uA M = uA m0 := by
    unfold uA
    rw [oM (by omega) (by omega) (by omega) (by omega) (by omega) (by omega) (by omega)]
  have lelS : ∀ i, i < nS m0 → lel S' 19 i = lel S0 19 i := fun i hi => by
    rw [k5 i hi]
    unfold lel
    rw [hR 19 1 d3, d1]
    show (sR S d i).getD 0 = (sR S0 d i).getD 0
    rw [hR d i d4]
  have zA' := zA b
  have lelA : ∀ a, a < uA m0 → lel S' 18 a = lel S0 18 a := fun a ha => lel_oth hT.1 (q := 1) (by decide) (by decide) d6 oR (SZ_lt zA' (by decide) ha)
  have tS : ∀ s, s < nS m0 → T (lel S0 19 s) = 43 := fun s hs => tyS b hs
  have tA : ∀ a, a < uA m0 → T (lel S0 18 a) = 42 := fun a ha => tyA b ha
  have mnS : ∀ s, s < nS m0 → mn S' (lel S0 19 s) 3 = mn S0 (lel S0 19 s) 3 ∧ T (mn S0 (lel S0 19 s) 3) = 48 := fun s hs => by
    obtain ⟨x, x1, x2, x3, x4⟩ := tyM (j := 3) hT.1 (tS s hs) rfl
    refine ⟨?_, x4⟩
    unfold mn
    rw [oRt 3 (tS s hs) (by decide) (by decide) (by decide) (by decide), x1]
    show (sR S' x 0).getD 0 = (sR S0 x 0).getD 0
    rw [oRt 0 x2 (by decide) (by decide) (by decide) (by decide)]
  have mnA : ∀ a, a < uA m0 → mn S' (lel S0 18 a) 4 = mn S0 (lel S0 18 a) 4 ∧ T (mn S0 (lel S0 18 a) 4) = 48 := fun a ha => by
    obtain ⟨x, x1, x2, x3, x4⟩ := tyM (j := 4) hT.1 (tA a ha) rfl
    refine ⟨?_, x4⟩
    unfold mn
    rw [oRt 4 (tA a ha) (by decide) (by decide) (by decide) (by decide), x1]
    show (sR S' x 0).getD 0 = (sR S0 x 0).getD 0
    rw [oRt 0 x2 (by decide) (by decide) (by decide) (by decide)]
  have mnN : mn S' (sN S) 3 = sN S + 2 := by
    unfold mn
    rw [z3]
    show (sR S' (sN S + 1) 0).getD 0 = _
    rw [k7]
    rfl
  have ltS : ∀ s, s < nS m0 → mn S0 (lel S0 19 s) 3 < sN S0 := fun s hs => lt (mnS s hs).2 (by decide)
  have ltA : ∀ a, a < uA m0 → mn S0 (lel S0 18 a) 4 < sN S0 := fun a ha => lt (mnA a ha).2 (by decide)
  have x89 : ∀ s, s ≠ nS m0 → sI M 89 s = sI m0 89 s := fun s hs => oM (by omega) (by omega) (by omega) (by omega) (by omega) (by omega) (by omega)
  have x89n : sI M 89 (nS m0) = 1 := (hM _ _ (by omega)).trans y5
  refine ⟨fun a ha f hf => ?_, ⟨⟨?_, ?_, ?_⟩, fun s hs => ?_⟩, fun s hs => ?_, ⟨fun s hs => ?_, ?_⟩, fun s hs f hf => ?_, ⟨fun a c ha hc e => ?_, fun a c ha hc e => ?_, fun a c ha hc => ?_⟩, ⟨⟨?_, ?_, ?_⟩, fun c hc => ?_⟩, ?_⟩
  · rw [eA'] at ha
    rw [lelA a ha, (mnA a ha).1, oI f (mnA a ha).2 (by decide) (by decide) (by decide) (by decide) (by decide) (by decide), oM (by omega) (by omega) (by omega) (by omega) (by omega) (by omega) (by omega)]
    exact h.Ash a ha f hf
  · rw [eN]
    omega
  · rw [eN, hM _ _ (by omega)]
    exact y7
  · rw [hM _ _ (by omega), y7]
    exact k3
  · rw [eNS] at hs
    by_cases c : s = nS m0
    · subst c
      rw [k6]
      refine ⟨z0, ⟨p, p6, z1, (hM _ _ (by omega)).trans y1⟩, ?_, ⟨_, z3⟩, ?_⟩
      · rcases how with ⟨q1, q2⟩ | ⟨o, o1, q1, q2⟩
        · exact Or.inl ⟨z2.trans q1, ((hM _ _ (by omega)).trans y4).trans q2⟩
        · exact Or.inr ⟨o, o1, by rw [lelS o o1]; exact z2.trans q1, ((hM _ _ (by omega)).trans y4).trans q2⟩
      · rw [z4, hM _ _ (by omega), y2, hI 4 0 (lt t4 (by decide)), hm1 57 0 (by omega)]
        exact n0
    · have hs : s < nS m0 := by omega
      obtain ⟨w1, ⟨w, w6, w2, w3⟩, w4, ⟨x, w5⟩, w7⟩ := h.Ses.2 s hs
      have ts := tS s hs
      have rt : ∀ j, sR S' (lel S0 19 s) j = sR S0 (lel S0 19 s) j := fun j => oRt j ts (by decide) (by decide) (by decide) (by decide)
      rw [lelS s hs]
      refine ⟨?_, ⟨w, w6, (rt 1).trans w2, ?_⟩, ?_, ⟨x, (rt 3).trans w5⟩, ?_⟩
      · rw [oI 0 ts (by decide) (by decide) (by decide) (by decide) (by decide) (by decide)]
        exact w1
      · rw [oM (by omega) (by omega) (by omega) (by omega) (by omega) (by omega) (by omega)]
        exact w3
      · rw [rt 2, oM (by omega) (by omega) (by omega) (by omega) (by omega) (by omega) (by omega)]
        rcases w4 with q | ⟨o, q1, q2, q3⟩
        · exact Or.inl q
        · exact Or.inr ⟨o, q1, by rw [lelS o (by omega)]; exact q2, q3⟩
      · rw [oI 4 ts (by decide) (by decide) (by decide) (by decide) (by decide) (by decide), oM (by omega) (by omega) (by omega) (by omega) (by omega) (by omega) (by omega)]
        exact w7
  · rw [eNS] at hs
    by_cases c : s = nS m0
    · subst c
      rw [k6, z5, hM _ _ (by omega), y3, hI 4 0 (lt t4 (by decide)), hm1 57 0 (by omega)]
      exact n0
    · have hs : s < nS m0 := by omega
      rw [lelS s hs, oI 5 (tS s hs) (by decide) (by decide) (by decide) (by decide) (by decide) (by decide), oM (by omega) (by omega) (by omega) (by omega) (by omega) (by omega) (by omega)]
      exact h.Usd s hs
  · rw [eNS] at hs
    by_cases c : s = nS m0
    · subst c
      rw [k6, z6, x89n]
      exact ⟨rfl, Or.inr rfl⟩
    · have hs : s < nS m0 := by omega
      rw [lelS s hs, oI 6 (tS s hs) (by decide) (by decide) (by decide) (by decide) (by decide) (by decide), x89 s c]
      exact h.Liv.1 s hs
  · rw [eNS, k4, hI 4 9 (lt t4 (by decide)), h.Liv.2, o1]
    have e1 : cnt (sI M 89) (nS m0 + 1) = cnt (sI m0 89) (nS m0) + 1 := by
      show cnt (sI M 89) (nS m0) + (if sI M 89 (nS m0) = 1 then 1 else 0) = _
      rw [if_pos x89n, cnt_eq (f := sI M 89) (g := sI m0 89) (fun j hj => x89 j (by omega))]
    rw [e1]
  · rw [eNS] at hs
    by_cases c : s = nS m0
    · subst c
      rw [k6, mnN, k8 f hf, (h90 f hf).1]
      exact ⟨rfl, (h90 f hf).2⟩
    · have hs : s < nS m0 := by omega
      rw [lelS s hs, (mnS s hs).1, oI f (mnS s hs).2 (by decide) (by decide) (by decide) (by decide) (by decide) (by decide), oM (by omega) (by omega) (by omega) (by omega) (by omega) (by omega) (by omega)]
      exact h.Ssh s hs f hf
  · rw [eA'] at ha hc
    rw [lelA a ha, lelA c hc, (mnA a ha).1, (mnA c hc).1] at e
    exact h.Min.1 a c ha hc e
  · rw [eNS] at ha hc
    by_cases c1 : a = nS m0
    · by_cases c2 : c = nS m0
      · omega
      · have hc : c < nS m0 := by omega
        rw [c1, k6, mnN, lelS c hc, (mnS c hc).1] at e
        have := ltS c hc
        omega
    · have ha : a < nS m0 := by omega
      by_cases c2 : c = nS m0
      · rw [c2, k6, mnN, lelS a ha, (mnS a ha).1] at e
        have := ltS a ha
        omega
      · have hc : c < nS m0 := by omega
        rw [lelS a ha, lelS c hc, (mnS a ha).1, (mnS c hc).1] at e
        exact h.Min.2.1 a c ha hc e
  · rw [eA'] at ha
    rw [eNS] at hc
    rw [lelA a ha, (mnA a ha).1]
    by_cases c2 : c = nS m0
    · rw [c2, k6, mnN]
      have := ltA a ha
      omega
    · have hc : c < nS m0 := by omega
      rw [lelS c hc, (mnS c hc).1]
      exact h.Min.2.2 a c ha hc
  · rw [oM (by omega) (by omega) (by omega) (by omega) (by omega) (by omega) (by omega)]
    exact (zC b).1
  · rw [oM (by omega) (by omega) (by omega) (by omega) (by omega) (by omega) (by omega)]
    exact (zC b).2.1
  · rw [oM (by omega) (by omega) (by omega) (by omega) (by omega) (by omega) (by omega), oI 2 (show T 22 = 23 from (hT.1.t6 3 (by decide)).1) (by decide) (by decide) (by decide) (by decide) (by decide) (by decide)]
    exact (zC b).2.2
  · have eC : nC M = nC m0 := by
      unfold nC
      rw [oM (by omega) (by omega) (by omega) (by omega) (by omega) (by omega) (by omega)]
    have eF : nF M = nF m0 := by
      unfold nF
      rw [oM (by omega) (by omega) (by omega) (by omega) (by omega) (by omega) (by omega)]
    have lelC : ∀ a, a < nC m0 → lel S' 22 a = lel S0 22 a := fun a ha => lel_oth hT.1 (q := 3) (by decide) (by decide) d6 oR (SZ_lt (zC b) (by decide) ha)
    rw [eC] at hc
    obtain ⟨w1, ⟨s, s1, s2, s3⟩, ⟨u, u1, u2, u3⟩, ⟨v, v1, v2, v3⟩, w4, w5, w6, w7⟩ := h.Cod.2 c hc
    have tc := tyC b hc
    have oC : ∀ j, sI S' (lel S0 22 c) j = sI S0 (lel S0 22 c) j := fun j => oI j tc (by decide) (by decide) (by decide) (by decide) (by decide) (by decide)
    have mC : ∀ q, (q = 93 ∨ q = 94 ∨ q = 95 ∨ q = 96 ∨ q = 97 ∨ q = 98) → sI M q c = sI m0 q c := fun q hq => oM (by omega) (by omega) (by omega) (by omega) (by omega) (by omega) (by omega)
    rw [eC, eF, eNS, lelC c hc, oC, oC, oC, oC, oC, mC 93 (by omega), mC 94 (by omega), mC 95 (by omega), mC 96 (by omega), mC 97 (by omega), mC 98 (by omega)]
    refine ⟨fun q hq e => w1 q hq (by rw [lelC q hq] at e; exact e), ⟨s, by omega, ?_, s3⟩, ⟨u, u1, u2, u3⟩, ⟨v, v1, v2, v3⟩, w4, w5, w6, w7⟩
    rw [oRt 0 tc (by decide) (by decide) (by decide) (by decide), lelS s s1]
    exact s2
  · unfold cAU
    rw [eNS]
    have L : sL ma 123 = 1200 := by
      rw [mb4, hl1]
      exact (ST_of hT hm h).2.2.2.1.2.2.2.2.2.2.2.2
    have a0 : AU 0 (sI m0 89) (nS m0) Sa ma := AU_cong h.AU (ka1.trans (hI 5 2 (lt t5 (by decide)))) (by rw [ka2]; exact funext fun j => hI 6 j (lt t6 (by decide))) (mb1.trans (hm1 _ _ (by omega))) (by rw [mb2]; exact funext fun j => hm1 _ _ (by omega)) (by rw [mb3]; exact funext fun j => hm1 _ _ (by omega)) rfl
    have a1 := AU_w (lv' := sI M 89) (n' := nS m0 + 1) a0 L nn60 (by omega) (by decide) (by omega) ka mb (fun s _ => by omega) (fun s hs => ?_) (fun s hs => ?_)
    · exact AU_cong a1 rfl rfl (hM _ _ (by omega)) (funext fun j => hM _ _ (by omega)) (funext fun j => hM _ _ (by omega)) rfl
    · by_cases c : s = nS m0
      · subst c
        rw [x89n]
        exact ⟨fun q => absurd rfl q.2, fun q => q.elim (fun z => absurd z.1 (Nat.lt_irrefl _)) (fun z => absurd z.1 (by decide))⟩
      · rw [x89 s c]
        exact ⟨fun q => Or.inl ⟨by omega, q.2⟩, fun q => q.elim (fun z => ⟨by omega, z.2⟩) (fun z => absurd z.1 (by decide))⟩
    · by_cases c : s = nS m0
      · exact Or.inr ⟨c.symm, Or.inl ⟨rfl, by rw [c]; exact x89n⟩⟩
      · exact Or.inl ⟨x89 s c, by omega, Or.inr (fun z => c z.symm)⟩
/-- the minutes go over -/
theorem p_actM_L {m : AS} {s n : Nat} (hmf : MF m) (hs : s < 60) (hn : n < 60) (hne : s ≠ n) : ∀ (k j fu : Nat) (M : AS), j + k = 3 → sR M = sR m → (∀ q c, ¬ (q = 90 ∧ 3 * n ≤ c ∧ c < 3 * n + 3) → sI M q c = sI m q c) → (∀ f, f < j → sI M 90 (3 * n + f) = sI m 90 (3 * s + f)) →
    Hp (f_M_act_L137 fu M (some 57) (Int32.ofNat s) (Int32.ofNat n) (Int32.ofNat j)) (fun q => q.1 = Int32.ofNat n ∧ (∀ a c, ¬ (a = 90 ∧ 3 * n ≤ c ∧ c < 3 * n + 3) → sI q.2 a c = sI m a c) ∧ (∀ f, f < 3 → sI q.2 90 (3 * n + f) = sI m 90 (3 * s + f)))
  | _, _, 0, _, _, _, _, _ => p_0
  | 0, j, fu + 1, M, hk, r1, r3, r4 => by
    unfold f_M_act_L137 f_M_act_C137
    have e : j = 3 := by omega
    subst e
    exact p_of (st_T (by decide)) (p_ret ⟨rfl, r3, r4⟩)
  | k + 1, j, fu + 1, M, hk, r1, r3, r4 => by
    unfold f_M_act_L137 f_M_act_C137
    have hm := MF_e hmf r1
    refine p_of (st_F (fun q => by have := (ole (a := 3) (b := j) (by decide) (by omega)).mp q; omega)) (p_of (st_gRe (hm 36 90 rfl)) (p_of (st_gRe (hm 36 90 rfl)) (p_of (st_aIe (v := sI m 90 (3 * s + j)) (ix3 s hs j (by omega)) (r3 _ _ (by omega))) (p_of (st_bIe (ix3 n hn j (by omega))) (p_of st_val ?_)))))
    rw [o1]
    refine p_actM_L hmf hs hn hne k (j + 1) fu _ (by omega) r1 (fun q c z => ?_) (fun f hf => ?_)
    · rw [ti_sI_ne (by omega)]
      exact r3 q c z
    · by_cases z : f = j
      · subst z
        rw [ti_sI_eq]
      · rw [ti_sI_ne (by omega)]
        exact r4 f (by omega)
end
end
section
section
variable {T Tm : Nat → Nat} {S m : AS}
theorem act_yes (hT : TV T S) (hm : TI Tm m) (h : FR S m) {s p : Nat} (s1 : s < nS m) (p6 : p < 6) (n60 : nS m < 60) : H2 (f_K_act_B99 S (some 4) (some (lel S 19 s)) (some (29 + 4 * p)) 1) (f_M_act_B112 m (some 57) (Int32.ofNat s) (Int32.ofNat p) 1 1) (fun x y => AN [eX, eS] x.1 y.1 (sI y.2 57 82) ∧ P_ses x.2 y.2) := by
  have b := FR_BB hT hm h
  have k4 := K4F_of hT.1
  have ts := tyS b s1
  obtain ⟨x, x1, x2, x3, x4⟩ := tyM (j := 3) hT.1 ts rfl
  obtain ⟨d, d1, ds, d2, d3, d4, d5, d6⟩ := LO19 hT h
  obtain ⟨t4, t5, -⟩ := kt4 hT.1
  have lt : ∀ {k τ : Nat}, T k = τ → τ ≠ 0 → k < sN S := fun hk h0 => (hT.1.t1 _ (by rw [hk]; exact h0)).1
  have d4' := d6 4 (by rw [t4]; decide) (by rw [t4]; decide) (by rw [t4]; decide)
  have d5' := d6 5 (by rw [t5]; decide) (by rw [t5]; decide) (by rw [t5]; decide)
  unfold f_K_act_B99 f_M_act_B112
  refine l_of (st_bx (rS1 S)) (l_of (st_gRe x1) (l_of st_rv ?_))
  refine m_of st_rv (m_p2 p_mayB (fun v m' e => ?_))
  cases e
  refine m_of (st_F one0) (m_of st_rv ?_)
  refine l_p2 (p_newK (S := S) (n := nS m) (d := d) (x := x) (px := mn S (lel S 19 s) 3) k4 ds d1 d2 n60 d3 d4 d5 d4'.symm d5'.symm (lt x2 (by decide)) x3 (lt x4 (by decide))) (fun v S5 q => ?_)
  obtain ⟨q1, q2⟩ := q
  have q1 : v = Int32.ofNat (nS m) := q1
  have z30 : sI (wI m 57 82 0) 57 30 = Int32.ofNat (nS m) := (lv0 m (by omega) 0).trans h.Ses.1.2.1
  refine m_p2 (p_newM (m := wI m 57 82 0) (n := nS m) (MF_of (TI_t hm 0)) n60 z30) (fun u m' q => ?_)
  obtain ⟨w1, w2⟩ := q
  have w1 : u = Int32.ofNat (nS m) := w1
  rw [q1, w1]
  have hmf' : MF m' := MF_e (MF_of hm) w2.1.1
  refine m_hp (p_actM_L (m := m') (s := s) (n := nS m) hmf' (by omega) n60 (by omega) 3 0 kr_FU m' rfl rfl (fun _ _ _ => rfl) (fun f hf => absurd hf (Nat.not_lt_zero _))) (fun q e => ?_)
  obtain ⟨v1, M⟩ := q
  obtain ⟨e1, e2, e3⟩ := e
  have e1 : v1 = Int32.ofNat (nS m) := e1
  have e2 : ∀ a c, ¬ (a = 90 ∧ 3 * nS m ≤ c ∧ c < 3 * nS m + 3) → sI M a c = sI m' a c := e2
  have e3 : ∀ f, f < 3 → sI M 90 (3 * nS m + f) = sI m' 90 (3 * s + f) := e3
  rw [e1]
  have m2 := w2.1.2.2
  refine h2_ret ⟨AN_v ?_, NS_fin hT hm h (S := S) (m1 := wI m 57 82 0) (Nat.le_refl _) (fun _ _ _ => rfl) (fun _ _ _ => rfl) d1 d3 d4 d6 n60 p6 (Or.inr ⟨s, s1, rfl, rfl⟩) q2 (fun q j z => lv0 m z 0) rfl w2 e2 (fun f hf => ?_)⟩
  · show sI M 57 82 = 0
    rw [e2 _ _ (by omega), m2 _ _ (by omega) (by omega) (by omega) (by omega) (by omega) (by omega), ti_sI_eq]
  · rw [e3 f hf, m2 _ _ (by omega) (by omega) (by omega) (by omega) (by omega) (by omega), lv0 m (by omega) 0, (h.Ssh s s1 f hf).1]
    exact ⟨rfl, (h.Ssh s s1 f hf).2⟩
theorem h_act (hT : TV T S) (hm : TI Tm m) (h : FR S m) (a c : Int32) : H2 (f_K_act S (some 4) a c) (f_M_act m (some 57) a c) (fun x y => AN [eX, eS] x.1 y.1 (sI y.2 57 82) ∧ P_ses x.2 y.2) := by
  have b := FR_BB hT hm h
  have hmf := MF_of hm
  have no1 : H2 (some ((Sum.inr eX : Int32 ⊕ String), wX S)) (f_M_act_B20 m (some 57) a c 0) (fun x y => AN [eX, eS] x.1 y.1 (sI y.2 57 82) ∧ P_ses x.2 y.2) := by
    unfold f_M_act_B20 f_M_act_B71 f_M_act_B72 f_M_act_B111 f_M_act_B112
    refine m_of (st_T rfl) (m_of (st_T rfl) (m_of st_rv (m_p2 p_mayB (fun v m' p => ?_))))
    cases p
    exact m_of (st_T rfl) (h2_ret ⟨AN_e 0 rfl (ti_sI_eq _ _ _ _), FR_ses (FR_X hT (TI_t hm 1) (FR_t hT hm h 1))⟩)
  have no3 : H2 (some ((Sum.inr eS : Int32 ⊕ String), wX S)) (f_M_act_B111 m (some 57) a c 1) (fun x y => AN [eX, eS] x.1 y.1 (sI y.2 57 82) ∧ P_ses x.2 y.2) := by
    unfold f_M_act_B111 f_M_act_B112
    refine m_of st_rv (m_p2 p_mayB (fun v m' p => ?_))
    cases p
    exact m_of (st_T rfl) (h2_ret ⟨AN_e 1 rfl (ti_sI_eq _ _ _ _), FR_ses (FR_X hT (TI_t hm 2) (FR_t hT hm h 2))⟩)
  have no2 : H2 (some ((Sum.inr eS : Int32 ⊕ String), wX S)) (f_M_act_B71 m (some 57) a c 1) (fun x y => AN [eX, eS] x.1 y.1 (sI y.2 57 82) ∧ P_ses x.2 y.2) := by
    unfold f_M_act_B71 f_M_act_B72
    exact m_of (st_T rfl) no3
  have k43 : ∀ x y, Le (f_K_act_B43 S (some 4) x y) (some ((Sum.inr eS : Int32 ⊕ String), wX S)) := fun x y q hq => by
    unfold f_K_act_B43 f_K_act_B44 at hq
    exact st_bxe (rS0 S) q hq
  have k78 : ∀ x y, Le (f_K_act_B78 S (some 4) x y) (some ((Sum.inr eS : Int32 ⊕ String), wX S)) := fun x y q hq => by
    unfold f_K_act_B78 f_K_act_B79 at hq
    exact st_bxe (rS0 S) q hq
  unfold f_K_act f_M_act f_M_act_B19
  refine l_of st_rv (m_of st_rv (m_p2 (x_MS b a) (fun v S2 p => ?_)))
  refine l_bx (fun v' S' e => ?_) (fun v' S' e => ?_)
  · rcases x_fS b a _ e with ⟨s, s1, ea, e2⟩ | ⟨no, e2⟩
    · cases e2
      rcases p with ⟨-, p2⟩ | ⟨p1, -⟩
      · cases p2
        refine m_of (st_F one0) (m_of (st_b2 (q_six m c)) (l_of st_rv (l_bx (fun v' S' e => ?_) (fun v' S' e => ?_))))
        · rcases x_fp b c _ e with ⟨p, p6, ec, e2⟩ | ⟨-, e2⟩
          · cases e2
            rw [if_pos ((six_iff _).mpr ⟨p, p6, ec⟩)]
            have z60 := h.Ses.1.1
            have s60 : s < 60 := by
              unfold nS at s1
              omega
            have n60 : nS m ≤ 60 := z60
            have ai : a.toNatClampNeg = s := by rw [ea]; exact oc (by omega)
            have ci : c.toNatClampNeg = p := by rw [ec]; exact oc (by omega)
            obtain ⟨l1, -⟩ := h.Liv.1 s s1
            obtain ⟨-, ⟨i, i6, q1, q2⟩, -⟩ := h.Ses.2 s s1
            have q3 := SPK_r h s1
            unfold f_M_act_B20
            refine m_of (st_F one0) (m_of (st_F one0) (m_of (st_gRe (hmf 35 89 rfl)) (m_of (st_aIe (v := sI m 89 s) ai rfl) (l_of (st_gIe l1) ?_))))
            by_cases c1 : sI m 89 s = 0
            · exact l_of (st_T c1) (m_of (st_T c1) (l_of (k43 _ _) no2))
            · refine l_of (st_F c1) (m_of (st_F c1) (m_of (st_gRe (hmf 34 88 rfl)) (m_of (st_aIe (v := sI m 88 s) ai rfl) ?_)))
              by_cases c2 : sI m 88 s = -1
              · refine l_of (st_gRe (q3.mpr c2)) (l_of (st_T rfl) (m_of (st_T c2) (l_of (st_gIe h.NW.1) (l_of st_rv (m_of st_rv ?_)))))
                have lvA := h_levelAt h hmf (fun _ _ _ => rfl) s1
                rw [← ea] at lvA
                refine h2_22 lvA (fun v S' u m' q => ?_)
                obtain ⟨w, w8, e1, e2⟩ := q
                cases e1
                cases e2
                by_cases c3 : lv8 w < 3
                · exact l_of (st_T c3) (m_of (st_T c3) (l_of (k43 _ _) no2))
                · refine l_of (st_F c3) (m_of (st_F c3) ?_)
                  unfold f_K_act_B44
                  refine l_of (st_bx (rS1 S)) (l_of (st_gRe q1) (l_of (st_gIe (h.Hlp i i6)) ?_))
                  refine m_of (st_gRe (hmf 8 65 rfl)) (m_of (st_gRe (hmf 31 85 rfl)) (m_of (st_aIe (v := Int32.ofNat i) ai q2) (m_of (st_aIe (v := sI m 65 i) (oc (by omega)) rfl) ?_)))
                  by_cases c4 : sI m 65 i = 0
                  · exact l_of (st_T c4) (m_of (st_T c4) (l_of (k78 _ _) no2))
                  · refine l_of (st_F c4) (m_of (st_F c4) ?_)
                    unfold f_M_act_B72
                    refine l_of (st_gRe q1) (l_of st_ac (l_of st_ac (m_of (st_F one0) (m_of (st_gRe (hmf 31 85 rfl)) (m_of (st_aIe (v := Int32.ofNat i) ai q2) ?_)))))
                    by_cases c5 : i = p
                    · subst c5
                      exact l_of (st_T rfl) (m_of (st_T ec.symm) (l_of (k78 _ _) no3))
                    · refine l_of (st_F (fun q => c5 (per_eq.mp q))) (m_of (st_F (fun q => c5 (oinj (by omega) (by omega) (q.trans ec)))) (l_of (st_gIe (h.Awy p p6)) (m_of (st_gRe (hmf 7 64 rfl)) (m_of (st_aIe (v := sI m 64 p) ci rfl) ?_))))
                      by_cases c6 : sI m 64 p = 0
                      · refine l_of (st_T c6) (m_of (st_T c6) ?_)
                        unfold f_K_act_B79
                        refine l_of (st_bx (rS1 S)) (l_of (st_gRe ((K4F_of hT.1).1 8 19 rfl)) (l_of st_rv (l_of st_size ?_)))
                        have z := h.Ses.1
                        rw [z.2.2, show sI m 57 30 = Int32.ofNat (nS m) from z.2.1]
                        refine m_of (st_gIe (v := Int32.ofNat (nS m)) z.2.1) ?_
                        by_cases c7 : (60 : Int32) ≤ Int32.ofNat (nS m)
                        · refine l_of (st_T c7) (m_of (st_T c7) ?_)
                          unfold f_K_act_B99
                          exact l_of (st_bxe (rS0 S)) no3
                        · refine l_of (st_F c7) (m_of (st_F c7) ?_)
                          rw [ea, ec]
                          exact act_yes hT hm h s1 p6 (Nat.not_le.mp (fun q => c7 ((ole (a := 60) (by decide) (by omega)).mpr q)))
                      · exact l_of (st_F c6) (m_of (st_F c6) (l_of (k78 _ _) no3))
              · exact l_of st_gR (l_of (st_F (fun q => c2 (q3.mp q))) (m_of (st_F c2) (l_of (k43 _ _) no2)))
          · cases e2
        · rcases x_fp b c _ e with ⟨p, p6, ec, e2⟩ | ⟨no', e2⟩
          · cases e2
          · cases e2
            rw [if_neg (fun q => no' ((six_iff _).mp q))]
            exact m_of (st_T rfl) no1
      · exact absurd ⟨s, s1, ea⟩ p1
    · cases e2
  · rcases x_fS b a _ e with ⟨s, s1, ea, e2⟩ | ⟨no, e2⟩
    · cases e2
    · cases e2
      rcases p with ⟨p1, -⟩ | ⟨-, p2⟩
      · exact absurd p1 no
      · cases p2
        exact m_of (st_T rfl) no1
/-! foreign -/
theorem foreign_yes (hT : TV T S) (hm : TI Tm m) (h : FR S m) {i p : Nat} (i6 : i < 6) (p6 : p < 6) (n60 : nS m < 60) (e122 : sI m 122 i = Int32.ofNat p) : H2 (f_K_foreign_B59 S (some 4) (some (29 + 4 * p)) 1) (f_M_foreign_B49 m (some 57) (Int32.ofNat i) (some 57) 1 1) (fun x y => AN [eX, eS] x.1 y.1 (sI y.2 57 82) ∧ P_ses x.2 y.2) := by
  have k4 := K4F_of hT.1
  obtain ⟨d, d1, ds, d2, d3, d4, d5, d6⟩ := LO19 hT h
  obtain ⟨t4, t5, -, -, -, -, -, -, -, t25, -⟩ := kt4 hT.1
  have lt : ∀ {k τ : Nat}, T k = τ → τ ≠ 0 → k < sN S := fun hk h0 => (hT.1.t1 _ (by rw [hk]; exact h0)).1
  have d4' := d6 4 (by rw [t4]; decide) (by rw [t4]; decide) (by rw [t4]; decide)
  have d5' := d6 5 (by rw [t5]; decide) (by rw [t5]; decide) (by rw [t5]; decide)
  have l4 := lt t4 (by decide)
  have l5 := lt t5 (by decide)
  have l25 := lt t25 (by decide)
  have hmf0 := MF_of (TI_t hm 0)
  unfold f_K_foreign_B59 f_M_foreign_B49
  refine l_of (st_bx (rS1 S)) (l_of st_nO ?_)
  have f3 : ∀ k, k < sN S → sI (nO S 20) k = sI S k ∧ sR (nO S 20) k = sR S k ∧ sL (nO S 20) k = sL S k := fun k hk => nO_f S 20 (by omega)
  have N3 : sN (nO S 20) = sN S + 1 := rfl
  refine l_pd (p_sh1 (S := nO S 20) (y := sN S) (by omega)) (fun S4 sh => ?_)
  obtain ⟨a1, a2, a3, a4, a5, a6⟩ := sh
  have a1 : sN S4 = sN S + 2 := a1
  have a2 : sR S4 (sN S) 0 = some (sN S + 1) := a2
  have oI : ∀ k j, k < sN S → sI S4 k j = sI S k j := fun k j hk => by rw [a4 k j (by omega), (f3 k hk).1]
  have oR : ∀ k j, k < sN S → sR S4 k j = sR S k j := fun k j hk => by rw [a3 k j (by omega) (by omega), (f3 k hk).2.1]
  have oL : ∀ k, k < sN S → sL S4 k = sL S k := fun k hk => by rw [a6 k (by omega), (f3 k hk).2.2]
  have k44 : K4F S4 := ⟨fun j q e => (oR 4 j l4).trans (k4.1 j q e), (oR 5 0 l5).trans k4.2.1, (oR 5 1 l5).trans k4.2.2.1, (oR 25 5 l25).trans k4.2.2.2⟩
  refine l_of st_rv ?_
  refine m_of st_rv (m_p2 p_mayB (fun v m' e => ?_))
  cases e
  refine m_of (st_F one0) (m_of (st_gRe (hmf0 76 122 rfl)) (m_of (st_aIe (v := Int32.ofNat p) (oc (by omega)) ((lv0 m (by omega) 0).trans e122)) (m_of st_rv ?_)))
  refine l_p2 (p_newK (S := S4) (n := nS m) (d := d) (x := sN S) (px := sN S + 1) k44 ((oI 19 2 d3).trans ds) ((oR 19 1 d3).trans d1) (by rw [oL d d4]; exact d2) n60 (by omega) (by omega) d5 d4'.symm d5'.symm (by omega) a2 (by omega)) (fun v S5 q => ?_)
  obtain ⟨q1, q2⟩ := q
  have q1 : v = Int32.ofNat (nS m) := q1
  have z30 : sI (wI m 57 82 0) 57 30 = Int32.ofNat (nS m) := (lv0 m (by omega) 0).trans h.Ses.1.2.1
  refine m_p2 (p_newM (m := wI m 57 82 0) (n := nS m) hmf0 n60 z30) (fun u m' q => ?_)
  obtain ⟨w1, w2⟩ := q
  have w1 : u = Int32.ofNat (nS m) := w1
  rw [q1, w1]
  refine h2_ret ⟨AN_v ?_, NS_fin hT hm h (S := S4) (m1 := wI m 57 82 0) (by omega) oI oR d1 d3 d4 d6 n60 p6 (Or.inl ⟨rfl, rfl⟩) q2 (fun q j z => lv0 m z 0) rfl w2 (fun _ _ _ => rfl) (fun f hf => ?_)⟩
  · show sI m' 57 82 = 0
    rw [w2.1.2.2 _ _ (by omega) (by omega) (by omega) (by omega) (by omega) (by omega), ti_sI_eq]
  · rw [w2.2.1.2.2.2.2.2.1 f hf, show sI S4 (sN S + 1) f = -1 from a5 f hf]
    exact ⟨rfl, Or.inl rfl⟩
theorem h_foreign (hT : TV T S) (hm : TI Tm m) (h : FR S m) (a : Int32) : H2 (f_K_foreign S (some 4) a) (f_M_foreign m (some 57) a) (fun x y => AN [eX, eS] x.1 y.1 (sI y.2 57 82) ∧ P_ses x.2 y.2) := by
  have b := FR_BB hT hm h
  have hmf := MF_of hm
  have k4 := K4F_of hT.1
  have r := k4.1 17 28 rfl
  have t28 := (kt4 hT.1).2.2.2.2.2.2.2.2.2.2.2
  have l28 : sL S 28 = 6 := (hT.1.t1 28 (by rw [t28]; decide)).2.2.2 6 (by rw [t28]; rfl)
  have no1 : H2 (some ((Sum.inr eX : Int32 ⊕ String), wX S)) (f_M_foreign_B48 m (some 57) a (some 57) 0) (fun x y => AN [eX, eS] x.1 y.1 (sI y.2 57 82) ∧ P_ses x.2 y.2) := by
    unfold f_M_foreign_B48 f_M_foreign_B49
    refine m_of st_rv (m_p2 p_mayB (fun v m' p => ?_))
    cases p
    exact m_of (st_T rfl) (h2_ret ⟨AN_e 0 rfl (ti_sI_eq _ _ _ _), FR_ses (FR_X hT (TI_t hm 1) (FR_t hT hm h 1))⟩)
  have no2 : H2 (some ((Sum.inr eS : Int32 ⊕ String), wX S)) (f_M_foreign_B48 m (some 57) a (some 57) 1) (fun x y => AN [eX, eS] x.1 y.1 (sI y.2 57 82) ∧ P_ses x.2 y.2) := by
    unfold f_M_foreign_B48 f_M_foreign_B49
    refine m_of st_rv (m_p2 p_mayB (fun v m' p => ?_))
    cases p
    exact m_of (st_T rfl) (h2_ret ⟨AN_e 1 rfl (ti_sI_eq _ _ _ _), FR_ses (FR_X hT (TI_t hm 2) (FR_t hT hm h 2))⟩)
  have k37 : ∀ x, Le (f_K_foreign_B37 S (some 4) x) (some ((Sum.inr eS : Int32 ⊕ String), wX S)) := fun x q hq => by
    unfold f_K_foreign_B37 f_K_foreign_B38 at hq
    exact st_bxe (rS0 S) q hq
  unfold f_K_foreign f_M_foreign
  refine l_of (st_gRe r) (l_of st_aN ?_)
  rw [l28]
  refine m_of (st_b2 (q_six m a)) (l_bx (fun v S' e => ?_) (fun v S' e => ?_))
  · rcases p_rI _ e with ⟨h1, h2, e2⟩ | ⟨-, e2⟩
    · cases e2
      rw [oi (by decide)] at h2
      obtain ⟨i, i6, rfl⟩ := (IX_iff (n := 6) (a := a) (by decide)).mpr ⟨h1, by omega⟩
      rw [if_pos ((six_iff _).mpr ⟨i, i6, rfl⟩)]
      have lk := h.Lnk i i6
      have z := h.Ses.1
      have n60 : nS m ≤ 60 := z.1
      refine l_of (st_gRe r) (l_of (st_aIe (v := sI m 122 i) (oc (by omega)) lk) (m_of (st_F one0) (m_of (st_gRe (hmf 76 122 rfl)) (m_of (st_aIe (v := sI m 122 i) (oc (by omega)) rfl) ?_))))
      by_cases c1 : sI m 122 i = -1
      · exact l_of (st_T c1) (m_of (st_T c1) (l_of (k37 _) no2))
      · refine l_of (st_F c1) (m_of (st_F c1) (m_of (st_gRe (hmf 7 64 rfl)) (m_of (st_gRe (hmf 76 122 rfl)) (m_of (st_aIe (v := sI m 122 i) (oc (by omega)) rfl) (m_aI (fun b0 b1 => ?_))))))
        have t64 := (md_at hm (j := 7) (p := 64) rfl rfl).2.1
        have l64 : sL m 64 = 6 := (hm.t1 64 (by rw [t64]; decide)).2.2.2 6 (by rw [t64]; rfl)
        rw [l64] at b1
        obtain ⟨p, p6, ep⟩ := (IX_iff (n := 6) (a := sI m 122 i) (by decide)).mpr ⟨b0, by omega⟩
        rw [ep, oc (by omega)]
        refine l_of (st_gRe (k4.1 8 19 rfl)) (l_of st_rv (l_of st_size ?_))
        rw [z.2.2, show sI m 57 30 = Int32.ofNat (nS m) from z.2.1]
        have go : ∀ {y : Option (Int32 × AS)} (w : Int32), (sI S (29 + 4 * p) 11 = 0 → H2 (f_K_foreign_B59 S (some 4) (some (29 + 4 * p)) 1) y (fun x y => AN [eX, eS] x.1 y.1 (sI y.2 57 82) ∧ P_ses x.2 y.2)) → (sI S (29 + 4 * p) 11 ≠ 0 → H2 (some ((Sum.inr eS : Int32 ⊕ String), wX S)) y (fun x y => AN [eX, eS] x.1 y.1 (sI y.2 57 82) ∧ P_ses x.2 y.2)) → H2 (f_K_foreign_B38 S (some 4) (Int32.ofNat p) 1) y (fun x y => AN [eX, eS] x.1 y.1 (sI y.2 57 82) ∧ P_ses x.2 y.2) := fun w hy hn => by
          unfold f_K_foreign_B38
          refine l_of (st_bx (rS1 S)) (l_of st_rv (l_bx (fun v' S' e => ?_) (fun v' S' e => ?_)))
          · rcases x_fp b _ _ e with ⟨p', p6', ec, e2⟩ | ⟨-, e2⟩
            · cases e2
              have := oinj (by omega) (by omega) ec
              subst this
              refine l_of st_gI (l_if (fun c => hy c) (fun c => ?_))
              have := hn c
              unfold f_K_foreign_B59
              exact l_of (st_bxe (rS0 S)) this
            · cases e2
          · rcases x_fp b _ _ e with ⟨p', p6', ec, e2⟩ | ⟨no', e2⟩
            · cases e2
            · exact absurd ⟨p, p6, rfl⟩ no'
        by_cases c2 : sI m 64 p = 0
        · refine m_of (st_T c2) (m_of (st_gIe (v := Int32.ofNat (nS m)) z.2.1) ?_)
          by_cases c3 : (60 : Int32) ≤ Int32.ofNat (nS m)
          · exact l_of (st_T c3) (m_of (st_T c3) (l_of (k37 _) no2))
          · refine l_of (st_F c3) (m_of (st_F c3) (go 0 (fun _ => ?_) (fun q => absurd ((h.Awy p p6).trans c2) q)))
            exact foreign_yes hT hm h i6 p6 (Nat.not_le.mp (fun q => c3 ((ole (a := 60) (by decide) (by omega)).mpr q))) ep
        · refine m_of (st_F c2) (l_if (fun c3 => l_of (k37 _) no2) (fun c3 => go 0 (fun q => absurd ((h.Awy p p6).symm.trans q) c2) (fun _ => no2)))
    · cases e2
  · rcases p_rI _ e with ⟨h1, h2, e2⟩ | ⟨h1, e2⟩
    · cases e2
    · cases e2
      rw [if_neg (show ¬ (0 ≤ a ∧ a ≤ 5) from fun q => h1 (by have := (IX_iff (n := 6) (by decide)).mp ((six_iff _).mp q); rw [oi (by decide)]; exact this))]
      exact m_of (st_T rfl) no1
end
end
section
/-! ===== the endings leave what is no family alone ===== -/
def BF (T : Nat → Nat) (S0 : AS) : Prop := K4F S0 ∧ (T 4 = 1 ∧ T 5 = 2 ∧ T 6 = 3 ∧ T 7 = 4 ∧ T 19 = 22 ∧ T 23 = 24 ∧ T 25 = 10 ∧ T 26 = 11) ∧ (∀ i : Nat, (i : Int) < (sI S0 19 2).toInt → T (lel S0 19 i) = 43 ∧ sR S0 ((sR S0 19 1).getD 0) i = some (lel S0 19 i)) ∧ (∀ i : Nat, (i : Int) < (sI S0 23 2).toInt → T (lel S0 23 i) = 44 ∧ sR S0 ((sR S0 23 1).getD 0) i = some (lel S0 23 i))
theorem BF_of {T : Nat → Nat} {S0 : AS} (hT : TI T S0) : BF T S0 := by
  obtain ⟨t4, t5, t6, t7, -, -, -, -, -, t25, t26, -⟩ := kt4 hT
  exact ⟨K4F_of hT, ⟨t4, t5, t6, t7, (hT.t6 2 (by decide)).1, (hT.t6 4 (by decide)).1, t25, t26⟩, fun i hi => lel_at hT (q := 2) (by decide) hi, fun i hi => lel_at hT (q := 4) (by decide) hi⟩
/-- a place that is a family's -/
def IF (S0 : AS) (k : Nat) : Prop := ∃ i : Nat, (i : Int) < (sI S0 23 2).toInt ∧ k = lel S0 23 i
def FK (T : Nat → Nat) (S0 S : AS) : Prop := sR S = sR S0 ∧ sI S 19 2 = sI S0 19 2 ∧ sI S 23 2 = sI S0 23 2 ∧ ∀ k j, T k = 44 → ¬ IF S0 k → sI S k j = sI S0 k j
theorem FK_rf (T : Nat → Nat) (S : AS) : FK T S S := ⟨rfl, rfl, rfl, fun _ _ _ _ => rfl⟩
section
variable {T : Nat → Nat} {S0 S : AS}
theorem FK_w (h : FK T S0 S) {k j : Nat} {v : Int32} (h19 : k ≠ 19) (h23 : k ≠ 23) (hk : T k ≠ 44 ∨ IF S0 k) : FK T S0 (wI S k j v) := by
  obtain ⟨h1, h2, h3, h4⟩ := h
  refine ⟨h1, (ti_sI_ne (by omega)).trans h2, (ti_sI_ne (by omega)).trans h3, fun a b ha hb => ?_⟩
  rw [ti_sI_ne (fun q => by
    rw [← q.1] at hk
    exact hk.elim (fun z => z ha) hb)]
  exact h4 a b ha hb
theorem FK_t (hb : BF T S0) (h : FK T S0 S) {k j τ : Nat} {v : Int32} (hk : T k = τ) (h1 : τ ≠ 22) (h2 : τ ≠ 24) (h3 : τ ≠ 44) : FK T S0 (wI S k j v) := FK_w h (fun q => h1 (by rw [← hk, q]; exact hb.2.1.2.2.2.2.1)) (fun q => h2 (by rw [← hk, q]; exact hb.2.1.2.2.2.2.2.1)) (Or.inl (by rw [hk]; exact h3))
theorem FK_i (hb : BF T S0) (h : FK T S0 S) {k j : Nat} {v : Int32} (hk : IF S0 k) : FK T S0 (wI S k j v) := by
  obtain ⟨i, h1, h2⟩ := hk
  have t := (hb.2.2.2 i h1).1
  rw [← h2] at t
  exact FK_w h (fun q => by rw [q, hb.2.1.2.2.2.2.1] at t; exact absurd t (by decide)) (fun q => by rw [q, hb.2.1.2.2.2.2.2.1] at t; exact absurd t (by decide)) (Or.inr ⟨i, h1, h2⟩)
theorem FK_a (hb : BF T S0) (h : FK T S0 S) {S' : AS} {k nu : Int32} (a : AWK S S' k nu) : FK T S0 S' := by
  obtain ⟨h1, h2, h3, h4⟩ := h
  obtain ⟨-, ⟨t4, t5, t6, t7, -⟩, -⟩ := hb
  refine ⟨a.1.1.trans h1, (a.1.2.2 19 2 (by omega) (by omega) (by omega)).trans h2, (a.1.2.2 23 2 (by omega) (by omega) (by omega)).trans h3, fun p j hp hq => ?_⟩
  rw [a.1.2.2 p j (fun q => by rw [q, t5] at hp; cases hp) (fun q => by rw [q, t6] at hp; cases hp) (fun q => by rw [q, t7] at hp; cases hp)]
  exact h4 p j hp hq
theorem FK_X (h : FK T S0 S) : FK T S0 (wX S) := h
theorem FK_aw (hb : BF T S0) (h : FK T S0 S) {a b c : Int32} : Hp (f_Audit_write S (some 5) a b c) (fun S' => FK T S0 S') := p_mono (p_aw (by rw [h.1]; exact hb.1.2.1) (by rw [h.1]; exact hb.1.2.2.1)) (fun _ q => FK_a hb h q)
theorem p_isIn (a b : Int32) : Hp (f_K_isIn S a b) (fun q => q.2 = S) := by
  unfold f_K_isIn
  exact p_if (fun _ => p_ret rfl) (fun _ => p_ret rfl)
theorem FK_tell (hb : BF T S0) (h : FK T S0 S) {g : Nat} (hg : IF S0 g) (v : Int32) : Hp (f_Grant_tell S (some g) v) (fun q => FK T S0 q.2) := by
  unfold f_Grant_tell
  refine p_of st_gI (p_b2 (p_isIn _ _) (fun w S' e => ?_))
  have e : S' = S := e
  rw [e]
  refine p_if (fun _ => p_ret h) (fun _ => p_of st_gI (p_b2 (p_isIn _ _) (fun w S' e => ?_)))
  have e : S' = S := e
  rw [e]
  exact p_if (fun _ => p_of st_gI (p_of st_pI (p_ret (FK_i hb h hg)))) (fun _ => p_ret h)
theorem FK_fs (h : FK T S0 S) (v : Int32) : Hp (f_K_findService S (some 4) v) (fun q => FK T S0 q.2) := by
  have b23 : ∀ y, Hp (f_K_findService_B23 S y) (fun q => FK T S0 q.2) := fun y => by
    unfold f_K_findService_B23
    exact p_if (fun _ => p_ret (FK_X h)) (fun _ => p_ret h)
  unfold f_K_findService f_K_findService_B22
  refine p_if (fun _ => b23 _) (fun _ => p_of st_gR ?_)
  cases sR S 4 11 with
  | none => exact fun a ha => nomatch ha
  | some d =>
    refine p_of st_aN (p_if (fun _ => b23 _) (fun _ => p_of st_gR ?_))
    cases sR S 4 11 with
    | none => exact fun a ha => nomatch ha
    | some d => exact p_of st_aR (b23 _)
theorem FK_eF_L (hb : BF T S0) {g : Nat} (hg : IF S0 g) : ∀ (fu : Nat) (i : Int32) (S : AS), FK T S0 S → Hp (f_K_endFamily_L31 fu S (some 4) (some g) i) (fun q => FK T S0 q.2)
  | 0, _, _, _ => p_0
  | fu + 1, i, S, h => by
    unfold f_K_endFamily_L31 f_K_endFamily_C31 f_K_endFamily_B53
    refine p_if (fun _ => p_ret h) (fun _ => p_of st_rv (p_bx (FK_fs h i) (fun v S3 h3 => ?_) (fun e S3 h3 => h3)))
    have h3 : FK T S0 S3 := h3
    cases v with
    | none => exact fun a ha => nomatch ha
    | some v =>
      exact p_of st_gI (p_if (fun _ => p_of st_val (FK_eF_L hb hg fu _ S3 h3)) (fun _ => p_of st_rv (p_b2 (FK_tell hb h3 hg i) (fun w S7 h7 => p_of st_val (FK_eF_L hb hg fu _ S7 h7)))))
theorem FK_eF (hb : BF T S0) (h : FK T S0 S) {g : Nat} (hg : IF S0 g) : Hp (f_K_endFamily S (some 4) (some g)) (fun q => FK T S0 q.2) := by
  unfold f_K_endFamily
  refine p_of st_gI (p_if (fun _ => p_ret h) (fun _ => p_of st_pZ ?_))
  have h10 : FK T S0 (wI S g 6 0) := FK_i hb h hg
  refine p_of (st_gRe (v := some 5) (by rw [h10.1]; exact hb.1.1 1 5 rfl)) (p_of st_gI (p_of st_gI (p_of st_rv (p_bd (FK_aw hb h10) (fun S15 h15 => FK_eF_L hb hg _ _ S15 h15)))))
/-- an element of the families' list, of the sessions' list -/
theorem FK_get23 (hb : BF T S0) (h : FK T S0 S) {α : Type} {F : Option Nat → AS → Option α} {Q : α → Prop} {i : Int32} (H : ∀ g, IF S0 g → Hp (F (some g) S) Q) : Hp (kr_b2 (f_AL_get S (some 23) i) F) Q := by
  refine p_b2 p_get (fun v S' e => ?_)
  obtain ⟨e, e1, e2⟩ := e
  obtain ⟨ev, eS⟩ := Prod.mk.inj e
  rw [eS, ev]
  rw [h.2.2.1] at e2
  have hi : ((i.toNatClampNeg : Nat) : Int) < (sI S0 23 2).toInt := by rw [natI e1]; exact e2
  rw [show sR S ((sR S 23 1).getD 0) i.toNatClampNeg = some (lel S0 23 i.toNatClampNeg) by rw [h.1]; exact (hb.2.2.2 _ hi).2]
  exact H _ ⟨_, hi, rfl⟩
theorem FK_get19 (hb : BF T S0) (h : FK T S0 S) {α : Type} {F : Option Nat → AS → Option α} {Q : α → Prop} {i : Int32} (H : ∀ g, T g = 43 → Hp (F (some g) S) Q) : Hp (kr_b2 (f_AL_get S (some 19) i) F) Q := by
  refine p_b2 p_get (fun v S' e => ?_)
  obtain ⟨e, e1, e2⟩ := e
  obtain ⟨ev, eS⟩ := Prod.mk.inj e
  rw [eS, ev]
  rw [h.2.1] at e2
  have hi : ((i.toNatClampNeg : Nat) : Int) < (sI S0 19 2).toInt := by rw [natI e1]; exact e2
  rw [show sR S ((sR S 19 1).getD 0) i.toNatClampNeg = some (lel S0 19 i.toNatClampNeg) by rw [h.1]; exact (hb.2.2.1 _ hi).2]
  exact H _ (hb.2.2.1 _ hi).1
theorem FK_r (hb : BF T S0) (h : FK T S0 S) {j p : Nat} (e : k4t j = some p) : sR S 4 j = some p := by
  rw [h.1]
  exact hb.1.1 j p e
theorem FK_eFs_L (hb : BF T S0) {x : Option Nat} : ∀ (fu : Nat) (i : Int32) (S : AS), FK T S0 S → Hp (f_K_endFamiliesOf_L2 fu S (some 4) x i) (fun q => FK T S0 q.2)
  | 0, _, _, _ => p_0
  | fu + 1, i, S, h => by
    unfold f_K_endFamiliesOf_L2 f_K_endFamiliesOf_C2 f_K_endFamiliesOf_B38
    have r := FK_r hb h (j := 13) (p := 23) rfl
    refine p_of (st_gRe r) (p_of st_rv (p_of st_size (p_if (fun _ => p_ret h) (fun _ => p_of (st_gRe r) (p_of st_rv (FK_get23 hb h (fun g hg => ?_)))))))
    refine p_of st_cc (p_of st_gR (p_of st_ac (p_of st_ac (p_if (fun _ => p_of st_rv (p_bx (FK_eF hb h hg) (fun v S' h' => p_of st_val (FK_eFs_L hb fu _ S' h')) (fun e S' h' => h'))) (fun _ => p_of st_val (FK_eFs_L hb fu _ S h))))))
theorem FK_mark (hb : BF T S0) (h : FK T S0 S) {s : Nat} (hs : T s = 43) : Hp (f_K_markEnded S (some 4) (some s)) (fun S' => FK T S0 S') := by
  unfold f_K_markEnded
  refine p_of st_pZ (p_of st_gI (p_of st_pI ?_))
  have h1 : FK T S0 (wI S s 6 0) := FK_t hb h hs (by decide) (by decide) (by decide)
  have h3 := fun (v : Int32) => FK_t hb h1 (k := 4) (j := 9) (v := v) hb.2.1.1 (by decide) (by decide) (by decide)
  exact p_of (st_gRe (v := some 5) (by rw [(h3 _).1]; exact hb.1.1 1 5 rfl)) (p_of st_gI (p_of st_gI (p_of st_rv (p_bd (FK_aw hb (h3 _)) (fun S8 h8 => p_ret h8)))))
theorem FK_eS_L (hb : BF T S0) {x : Option Nat} : ∀ (fu : Nat) (i : Int32) (S : AS), FK T S0 S → Hp (f_K_endSession_L7 fu S (some 4) x i) (fun q => FK T S0 q.2)
  | 0, _, _, _ => p_0
  | fu + 1, i, S, h => by
    unfold f_K_endSession_L7 f_K_endSession_C7 f_K_endSession_B55 f_K_endFamiliesOf
    have r := FK_r hb h (j := 8) (p := 19) rfl
    refine p_of (st_gRe r) (p_of st_rv (p_of st_size (p_if (fun _ => p_of st_rv (p_bx (FK_eFs_L hb _ _ S h) (fun v S' h' => p_ret h') (fun e S' h' => h'))) (fun _ => p_of (st_gRe r) (p_of st_rv (FK_get19 hb h (fun g hg => ?_)))))))
    refine p_of st_cc (p_of st_gR (p_of st_ac (p_of st_ac (p_if (fun _ => ?_) (fun _ => p_of st_val (FK_eS_L hb fu _ S h))))))
    refine p_of st_gI (p_if (fun _ => p_of st_val (FK_eS_L hb fu _ S h)) (fun _ => p_of st_rv (p_bd (FK_mark hb h hg) (fun S19 h19 => ?_))))
    exact p_of st_rv (p_bx (FK_eFs_L hb _ _ S19 h19) (fun v S' h' => p_of st_val (FK_eS_L hb fu _ S' h')) (fun e S' h' => h'))
theorem FK_eS (hb : BF T S0) (h : FK T S0 S) {s : Nat} (hs : T s = 43) : Hp (f_K_endSession S (some 4) (some s)) (fun q => FK T S0 q.2) := by
  unfold f_K_endSession
  exact p_of st_rv (p_bd (FK_mark hb h hs) (fun S24 h24 => FK_eS_L hb _ _ S24 h24))
theorem FK_eA_L (hb : BF T S0) {x : Option Nat} {n : Int32} : ∀ (fu : Nat) (i : Int32) (S : AS), FK T S0 S → Hp (f_K_endSessionsOf_L7 fu S (some 4) x n i) (fun q => FK T S0 q.2)
  | 0, _, _, _ => p_0
  | fu + 1, i, S, h => by
    unfold f_K_endSessionsOf_L7 f_K_endSessionsOf_C7 f_K_endSessionsOf_B54
    have r := FK_r hb h (j := 8) (p := 19) rfl
    refine p_of (st_gRe r) (p_of st_rv (p_of st_size (p_if (fun _ => p_of st_gI (p_ret h)) (fun _ => p_of (st_gRe r) (p_of st_rv (FK_get19 hb h (fun g hg => ?_)))))))
    exact p_of st_cc (p_of st_gR (p_of st_ac (p_of st_ac (p_if (fun _ => p_of st_gI (p_if (fun _ => p_of st_val (FK_eA_L hb fu _ S h)) (fun _ => p_of st_rv (p_bx (FK_eS hb h hg) (fun v S' h' => p_of st_val (FK_eA_L hb fu _ S' h')) (fun e S' h' => h'))))) (fun _ => p_of st_val (FK_eA_L hb fu _ S h))))))
theorem FK_old_L (hb : BF T S0) : ∀ (fu : Nat) (i : Int32) (S : AS), FK T S0 S → Hp (f_K_endOldSessions_L10 fu S (some 4) i) (fun q => FK T S0 q.2)
  | 0, _, _, _ => p_0
  | fu + 1, i, S, h => by
    unfold f_K_endOldSessions_L10 f_K_endOldSessions_C10 f_K_endOldSessions_B56
    have r := FK_r hb h (j := 8) (p := 19) rfl
    refine p_of (st_gRe r) (p_of st_rv (p_of st_size (p_if (fun _ => p_ret h) (fun _ => p_of (st_gRe r) (p_of st_rv (FK_get19 hb h (fun g hg => ?_)))))))
    refine p_of st_cc (p_of st_gI (p_if (fun _ => p_of st_val (FK_old_L hb fu _ S h)) (fun _ => p_of st_gI (p_of st_rv ?_))))
    refine p_b2 (P := fun q => q.2 = S) ?_ (fun v S' e => ?_)
    · unfold f_Session_isOldAt f_Session_isOldAt_B23
      exact p_of st_gI (p_if (fun _ => p_ret rfl) (fun _ => p_of st_gI (p_if (fun _ => p_ret rfl) (fun _ => p_ret rfl))))
    · have e : S' = S := e
      rw [e]
      exact p_if (fun _ => p_of st_val (FK_old_L hb fu _ S h)) (fun _ => p_of st_rv (p_bx (FK_eS hb h hg) (fun v S' h' => p_of st_val (FK_old_L hb fu _ S' h')) (fun e S' h' => h')))
theorem FK_old (hb : BF T S0) (h : FK T S0 S) : Hp (f_K_endOldSessions S (some 4)) (fun q => FK T S0 q.2) := by
  unfold f_K_endOldSessions
  exact p_of st_gI (p_if (fun _ => p_ret h) (fun _ => FK_old_L hb _ _ S h))
/-- codes that are no families stand as they stood -/
theorem Fre_of {Tm : Nat → Nat} {m m' S' : AS} (hT : TV T S0) (hm : TI Tm m) (h : FR S0 m) (k : FK T S0 S') (e1 : nC m' = nC m) (e2 : ∀ c, sI m' 98 c = sI m 98 c) : cFre S' m' := by
  have b := FR_BB hT hm h
  intro c hc h98
  rw [e1] at hc
  rw [e2] at h98
  have t := tyC b hc
  have el : lel S' 22 c = lel S0 22 c := by
    unfold lel
    rw [k.1]
  have no : ¬ IF S0 (lel S0 22 c) := fun ⟨i, i1, i2⟩ => by
    obtain ⟨z1, z2, z3⟩ := zF b
    rw [z3, z2, oi (by omega)] at i1
    have hf : i < nF m := by
      unfold nF
      omega
    obtain ⟨c', c1, c2, c3, c4, -⟩ := h.Fam.2 i hf
    have := (h.Cod.2 c hc).1 c' c1 (by rw [i2, c2])
    subst this
    rw [h98] at c4
    have : nF m ≤ 60 := z1
    exact ofNat_ne (by omega) c4
  rw [el, k.2.2.2 _ 6 t no, k.2.2.2 _ 7 t no, k.2.2.2 _ 10 t no, k.2.2.2 _ 11 t no]
  exact h.Fre c hc h98
end
end
section
/-! ===== calls that end families leave the other codes alone ===== -/
section
variable {T Tm : Nat → Nat} {S0 S m : AS}
theorem FK_rS (h : FK T S0 S) (v : Int32) : Hp (f_K_requireState S v) (fun q => FK T S0 q.2) := by
  unfold f_K_requireState
  exact p_if (fun _ => p_ret (FK_X h)) (fun _ => p_ret h)
theorem FK_rA (h : FK T S0 S) (v : Int32) : Hp (f_K_requireArgument S v) (fun q => FK T S0 q.2) := by
  unfold f_K_requireArgument
  exact p_if (fun _ => p_ret (FK_X h)) (fun _ => p_ret h)
theorem FK_rI (h : FK T S0 S) (a n : Int32) : Hp (f_K_requireIndex S a n) (fun q => FK T S0 q.2) := by
  unfold f_K_requireIndex f_K_requireIndex_B9
  exact p_if (fun _ => p_ret (FK_X h)) (fun _ => p_if (fun _ => p_ret h) (fun _ => p_ret (FK_X h)))
theorem p_isW (a b c : Int32) : Hp (f_K_isWithin S a b c) (fun q => q.2 = S) := by
  intro q e
  rw [q_win] at e
  cases e
  rfl
theorem FK_retire (hb : BF T S0) : ∀ (fu : Nat) (i now : Int32) (S : AS), FK T S0 S → Hp (f_Keyring_retire_L2 fu S (some 25) now i) (fun S' => FK T S0 S')
  | 0, _, _, _, _ => p_0
  | fu + 1, i, now, S, h => by
    unfold f_Keyring_retire_L2 f_Keyring_retire_C2 f_Keyring_retire_B40
    refine p_of st_gI (p_if (fun _ => p_ret h) (fun _ => p_if (fun _ => p_ret h) (fun _ => p_of (st_gRe (v := some 26) (by rw [h.1]; exact hb.1.2.2.2)) (p_of st_aI (p_if (fun _ => ?_) (fun _ => p_of st_val (FK_retire hb fu _ _ S h)))))))
    exact p_of st_gI (p_of st_pI (p_of st_val (FK_retire hb fu _ _ _ (FK_t hb h (τ := 10) hb.2.1.2.2.2.2.2.2.1 (by decide) (by decide) (by decide)))))
theorem FK_turn (hb : BF T S0) (h : FK T S0 S) : Hp (f_K_turnKeys S (some 4)) (fun S' => FK T S0 S') := by
  have t25 := hb.2.1.2.2.2.2.2.2.1
  have t26 := hb.2.1.2.2.2.2.2.2.2
  have b44 : ∀ S', FK T S0 S' → Hp (f_K_turnKeys_B44 S' (some 4)) (fun S' => FK T S0 S') := fun S' h' => by
    unfold f_K_turnKeys_B44 f_Keyring_retire
    exact p_of (st_gRe (FK_r hb h' (j := 15) (p := 25) rfl)) (p_of st_gI (p_of st_rv (p_bd (FK_retire hb _ _ _ S' h') (fun S4 h4 => p_ret h4))))
  have b29 : ∀ S', FK T S0 S' → Hp (f_Keyring_putWaitingToSign_B29 S' (some 25)) (fun S' => FK T S0 S') := fun S' h' => by
    unfold f_Keyring_putWaitingToSign_B29
    exact p_of st_gI (p_of st_pI (p_of st_pI (p_ret (FK_t hb (FK_t hb h' (τ := 10) t25 (by decide) (by decide) (by decide)) (τ := 10) t25 (by decide) (by decide) (by decide)))))
  unfold f_K_turnKeys
  refine p_of (st_gRe (FK_r hb h (j := 15) (p := 25) rfl)) (p_of st_gI (p_of st_rv (p_b2 (P := fun q => q.2 = S) ?_ (fun v S' e => ?_))))
  · unfold f_Keyring_isDueToSign
    exact p_of st_gI (p_if (fun _ => p_ret rfl) (fun _ => p_of st_gI (p_if (fun _ => p_ret rfl) (fun _ => p_ret rfl))))
  · have e : S' = S := e
    rw [e]
    refine p_if (fun _ => b44 S h) (fun _ => p_of (st_gRe (FK_r hb h (j := 15) (p := 25) rfl)) (p_of st_gI (p_of st_rv (p_bd (P := fun S' => FK T S0 S') ?_ (fun S13 h13 => ?_)))))
    · unfold f_Keyring_putWaitingToSign
      refine p_of st_gI (p_if (fun _ => b29 S h) (fun _ => p_of st_gI (p_if (fun _ => b29 S h) (fun _ => ?_))))
      exact p_of (st_gRe (v := some 26) (by rw [h.1]; exact hb.1.2.2.2)) (p_of st_gI (p_of st_bI (b29 _ (FK_t hb h (τ := 11) t26 (by decide) (by decide) (by decide)))))
    · exact p_of (st_gRe (FK_r hb h13 (j := 1) (p := 5) rfl)) (p_of (st_gRe (FK_r hb h13 (j := 15) (p := 25) rfl)) (p_of st_gI (p_of st_gI (p_of st_rv (p_bd (FK_aw hb h13) (fun S19 h19 => b44 S19 h19))))))
theorem FK_pass_L (hb : BF T S0) {x b0 : Int32} : ∀ (fu : Nat) (i : Int32) (S : AS), FK T S0 S → Hp (f_K_pass_L38 fu S (some 4) x b0 i) (fun q => FK T S0 q.2)
  | 0, _, _, _ => p_0
  | fu + 1, i, S, h => by
    unfold f_K_pass_L38 f_K_pass_C38
    refine p_if (fun _ => p_of st_gI (p_ret h)) (fun _ => p_of st_gI (p_of st_pI (p_of st_rv ?_)))
    refine p_bd (FK_turn hb (FK_t hb h (τ := 1) hb.2.1.1 (by decide) (by decide) (by decide))) (fun S5 h5 => p_of st_rv (p_bx (FK_old hb h5) (fun v S7 h7 => p_of st_val (FK_pass_L hb fu _ S7 h7)) (fun e S7 h7 => h7)))
theorem f_pass (hb : BF T S) (a : Int32) : Hp (f_K_pass S (some 4) a) (fun q => FK T S q.2) := by
  unfold f_K_pass
  refine p_b2 (p_isW _ _ _) (fun v S' e => ?_)
  have e : S' = S := e
  rw [e]
  refine p_bx (FK_rA (FK_rf T S) v) (fun u S1 h1 => ?_) (fun e S1 h1 => h1)
  have b28 : ∀ y, Hp (f_K_pass_B28 S1 (some 4) a y) (fun q => FK T S q.2) := fun y => by
    unfold f_K_pass_B28
    exact p_bx (FK_rS h1 y) (fun u S2 h2 => p_of st_gI (FK_pass_L hb _ _ S2 h2)) (fun e S2 h2 => h2)
  exact p_of st_gI (p_if (fun _ => b28 0) (fun _ => b28 1))
theorem FK_findS (hb : BF T S0) (h : FK T S0 S) (a : Int32) : Hp (f_K_findSession S (some 4) a) (fun q => FK T S0 q.2 ∧ ∀ v, q.1 = .inl v → ∃ g, v = some g ∧ T g = 43) := by
  have r := FK_r hb h (j := 8) (p := 19) rfl
  unfold f_K_findSession
  refine p_of (st_gRe r) (p_of st_rv (p_of st_size (p_bx (FK_rI h _ _) (fun v S1 h1 => ?_) (fun e S1 h1 => ⟨h1, fun v z => nomatch z⟩))))
  have r1 := FK_r hb h1 (j := 8) (p := 19) rfl
  exact p_of (st_gRe r1) (p_of st_rv (FK_get19 hb h1 (fun g hg => p_of st_cc (p_ret ⟨h1, fun v z => ⟨g, by cases z; rfl, hg⟩⟩))))
theorem f_signOut (hb : BF T S) (a : Int32) : Hp (f_K_signOut S (some 4) a) (fun q => FK T S q.2) := by
  unfold f_K_signOut
  refine p_of st_rv (p_bx (FK_findS hb (FK_rf T S) a) (fun v S1 h1 => ?_) (fun e S1 h1 => h1.1))
  obtain ⟨g, rfl, hg⟩ := h1.2 v rfl
  have h1 : FK T S S1 := h1.1
  exact p_of st_gI (p_bx (FK_rS h1 _) (fun u S2 h2 => p_of st_gI (p_of st_rv (p_bx (FK_eS hb h2 hg) (fun u S3 h3 => p_of st_gI (p_ret h3)) (fun e S3 h3 => h3)))) (fun e S2 h2 => h2))
/-- a person is found -/
theorem FK_findP (b : BB T Tm S m) (a : Int32) : Hp (f_K_findPerson S (some 4) a) (fun q => FK T S q.2 ∧ ∀ v, q.1 = .inl v → ∃ i, i < 6 ∧ v = some (29 + 4 * i) ∧ q.2 = S) := p_mono (x_fp b a) (fun q e => by
  rcases e with ⟨i, i6, -, rfl⟩ | ⟨-, rfl⟩
  · exact ⟨FK_rf T S, fun v z => ⟨i, i6, by cases z; rfl, rfl⟩⟩
  · exact ⟨FK_X (FK_rf T S), fun v z => nomatch z⟩)
theorem FK_wd_L (hb : BF T S0) {c : Int32} {x : Option Nat} : ∀ (fu : Nat) (i a : Int32) (S : AS), FK T S0 S → Hp (f_K_withdraw_L28 fu S (some 4) c x a i) (fun q => FK T S0 q.2)
  | 0, _, _, _, _ => p_0
  | fu + 1, i, a, S, h => by
    unfold f_K_withdraw_L28 f_K_withdraw_C28 f_K_withdraw_B92
    have r := FK_r hb h (j := 13) (p := 23) rfl
    have nx : ∀ (a : Int32) (S' : AS), FK T S0 S' → Hp ((some (i + (1 : Int32))).bind fun i1 => f_K_withdraw_L28 fu S' (some 4) c x a i1) (fun q => FK T S0 q.2) := fun a S' h' => p_of st_val (FK_wd_L hb fu _ a S' h')
    refine p_of (st_gRe r) (p_of st_rv (p_of st_size (p_if (fun _ => p_ret h) (fun _ => p_of (st_gRe r) (p_of st_rv (FK_get23 hb h (fun g hg => ?_)))))))
    refine p_of st_cc (p_of st_gI (p_if (fun _ => nx a S h) (fun _ => p_of st_gR ?_)))
    cases sR S g 0 with
    | none => exact fun a ha => nomatch ha
    | some s =>
      refine p_of st_gR (p_of st_ac (p_of st_ac (p_if (fun _ => p_of st_gI (p_if (fun _ => ?_) (fun _ => nx a S h))) (fun _ => nx a S h))))
      exact p_of st_rv (p_bx (FK_eF hb h hg) (fun v S' h' => p_of st_val (nx _ S' h')) (fun e S' h' => h'))
theorem f_withdraw (hb : BF T S) (b : BB T Tm S m) (a c : Int32) : Hp (f_K_withdraw S (some 4) a c) (fun q => FK T S q.2) := by
  unfold f_K_withdraw
  refine p_of st_rv (p_bx (FK_findP b a) (fun v S1 h1 => ?_) (fun e S1 h1 => h1.1))
  obtain ⟨i, i6, rfl, e⟩ := h1.2 v rfl
  have e : S1 = S := e
  rw [e]
  have r9 := (b.2.1.1 i i6).2.2.2.1
  obtain ⟨-, -, -, t16⟩ := kt_P b.1.1 b.2.1 i6
  refine p_of (st_gRe r9) (p_of st_aN (p_bx (FK_rI (FK_rf T S) _ _) (fun v S2 h2 => ?_) (fun e S2 h2 => h2)))
  have h2 : FK T S S2 := h2
  exact p_of (st_gRe (v := some (32 + 4 * i)) (by rw [h2.1]; exact r9)) (p_of st_bI (FK_wd_L hb _ _ _ _ (FK_t hb h2 t16 (by decide) (by decide) (by decide))))
theorem FK_te_L (hb : BF T S0) {v : Int32} : ∀ (fu : Nat) (i a : Int32) (S : AS), FK T S0 S → Hp (f_K_tellOfEnded_L4 fu S (some 4) v a i) (fun q => FK T S0 q.2)
  | 0, _, _, _, _ => p_0
  | fu + 1, i, a, S, h => by
    unfold f_K_tellOfEnded_L4 f_K_tellOfEnded_C4 f_K_tellOfEnded_B48
    have r := FK_r hb h (j := 13) (p := 23) rfl
    refine p_of (st_gRe r) (p_of st_rv (p_of st_size (p_if (fun _ => p_ret h) (fun _ => p_of (st_gRe r) (p_of st_rv (FK_get23 hb h (fun g hg => ?_)))))))
    refine p_of st_cc (p_of st_gI (p_if (fun _ => p_of st_rv (p_b2 (FK_tell hb h hg v) (fun w S' h' => ?_))) (fun _ => p_of st_val (FK_te_L hb fu _ _ S h))))
    exact p_if (fun _ => p_of st_val (FK_te_L hb fu _ _ S' h')) (fun _ => p_of st_val (p_of st_val (FK_te_L hb fu _ _ S' h')))
theorem f_line (hb : BF T S) (b : BB T Tm S m) (a : Int32) : Hp (f_K_line S (some 4) a) (fun q => FK T S q.2) := by
  unfold f_K_line
  refine p_of st_rv (p_bx (P := fun q => (∃ i, i < 4 ∧ q = (.inl (some (53 + i)), S)) ∨ q = (.inr eX, wX S)) (p_mono (x_fV b a) (fun q e => by
    rcases e with ⟨i, i4, -, e⟩ | ⟨-, e⟩
    · exact Or.inl ⟨i, i4, e⟩
    · exact Or.inr e)) (fun v S1 h1 => ?_) (fun e S1 h1 => ?_))
  · rcases h1 with ⟨i, i4, e⟩ | e
    · cases e
      have t := kt_S b.1.1 b.2.1 i4
      have b19 : ∀ y, Hp (f_K_line_B19 S (some 4) a (some (53 + i)) (some (53 + i)) y) (fun q => FK T S q.2) := fun y => by
        unfold f_K_line_B19 f_K_tellOfEnded
        have h1 : FK T S (wI S (53 + i) 1 y) := FK_t hb (FK_rf T S) t (by decide) (by decide) (by decide)
        exact p_of st_pZ (p_of st_gI (p_if (fun _ => p_ret h1) (fun _ => p_of st_rv (p_b2 (FK_te_L hb _ _ _ _ h1) (fun w S' h' => p_ret h')))))
      exact p_of st_gI (p_if (fun _ => b19 1) (fun _ => b19 0))
    · cases e
  · rcases h1 with ⟨i, i4, e⟩ | e
    · cases e
    · cases e
      exact FK_X (FK_rf T S)
/-- a state that differs in cells of other kinds alone -/
theorem FK_o (h : FK T S0 S) {S' : AS} (r : sR S' = sR S) (o : ∀ k j, (T k = 44 ∨ T k = 22 ∨ T k = 24) → sI S' k j = sI S k j) (hb : BF T S0) : FK T S0 S' := ⟨r.trans h.1, (o 19 2 (Or.inr (Or.inl hb.2.1.2.2.2.2.1))).trans h.2.1, (o 23 2 (Or.inr (Or.inr hb.2.1.2.2.2.2.2.1))).trans h.2.2.1, fun k j hk hn => (o k j (Or.inl hk)).trans (h.2.2.2 k j hk hn)⟩
theorem f_leave (hb : BF T S) (b : BB T Tm S m) (hA : cAtt S m) (hRc : cRec S m) (a : Int32) : Hp (f_K_leave S (some 4) a) (fun q => FK T S q.2) := by
  unfold f_K_leave
  refine p_of st_rv (p_bx (FK_findP b a) (fun v S1 h1 => ?_) (fun e S1 h1 => h1.1))
  obtain ⟨i, i6, rfl, e⟩ := h1.2 v rfl
  have e : S1 = S := e
  rw [e]
  obtain ⟨t29, -⟩ := kt_P b.1.1 b.2.1 i6
  have t27 : T 27 = 26 := (b.1.1.t6 6 (by decide)).1
  have b19 : ∀ y, Hp (f_K_leave_B19 S (some 4) (some (29 + 4 * i)) (some (29 + 4 * i)) y) (fun q => FK T S q.2) := fun y => by
    unfold f_K_leave_B19
    have h1 : FK T S (wI S (29 + 4 * i) 11 y) := FK_t hb (FK_rf T S) t29 (by decide) (by decide) (by decide)
    refine p_of st_pZ (p_of st_gI (p_if (fun _ => p_ret h1) (fun _ => p_of st_rv ?_)))
    unfold f_K_denyAttemptsOf f_K_stopRecoveriesOf
    refine p_bd (p_deny_L b hA i6 (B := wI S (29 + 4 * i) 11 y) (ti_sI_ne (by omega)) (uA m) 0 kr_FU _ (Nat.zero_add _) rfl rfl (fun _ _ _ => rfl) (fun a ha => by rw [if_neg (fun q => absurd q.1 (Nat.not_lt_zero _))])) (fun S4 p => ?_)
    obtain ⟨a1, a2, a3, -⟩ := p
    have h4 : FK T S S4 := FK_o h1 a1 (fun k j hk => a3 k j (by omega)) hb
    refine p_of st_rv (p_bd (p_stopR_L b hRc i6 (B := S4) ((a3 27 2 (by omega)).trans (ti_sI_ne (by omega))) (nR m) 0 kr_FU S4 (Nat.zero_add _) a1 a2 (fun _ _ _ => rfl) (fun a ha => by rw [if_neg (fun q => absurd q.1 (Nat.not_lt_zero _))])) (fun S6 p => ?_))
    obtain ⟨b1, b2, b3, -⟩ := p
    have h6 : FK T S S6 := FK_o h4 (b1.trans a1.symm) (fun k j hk => b3 k j (by omega)) hb
    unfold f_K_endSessionsOf
    exact p_of st_rv (p_bx (p_of st_gI (FK_eA_L hb _ _ S6 h6)) (fun v S8 h8 => p_ret h8) (fun e S8 h8 => h8))
  exact p_of st_gI (p_if (fun _ => b19 1) (fun _ => b19 0))
theorem f_finish (hb : BF T S) (b : BB T Tm S m) (hRc : cRec S m) (hF : PF S) (hw : cWgt S m) (hf : cFac S m) (a : Int32) : Hp (f_K_finish S (some 4) a) (fun q => FK T S q.2) := by
  have bad : ∀ {α : Type} {F : Unit → AS → Option ((α ⊕ String) × AS)}, Hp (kr_bx (f_K_requireState S 0) F) (fun q => FK T S q.2) := fun {α F} q hq => by
    have := st_bxe (rS0 S) q hq
    cases this
    exact FK_X (FK_rf T S)
  have ok : ∀ {α : Type} {F : Unit → AS → Option ((α ⊕ String) × AS)}, Hp (F () S) (fun q => FK T S q.2) → Hp (kr_bx (f_K_requireState S 1) F) (fun q => FK T S q.2) := fun h q hq => h q (st_bx (rS1 S) q hq)
  unfold f_K_finish
  refine p_of st_rv (p_bx (x_fR b a) (fun v S1 h1 => ?_) (fun e S1 h1 => ?_))
  · rcases h1 with ⟨r, r1, -, e⟩ | ⟨-, e⟩
    · cases e
      obtain ⟨-, ⟨i, i6, g1, g2⟩, g3, g4, g5, g6, g7⟩ := hRc.2.2 r r1
      have tr := tyR b r1
      obtain ⟨t29, t30, t31, -⟩ := kt_P b.1.1 b.2.1 i6
      have b31 : Hp (f_K_finish_B31 S (some 4) a (some (lel S 27 r))) (fun q => FK T S q.2) := by
        unfold f_K_finish_B31 f_K_finish_B32
        exact bad
      refine p_of st_gI (p_if (fun _ => b31) (fun _ => p_of st_gI (p_of st_gI (p_if (fun _ => b31) (fun _ => ?_)))))
      unfold f_K_finish_B32 f_Recovery_countVouchers
      refine ok (p_of st_rv (p_b2 (P := fun q => q.2 = S) (p_of st_gI (p_b2 p_bc (fun v S' e => by cases e; exact p_ret rfl))) (fun v S' e => ?_)))
      have e : S' = S := e
      rw [e]
      unfold f_K_finish_B48
      refine p_if (fun _ => bad) (fun _ => ok ?_)
      unfold f_Person_levelOfEnrolled
      refine p_of st_gI (p_of (st_gRe g1) (p_of st_rv (p_b2 (p_lvE_L hF hw hf i6 3 0 kr_FU 0 rfl) (fun v S' e => ?_))))
      cases e
      unfold f_K_finish_B70
      refine p_if (fun _ => bad) (fun _ => ok ?_)
      have h3 : FK T S (wI S (lel S 27 r) 2 0) := FK_t hb (FK_rf T S) tr (by decide) (by decide) (by decide)
      refine p_of st_pZ (p_of (st_gRe (FK_r hb h3 (j := 1) (p := 5) rfl)) (p_of st_gI (p_of st_rv (p_bd (FK_aw hb h3) (fun S7 h7 => ?_)))))
      unfold f_K_endSessionsOf f_Person_loseFactors
      refine p_of (st_gRe (v := some (29 + 4 * i)) (by rw [h7.1]; exact g1)) (p_of st_rv (p_bx (p_of st_gI (FK_eA_L hb _ _ S7 h7)) (fun v S10 h10 => ?_) (fun e S10 h10 => h10)))
      have h10 : FK T S S10 := h10
      refine p_of (st_gRe (v := some (29 + 4 * i)) (by rw [h10.1]; exact g1)) (p_of st_rv (p_bd (p_lose_L (S := S10) (i := i) (by rw [h10.1]; exact (hF.1 i i6).2.1) 3 0 kr_FU S10 rfl rfl rfl (fun _ _ _ => rfl) (fun c hc => absurd hc (Nat.not_lt_zero _))) (fun S14 p => ?_)))
      obtain ⟨b1, b2, b3, -⟩ := p
      have h14 : FK T S S14 := FK_o h10 b1 (fun k j hk => b3 k j (fun z => by rw [z.1, t30] at hk; omega)) hb
      refine p_of (st_gRe (v := some (29 + 4 * i)) (by rw [h14.1]; exact g1)) (p_of st_rv (p_bd (P := fun S' => FK T S S') ?_ (fun S17 h17 => p_ret h17)))
      unfold f_Person_makeReady
      refine p_of (st_b2 (q_Kfac S14 _)) (p_if (fun _ => p_ret h14) (fun _ => ?_))
      have w1 : FK T S (wI S14 (30 + 4 * i) (Int32.toNatClampNeg 0) 1) := FK_t hb h14 t30 (by decide) (by decide) (by decide)
      have w2 : FK T S (wI (wI S14 (30 + 4 * i) (Int32.toNatClampNeg 0) 1) (31 + 4 * i) (Int32.toNatClampNeg 0) 0) := FK_t hb w1 t31 (by decide) (by decide) (by decide)
      refine p_of (st_gRe (v := some (30 + 4 * i)) (by rw [h14.1]; exact (hF.1 i i6).2.1)) (p_of st_bI (p_of (st_gRe (v := some (31 + 4 * i)) (by rw [w1.1]; exact (hF.1 i i6).2.2.1)) (p_of st_bI (p_if (fun _ => ?_) (fun _ => p_ret w2)))))
      exact p_of st_pI (p_ret (FK_t hb w2 t29 (by decide) (by decide) (by decide)))
    · cases e
  · rcases h1 with ⟨r, r1, -, e⟩ | ⟨-, e⟩
    · cases e
    · cases e
      exact FK_X (FK_rf T S)
end
end
section
/-! ===== authorize ===== -/
/-- another list's elements lie where they lay, whichever list got a new one -/
theorem lel_othG {T : Nat → Nat} {S0 S' : AS} {d n q i q0 : Nat} (hT : TI T S0) (hq : q < 7) (hq0 : q0 < 7) (hne : q ≠ q0) (hd : ∀ k, T k ≠ 0 → kd (T k) ≠ 1 → T k ≠ 30 + q0 → k ≠ d) (hR : ∀ k j, k < sN S0 → ¬ (k = lp q0 ∧ j = 1) → ¬ (k = d ∧ j = n) → sR S' k j = sR S0 k j) (hi : (i : Int) < (sI S0 (lp q) 2).toInt) : lel S' (lp q) i = lel S0 (lp q) i := by
  obtain ⟨l1, e, l2, l3, l4, l5, l6⟩ := hT.t6 q hq
  have l0 := (hT.t6 q0 hq0).1
  have te : T e = 30 + q := by
    rcases l3 with l3 | l3
    · exact l3
    · rw [l3, hT.t8.2.2.2.2.2.1] at l4
      omega
  have hk := (lp_all q hq).2.2.1
  have nlp : lp q ≠ lp q0 := fun z => by
    rw [← z, l1] at l0
    omega
  have ne : e ≠ d := hd e (by rw [te]; omega) (by rw [te, hk]; decide) (by rw [te]; omega)
  have nl : lp q ≠ d := hd _ (by rw [l1]; omega) (by
    rw [l1]
    match q, hq with
    | 0, _ => decide
    | 1, _ => decide
    | 2, _ => decide
    | 3, _ => decide
    | 4, _ => decide
    | 5, _ => decide
    | 6, _ => decide) (by rw [l1]; omega)
  have n0 : e ≠ lp q0 := fun z => by
    rw [← z, te] at l0
    omega
  unfold lel
  rw [hR (lp q) 1 (hT.t1 _ (by rw [l1]; omega)).1 (by omega) (by omega), l2]
  show (sR S' e i).getD 0 = (sR S0 e i).getD 0
  rw [hR e i (hT.t1 _ (by rw [te]; omega)).1 (by omega) (by omega)]
theorem p_grI {S1 : AS} {z : Nat} {x : Option Nat} {c v s now : Int32} : Hp (f_Grant_init S1 (some z) x c v s now) (fun S' => S' = wI (wI (wI (wI (wR (wI (wI S1 z 5 (-1)) z 9 (-1)) z 0 x) z 1 c) z 2 v) z 3 s) z 4 now) := by
  unfold f_Grant_init
  exact p_of st_val (p_of st_pI (p_of st_pI (p_of st_pR (p_of st_pI (p_of st_pI (p_of st_pI (p_of st_pI (p_ret rfl))))))))
theorem ix24 : ∀ c, c < 4 → ((24 : Int32) + Int32.ofNat c).toNatClampNeg = 24 + c := by decide +kernel
section
variable {T Tm : Nat → Nat} {S m : AS}
def P_auth (S m : AS) : Prop := cUsd S m ∧ cCod S m ∧ cFre S m ∧ cFam S m
theorem FR_auth (h : FR S m) : P_auth S m := ⟨h.Usd, h.Cod, h.Fre, h.Fam⟩
/-- a session is used: nothing but that -/
theorem used_P (hT : TV T S) (hm : TI Tm m) (h : FR S m) {s : Nat} (s1 : s < nS m) : P_auth (wI S (lel S 19 s) 5 (sI m 57 0)) (wI (wI m 57 82 0) 87 s (sI m 57 0)) := by
  have b := FR_BB hT hm h
  have ts := tyS b s1
  have lv : ∀ {p j : Nat}, ¬ (p = 57 ∧ j = 82) → ¬ (p = 87 ∧ j = s) → sI (wI (wI m 57 82 0) 87 s (sI m 57 0)) p j = sI m p j := fun a1 a2 => (ti_sI_ne a2).trans (lv0 m a1 0)
  have oS : ∀ {k τ : Nat} (j : Nat), T k = τ → τ ≠ 43 → sI (wI S (lel S 19 s) 5 (sI m 57 0)) k j = sI S k j := fun j hk ht => ti_sI_ne (fun q => by
    rw [q.1, ts] at hk
    exact ht hk.symm)
  have e1 : nS (wI (wI m 57 82 0) 87 s (sI m 57 0)) = nS m := by
    unfold nS
    rw [lv (by omega) (by omega)]
  have e2 : nC (wI (wI m 57 82 0) 87 s (sI m 57 0)) = nC m := by
    unfold nC
    rw [lv (by omega) (by omega)]
  have e3 : nF (wI (wI m 57 82 0) 87 s (sI m 57 0)) = nF m := by
    unfold nF
    rw [lv (by omega) (by omega)]
  have t22 : T 22 = 23 := (hT.1.t6 3 (by decide)).1
  have t23 : T 23 = 24 := (hT.1.t6 4 (by decide)).1
  refine ⟨fun q hq => ?_, ⟨⟨?_, ?_, ?_⟩, fun c hc => ?_⟩, fun c hc h98 => ?_, ⟨⟨?_, ?_, ?_⟩, fun f hf => ?_⟩⟩
  · rw [e1] at hq
    show sI (wI S (lel S 19 s) 5 (sI m 57 0)) (lel S 19 q) 5 = _
    by_cases c : q = s
    · subst c
      exact (ti_sI_eq _ _ _ _).trans (ti_sI_eq _ _ _ _).symm
    · rw [ti_sI_ne (fun z => c (ses_inj h hq s1 z.1)), lv (by omega) (by omega)]
      exact h.Usd q hq
  · rw [lv (by omega) (by omega)]
    exact (zC b).1
  · rw [lv (by omega) (by omega)]
    exact (zC b).2.1
  · rw [lv (by omega) (by omega), oS 2 t22 (by decide)]
    exact (zC b).2.2
  · rw [e2] at hc
    have tc := tyC b hc
    have mC : ∀ q, (q = 93 ∨ q = 94 ∨ q = 95 ∨ q = 96 ∨ q = 97 ∨ q = 98) → sI (wI (wI m 57 82 0) 87 s (sI m 57 0)) q c = sI m q c := fun q hq => lv (by omega) (by omega)
    have := h.Cod.2 c hc
    rw [e2, e1, e3]
    show (∀ b, b < nC m → lel S 22 b = lel S 22 c → b = c) ∧ (∃ q, q < nS m ∧ sR S (lel S 22 c) 0 = some (lel S 19 q) ∧ sI (wI (wI m 57 82 0) 87 s (sI m 57 0)) 93 c = Int32.ofNat q) ∧ (∃ v, v < 4 ∧ sI (wI S (lel S 19 s) 5 (sI m 57 0)) (lel S 22 c) 1 = Int32.ofNat v ∧ sI (wI (wI m 57 82 0) 87 s (sI m 57 0)) 94 c = Int32.ofNat v) ∧ (∃ v, v < 4 ∧ sI (wI S (lel S 19 s) 5 (sI m 57 0)) (lel S 22 c) 2 = Int32.ofNat v ∧ sI (wI (wI m 57 82 0) 87 s (sI m 57 0)) 95 c = Int32.ofNat v) ∧ sI (wI S (lel S 19 s) 5 (sI m 57 0)) (lel S 22 c) 3 = sI (wI (wI m 57 82 0) 87 s (sI m 57 0)) 96 c ∧ sI (wI S (lel S 19 s) 5 (sI m 57 0)) (lel S 22 c) 4 = sI (wI (wI m 57 82 0) 87 s (sI m 57 0)) 97 c ∧ sI (wI S (lel S 19 s) 5 (sI m 57 0)) (lel S 22 c) 5 = sI (wI (wI m 57 82 0) 87 s (sI m 57 0)) 98 c ∧ (sI (wI (wI m 57 82 0) 87 s (sI m 57 0)) 98 c = -1 ∨ ∃ f, f < nF m ∧ sI (wI (wI m 57 82 0) 87 s (sI m 57 0)) 98 c = Int32.ofNat f)
    rw [mC 93 (by omega), mC 94 (by omega), mC 95 (by omega), mC 96 (by omega), mC 97 (by omega), mC 98 (by omega), oS 1 tc (by decide), oS 2 tc (by decide), oS 3 tc (by decide), oS 4 tc (by decide), oS 5 tc (by decide)]
    exact this
  · rw [e2] at hc
    rw [lv (by omega) (by omega)] at h98
    have tc := tyC b hc
    show sI (wI S (lel S 19 s) 5 (sI m 57 0)) (lel S 22 c) 6 = 0 ∧ sI (wI S (lel S 19 s) 5 (sI m 57 0)) (lel S 22 c) 7 = 0 ∧ sI (wI S (lel S 19 s) 5 (sI m 57 0)) (lel S 22 c) 10 = 0 ∧ sI (wI S (lel S 19 s) 5 (sI m 57 0)) (lel S 22 c) 11 = 0
    rw [oS 6 tc (by decide), oS 7 tc (by decide), oS 10 tc (by decide), oS 11 tc (by decide)]
    exact h.Fre c hc h98
  · rw [lv (by omega) (by omega)]
    exact (zF b).1
  · rw [lv (by omega) (by omega)]
    exact (zF b).2.1
  · rw [lv (by omega) (by omega), oS 2 t23 (by decide)]
    exact (zF b).2.2
  · rw [e3] at hf
    obtain ⟨c, c1, c2, c3, c4, c5⟩ := h.Fam.2 f hf
    exact ⟨c, by rw [e2]; exact c1, c2, (lv (by omega) (by omega)).trans c3, (lv (by omega) (by omega)).trans c4, fun x hx e => c5 x (by rw [← e2]; exact hx) ((lv (by omega) (by omega)).symm.trans e)⟩
theorem p_cons (b : BB T Tm S m) {S4 : AS} {p c : Nat} (p6 : p < 6) (c4 : c < 4) (rS : sR S4 = sR S) (lS : sL S4 = sL S) (e1 : sI S4 20 c = sI S 20 c) (e2 : sI S4 (32 + 4 * p) c = sI S (32 + 4 * p) c) : Hp (f_K_consentedTo S4 (some 4) (some (29 + 4 * p)) (Int32.ofNat c)) (fun q => q = (sI S 20 c ||| sI S (32 + 4 * p) c, S4)) := by
  have k4 := K4F_of b.1.1
  have t20 := (kt4 b.1.1).2.2.2.2.2.2.2.1
  obtain ⟨-, -, -, t16⟩ := kt_P b.1.1 b.2.1 p6
  have l20 : sL S 20 = 4 := (b.1.1.t1 20 (by rw [t20]; decide)).2.2.2 4 (by rw [t20]; rfl)
  have l16 : sL S (32 + 4 * p) = 4 := (b.1.1.t1 _ (by rw [t16]; decide)).2.2.2 4 (by rw [t16]; rfl)
  have r10 : sR S4 4 10 = some 20 := by rw [rS]; exact k4.1 10 20 rfl
  have r9 : sR S4 (29 + 4 * p) 9 = some (32 + 4 * p) := by rw [rS]; exact (b.2.1.1 p p6).2.2.2.1
  unfold f_K_consentedTo
  refine p_of (st_F (fun q => by have := lt0.mp q; rw [oi (by omega)] at this; omega)) (p_of (st_gRe r10) (p_of st_aN ?_))
  rw [lS, l20]
  refine p_of (st_F (fun q => by have := (ole (by omega) (by omega)).mp q; omega)) (p_of (st_gRe r9) (p_of st_aN ?_))
  rw [lS, l16]
  refine p_of (st_T (Int32.lt_iff_toInt_lt.mpr (by rw [oi (by omega), oi (by omega)]; omega))) ?_
  exact p_of (st_gRe r10) (p_of (st_aIe (oc (by omega)) e1) (p_of (st_gRe r9) (p_of (st_aIe (oc (by omega)) e2) (p_ret rfl))))
end
end
section
section
variable {T Tm : Nat → Nat} {S m : AS}
theorem au_new (hT : TV T S) (hm : TI Tm m) (h : FR S m) {s c v : Nat} {sc : Int32} (s1 : s < nS m) (c4 : c < 4) (v4 : v < 4) (n59 : nC m < 60) {S4 m6 : AS} (e4 : S4 = wI S (lel S 19 s) 5 (sI m 57 0)) (e6 : m6 = wI (wI m 57 82 0) 87 s (sI m 57 0)) :
    H2 ((gR S4 22 12 (some 4)).bind fun v14 => (some (nO S4 14)).bind fun S15 => (gI S15 22 0 (some 4)).bind fun v16 => (f_Grant_init S15 (some (sN S4)) (some (lel S 19 s)) (Int32.ofNat c) (Int32.ofNat v) sc v16).bind fun S17 => (kr_rv S17 10 v14).bind fun u18 => kr_b2 (f_AL_add1 S17 v14 (some (sN S4))) fun v20 S19 => (gR S19 22 12 (some 4)).bind fun v21 => (kr_rv S19 10 v21).bind fun u22 => kr_b2 (f_AL_size S19 v21) fun v24 S23 => some ((Sum.inl (v24 - (1 : Int32)) : Int32 ⊕ String), S23))
      ((gR m6 23 40 (some 57)).bind fun v19 => (gI m6 23 39 (some 57)).bind fun v20 => (bI m6 v19 v20 (Int32.ofNat s)).bind fun S21 => (gR S21 23 41 (some 57)).bind fun v22 => (gI S21 23 39 (some 57)).bind fun v23 => (bI S21 v22 v23 (Int32.ofNat c)).bind fun S24 => (gR S24 23 42 (some 57)).bind fun v25 => (gI S24 23 39 (some 57)).bind fun v26 => (bI S24 v25 v26 (Int32.ofNat v)).bind fun S27 => (gR S27 23 43 (some 57)).bind fun v28 => (gI S27 23 39 (some 57)).bind fun v29 => (bI S27 v28 v29 sc).bind fun S30 => (gR S30 23 44 (some 57)).bind fun v31 => (gI S30 23 39 (some 57)).bind fun v32 => (gI S30 23 0 (some 57)).bind fun v33 => (bI S30 v31 v32 v33).bind fun S34 => (gR S34 23 45 (some 57)).bind fun v35 => (gI S34 23 39 (some 57)).bind fun v36 => (bI S34 v35 v36 (-1 : Int32)).bind fun S37 => (gI S37 23 39 (some 57)).bind fun v38 => (pI S37 23 39 (some 57) (v38 + (1 : Int32))).bind fun S39 => (gI S39 23 39 (some 57)).bind fun v40 => some (v40 - (1 : Int32), S39)) (fun x y => AN [eX, eA, eS] x.1 y.1 (sI y.2 57 82) ∧ P_auth x.2 y.2) := by
  have b := FR_BB hT hm h
  have k4 := K4F_of hT.1
  have pu := used_P hT hm h s1
  rw [← e4, ← e6] at pu
  have rS4 : sR S4 = sR S := by rw [e4, sR_wI]
  have NS4 : sN S4 = sN S := by rw [e4]; rfl
  have lS4 : sL S4 = sL S := by rw [e4]; rfl
  have rm6 : sR m6 = sR m := by rw [e6, sR_wI, sR_wI]
  have ts := tyS b s1
  have s60 : s < 60 := by
    have := (zS b).1
    unfold nS at s1
    omega
  have t22 : T 22 = 23 := (hT.1.t6 3 (by decide)).1
  obtain ⟨t4, -⟩ := kt4 hT.1
  have oS4 : ∀ {k τ : Nat} (j : Nat), T k = τ → τ ≠ 43 → sI S4 k j = sI S k j := fun j hk ht => by
    rw [e4]
    exact ti_sI_ne (fun q => by
      rw [q.1, ts] at hk
      exact ht hk.symm)
  have om6 : ∀ {p j : Nat}, ¬ (p = 57 ∧ j = 82) → ¬ (p = 87 ∧ j = s) → sI m6 p j = sI m p j := fun a1 a2 => by
    rw [e6]
    exact (ti_sI_ne a2).trans (lv0 m a1 0)
  have m82 : sI m6 57 82 = 0 := by rw [e6, ti_sI_ne (by omega), ti_sI_eq]
  have hm6 : MF m6 := MF_e (MF_of hm) rm6
  obtain ⟨u1, u2, u3⟩ := zC b
  have n39 : sI m 57 39 = Int32.ofNat (nC m) := u2
  have m39 : sI m6 57 39 = Int32.ofNat (nC m) := (om6 (by omega) (by omega)).trans n39
  have s22 : sI S 22 2 = Int32.ofNat (nC m) := u3.trans n39
  obtain ⟨d, d1, d2, d3, d4, d5, d6⟩ := LO_add hT.1 (q := 3) (by decide) s22 (by omega)
  have d1 : sR S 22 1 = some d := d1
  have d3 : 22 < sN S := d3
  have d5 : d ≠ 22 := d5
  have n4 : 4 < sN S := (hT.1.t1 4 (by rw [t4]; decide)).1
  have d4n : 4 ≠ d := d6 4 (by rw [t4]; decide) (by rw [t4]; decide) (by rw [t4]; decide)
  have lt : ∀ {k τ : Nat}, T k = τ → τ ≠ 0 → k < sN S := fun hk h0 => (hT.1.t1 _ (by rw [hk]; exact h0)).1
  refine l_of (st_gRe (v := some 22) (by rw [rS4]; exact k4.1 12 22 rfl)) (l_of st_nO ?_)
  have f5 : ∀ k, k < sN S → sI (nO S4 14) k = sI S4 k ∧ sR (nO S4 14) k = sR S k ∧ sL (nO S4 14) k = sL S k := fun k hk => by
    obtain ⟨a1, a2, a3⟩ := nO_f S4 14 (k := k) (by omega)
    exact ⟨a1, a2.trans (by rw [rS4]), a3.trans (by rw [lS4])⟩
  refine l_of (st_gIe (v := sI m 57 0) (by rw [(f5 4 n4).1, oS4 0 t4 (by decide)]; exact h.NW.1)) (l_pd p_grI (fun S6 eS6 => ?_))
  have eS6 : S6 = _ := eS6
  have N6 : sN S6 = sN S + 1 := by
    rw [eS6]
    show sN S4 + 1 = _
    rw [NS4]
  rw [NS4] at eS6 ⊢
  have z4 : sI (nO S4 14) (sN S) = (fun _ => 0) := by
    have := (nO_0 S4 14).1
    rw [NS4] at this
    exact this
  have f6 : ∀ k, k < sN S → (∀ j, sI S6 k j = sI S4 k j) ∧ (∀ j, sR S6 k j = sR S k j) ∧ sL S6 k = sL S k := fun k hk => by
    obtain ⟨a1, a2, a3⟩ := f5 k hk
    rw [eS6]
    refine ⟨fun j => ?_, fun j => ?_, a3⟩
    · rw [ti_sI_ne (by omega), ti_sI_ne (by omega), ti_sI_ne (by omega), ti_sI_ne (by omega)]
      show sI (wI (wI (nO S4 14) (sN S) 5 (-1)) (sN S) 9 (-1)) k j = _
      rw [ti_sI_ne (by omega), ti_sI_ne (by omega), a1]
    · rw [sR_wI, sR_wI, sR_wI, sR_wI, ti_sR_ne (by omega), sR_wI, sR_wI, a2]
  have zz : ∀ j, j ≠ 1 → j ≠ 2 → j ≠ 3 → j ≠ 4 → sI S6 (sN S) j = sI (wI (wI (nO S4 14) (sN S) 5 (-1)) (sN S) 9 (-1)) (sN S) j := fun j q1 q2 q3 q4 => by
    rw [eS6, ti_sI_ne (by omega), ti_sI_ne (by omega), ti_sI_ne (by omega), ti_sI_ne (by omega)]
    rfl
  have g6 : (sI S6 (sN S) 1 = Int32.ofNat c ∧ sI S6 (sN S) 2 = Int32.ofNat v ∧ sI S6 (sN S) 3 = sc ∧ sI S6 (sN S) 4 = sI m 57 0 ∧ sI S6 (sN S) 5 = -1) ∧ (sI S6 (sN S) 6 = 0 ∧ sI S6 (sN S) 7 = 0 ∧ sI S6 (sN S) 10 = 0 ∧ sI S6 (sN S) 11 = 0) ∧ sR S6 (sN S) 0 = some (lel S 19 s) := by
    refine ⟨⟨?_, ?_, ?_, ?_, ?_⟩, ⟨?_, ?_, ?_, ?_⟩, ?_⟩
    · rw [eS6, ti_sI_ne (by omega), ti_sI_ne (by omega), ti_sI_ne (by omega), ti_sI_eq]
    · rw [eS6, ti_sI_ne (by omega), ti_sI_ne (by omega), ti_sI_eq]
    · rw [eS6, ti_sI_ne (by omega), ti_sI_eq]
    · rw [eS6, ti_sI_eq]
    · rw [zz 5 (by omega) (by omega) (by omega) (by omega), ti_sI_ne (by omega), ti_sI_eq]
    · rw [zz 6 (by omega) (by omega) (by omega) (by omega), ti_sI_ne (by omega), ti_sI_ne (by omega), z4]
    · rw [zz 7 (by omega) (by omega) (by omega) (by omega), ti_sI_ne (by omega), ti_sI_ne (by omega), z4]
    · rw [zz 10 (by omega) (by omega) (by omega) (by omega), ti_sI_ne (by omega), ti_sI_ne (by omega), z4]
    · rw [zz 11 (by omega) (by omega) (by omega) (by omega), ti_sI_ne (by omega), ti_sI_ne (by omega), z4]
    · rw [eS6, sR_wI, sR_wI, sR_wI, sR_wI, ti_sR_eq]
  refine l_of st_rv (l_p2 (p_add (S := S6) (l := 22) (d := d) (x := sN S) (n := nC m) (by rw [(f6 22 d3).2.1]; exact d1) (by rw [(f6 22 d3).1, oS4 2 t22 (by decide)]; exact s22) (by omega) (by rw [(f6 d d4).2.2]; exact d2) (by omega) (by omega) d5) (fun w S8 p => ?_))
  obtain ⟨p1, p2, p3, p4, p5⟩ := p
  have p2 : sI S8 22 2 = Int32.ofNat (nC m + 1) := p2
  have fI : ∀ k j, k < sN S → ¬ (k = 22 ∧ (j = 0 ∨ j = 2)) → sI S8 k j = sI S4 k j := fun k j hk q => (p1 k j (by omega) q).trans ((f6 k hk).1 j)
  have fR : ∀ k j, k < sN S → ¬ (k = 22 ∧ j = 1) → ¬ (k = d ∧ j = nC m) → sR S8 k j = sR S k j := fun k j hk q1 q2 => (p3 k j (by omega) q1 q2).trans ((f6 k hk).2.1 j)
  have r8 : sR S8 4 12 = some 22 := (fR 4 12 n4 (by omega) (by omega)).trans (k4.1 12 22 rfl)
  have elo : ∀ k, k < nC m → lel S8 22 k = lel S 22 k := fun k hk => by
    unfold lel
    rw [p4 k hk, (f6 d d4).2.1, d1]
    rfl
  have eln : lel S8 22 (nC m) = sN S := by
    unfold lel
    rw [p5]
    rfl
  refine l_of (st_gRe r8) (l_of st_rv (l_of st_size ?_))
  rw [p2, show Int32.ofNat (nC m + 1) - 1 = Int32.ofNat (nC m) by rw [← o1]; exact Int32.add_sub_cancel _ _]
  have on : (Int32.ofNat (nC m)).toNatClampNeg = nC m := oc (by omega)
  -- the reference writes its row
  refine m_of (st_gRe (hm6 40 93 rfl)) (m_of (st_gIe m39) (m_of (st_bIe on) ?_))
  refine m_of (st_gRe (v := some 94) (hm6 41 94 rfl)) (m_of (st_gIe (v := Int32.ofNat (nC m)) ((ti_sI_ne (by omega)).trans m39)) (m_of (st_bIe on) ?_))
  refine m_of (st_gRe (v := some 95) (hm6 42 95 rfl)) (m_of (st_gIe (v := Int32.ofNat (nC m)) ((ti_sI_ne (by omega)).trans ((ti_sI_ne (by omega)).trans m39))) (m_of (st_bIe on) ?_))
  refine m_of (st_gRe (v := some 96) (hm6 43 96 rfl)) (m_of (st_gIe (v := Int32.ofNat (nC m)) ((ti_sI_ne (by omega)).trans ((ti_sI_ne (by omega)).trans ((ti_sI_ne (by omega)).trans m39)))) (m_of (st_bIe on) ?_))
  refine m_of (st_gRe (v := some 97) (hm6 44 97 rfl)) (m_of (st_gIe (v := Int32.ofNat (nC m)) ((ti_sI_ne (by omega)).trans ((ti_sI_ne (by omega)).trans ((ti_sI_ne (by omega)).trans ((ti_sI_ne (by omega)).trans m39))))) (m_of (st_gIe (v := sI m 57 0) ((ti_sI_ne (by omega)).trans ((ti_sI_ne (by omega)).trans ((ti_sI_ne (by omega)).trans ((ti_sI_ne (by omega)).trans (om6 (by omega) (by omega))))))) (m_of (st_bIe on) ?_)))
  refine m_of (st_gRe (v := some 98) (hm6 45 98 rfl)) (m_of (st_gIe (v := Int32.ofNat (nC m)) ((ti_sI_ne (by omega)).trans ((ti_sI_ne (by omega)).trans ((ti_sI_ne (by omega)).trans ((ti_sI_ne (by omega)).trans ((ti_sI_ne (by omega)).trans m39)))))) (m_of (st_bIe on) ?_))
  refine m_of (st_gIe (v := Int32.ofNat (nC m)) ((ti_sI_ne (by omega)).trans ((ti_sI_ne (by omega)).trans ((ti_sI_ne (by omega)).trans ((ti_sI_ne (by omega)).trans ((ti_sI_ne (by omega)).trans ((ti_sI_ne (by omega)).trans m39))))))) (m_of st_pI (m_of (st_gIe (ti_sI_eq _ _ _ _)) ?_))
  rw [show Int32.ofNat (nC m) + 1 - 1 = Int32.ofNat (nC m) from Int32.add_sub_cancel _ _, o1]
  obtain ⟨M, eM⟩ : ∃ M, M = wI (wI (wI (wI (wI (wI (wI m6 93 (nC m) (Int32.ofNat s)) 94 (nC m) (Int32.ofNat c)) 95 (nC m) (Int32.ofNat v)) 96 (nC m) sc) 97 (nC m) (sI m 57 0)) 98 (nC m) (-1)) 57 39 (Int32.ofNat (nC m + 1)) := ⟨_, rfl⟩
  rw [← eM]
  have oM : ∀ {p j : Nat}, ¬ (p = 57 ∧ j = 39) → ¬ ((p = 93 ∨ p = 94 ∨ p = 95 ∨ p = 96 ∨ p = 97 ∨ p = 98) ∧ j = nC m) → sI M p j = sI m6 p j := fun q1 q2 => by
    rw [eM, ti_sI_ne (by omega), ti_sI_ne (by omega), ti_sI_ne (by omega), ti_sI_ne (by omega), ti_sI_ne (by omega), ti_sI_ne (by omega), ti_sI_ne (by omega)]
  have M39 : sI M 57 39 = Int32.ofNat (nC m + 1) := by rw [eM, ti_sI_eq]
  have M93 : sI M 93 (nC m) = Int32.ofNat s := by rw [eM, ti_sI_ne (by omega), ti_sI_ne (by omega), ti_sI_ne (by omega), ti_sI_ne (by omega), ti_sI_ne (by omega), ti_sI_ne (by omega), ti_sI_eq]
  have M94 : sI M 94 (nC m) = Int32.ofNat c := by rw [eM, ti_sI_ne (by omega), ti_sI_ne (by omega), ti_sI_ne (by omega), ti_sI_ne (by omega), ti_sI_ne (by omega), ti_sI_eq]
  have M95 : sI M 95 (nC m) = Int32.ofNat v := by rw [eM, ti_sI_ne (by omega), ti_sI_ne (by omega), ti_sI_ne (by omega), ti_sI_ne (by omega), ti_sI_eq]
  have M96 : sI M 96 (nC m) = sc := by rw [eM, ti_sI_ne (by omega), ti_sI_ne (by omega), ti_sI_ne (by omega), ti_sI_eq]
  have M97 : sI M 97 (nC m) = sI m 57 0 := by rw [eM, ti_sI_ne (by omega), ti_sI_ne (by omega), ti_sI_eq]
  have M98 : sI M 98 (nC m) = -1 := by rw [eM, ti_sI_ne (by omega), ti_sI_eq]
  have enC : nC M = nC m + 1 := by
    unfold nC at M39 ⊢
    rw [M39]
    exact nn_o (by unfold nC at n59; omega)
  have enS : nS M = nS m := by
    unfold nS
    rw [oM (by omega) (by omega), om6 (by omega) (by omega)]
  have enF : nF M = nF m := by
    unfold nF
    rw [oM (by omega) (by omega), om6 (by omega) (by omega)]
  have enC6 : nC m6 = nC m := by
    unfold nC
    rw [om6 (by omega) (by omega)]
  have enS6 : nS m6 = nS m := by
    unfold nS
    rw [om6 (by omega) (by omega)]
  have enF6 : nF m6 = nF m := by
    unfold nF
    rw [om6 (by omega) (by omega)]
  have el4 : ∀ l k, lel S4 l k = lel S l k := fun l k => by
    unfold lel
    rw [rS4]
  have lelS : ∀ q, q < nS m → lel S8 19 q = lel S 19 q := fun q hq => lel_othG hT.1 (q := 2) (q0 := 3) (by decide) (by decide) (by decide) d6 fR (SZ_lt (zS b) (by decide) hq)
  have lelF : ∀ q, q < nF m → lel S8 23 q = lel S 23 q := fun q hq => lel_othG hT.1 (q := 4) (q0 := 3) (by decide) (by decide) (by decide) d6 fR (SZ_lt (zF b) (by decide) hq)
  have oI : ∀ {k τ : Nat} (j : Nat), T k = τ → τ ≠ 0 → τ ≠ 23 → sI S8 k j = sI S4 k j := fun j hk h0 h1 => fI _ j (lt hk h0) (fun q => h1 (by rw [← hk, q.1, t22]))
  have gN : ∀ j, sI S8 (sN S) j = sI S6 (sN S) j := fun j => p1 (sN S) j (by omega) (by omega)
  have gR' : sR S8 (sN S) 0 = some (lel S 19 s) := (p3 (sN S) 0 (by omega) (by omega) (by omega)).trans g6.2.2
  have tc : ∀ k, k < nC m → T (lel S 22 k) = 44 := fun k hk => tyC b hk
  obtain ⟨pU, ⟨pC0, pC⟩, pFr, ⟨pF0, pF⟩⟩ := pu
  refine h2_ret ⟨AN_v ((oM (by omega) (by omega)).trans m82), fun q hq => ?_, ⟨⟨?_, ?_, ?_⟩, fun k hk => ?_⟩, fun k hk h98 => ?_, ⟨⟨?_, ?_, ?_⟩, fun f hf => ?_⟩⟩
  · rw [enS] at hq
    rw [lelS q hq, oI 5 (tyS b hq) (by decide) (by decide), oM (by omega) (by omega)]
    have := pU q (by rw [enS6]; exact hq)
    rw [el4] at this
    exact this
  · show nn (sI M 57 39) ≤ 60
    rw [M39, nn_o (by omega)]
    omega
  · show sI M 57 39 = Int32.ofNat (nn (sI M 57 39))
    rw [M39, nn_o (by omega)]
  · rw [M39]
    exact p2
  · rw [enC] at hk
    rw [enC, enS, enF]
    by_cases q : k = nC m
    · subst q
      rw [eln]
      refine ⟨fun x hx e => ?_, ⟨s, s1, by rw [lelS s s1]; exact gR', M93⟩, ⟨c, c4, by rw [gN]; exact g6.1.1, M94⟩, ⟨v, v4, by rw [gN]; exact g6.1.2.1, M95⟩, ?_, ?_, ?_, Or.inl M98⟩
      · by_cases z : x = nC m
        · exact z
        · rw [elo x (by omega)] at e
          have := lt (tc x (by omega)) (by decide)
          omega
      · rw [gN, g6.1.2.2.1, M96]
      · rw [gN, g6.1.2.2.2.1, M97]
      · rw [gN, g6.1.2.2.2.2, M98]
    · have hk : k < nC m := by omega
      have tk := tc k hk
      have ltk := lt tk (by decide)
      obtain ⟨w1, ⟨s', w2, w3, w4⟩, ⟨x, x1, x2, x3⟩, ⟨y, y1, y2, y3⟩, w5, w6, w7, w8⟩ := pC k (by rw [enC6]; exact hk)
      rw [el4] at w3 x2 y2 w5 w6 w7
      rw [enS6] at w2
      rw [enF6] at w8
      have mo : ∀ q, (q = 93 ∨ q = 94 ∨ q = 95 ∨ q = 96 ∨ q = 97 ∨ q = 98) → sI M q k = sI m6 q k := fun q hq => oM (by omega) (by omega)
      rw [elo k hk, mo 93 (by omega), mo 94 (by omega), mo 95 (by omega), mo 96 (by omega), mo 97 (by omega), mo 98 (by omega), oI 1 tk (by decide) (by decide), oI 2 tk (by decide) (by decide), oI 3 tk (by decide) (by decide), oI 4 tk (by decide) (by decide), oI 5 tk (by decide) (by decide)]
      refine ⟨fun z hz e => ?_, ⟨s', w2, ?_, w4⟩, ⟨x, x1, x2, x3⟩, ⟨y, y1, y2, y3⟩, w5, w6, w7, w8⟩
      · by_cases q2 : z = nC m
        · rw [q2, eln] at e
          omega
        · rw [elo z (by omega)] at e
          exact w1 z (by rw [enC6]; omega) (by rw [el4, el4]; exact e)
      · have dk := d6 _ (by rw [tk]; decide) (by rw [tk]; decide) (by rw [tk]; decide)
        rw [fR _ 0 ltk (by omega) (by omega), lelS s' w2]
        rw [rS4, el4] at w3
        exact w3
  · rw [enC] at hk
    by_cases q : k = nC m
    · subst q
      rw [eln, gN, gN, gN, gN]
      exact g6.2.1
    · have hk : k < nC m := by omega
      have tk := tc k hk
      rw [elo k hk, oI 6 tk (by decide) (by decide), oI 7 tk (by decide) (by decide), oI 10 tk (by decide) (by decide), oI 11 tk (by decide) (by decide)]
      rw [oM (by omega) (by omega)] at h98
      have := pFr k (by rw [enC6]; exact hk) h98
      rw [el4] at this
      exact this
  · rw [oM (by omega) (by omega)]
    exact pF0.1
  · rw [oM (by omega) (by omega)]
    exact pF0.2.1
  · rw [oM (by omega) (by omega), oI 2 (show T 23 = 24 from (hT.1.t6 4 (by decide)).1) (by decide) (by decide)]
    exact pF0.2.2
  · rw [enF] at hf
    obtain ⟨x, x1, x2, x3, x4, x5⟩ := pF f (by rw [enF6]; exact hf)
    rw [enC6] at x1 x5
    rw [el4, el4] at x2
    refine ⟨x, by rw [enC]; omega, ?_, (oM (by omega) (by omega)).trans x3, (oM (by omega) (by omega)).trans x4, fun y hy e => ?_⟩
    · rw [lelF f hf, elo x x1]
      exact x2
    · rw [enC] at hy
      by_cases z : y = nC m
      · rw [z, M98] at e
        have nF60 : nF m ≤ 60 := (zF b).1
        exact absurd e (ofNat_ne (by omega))
      · exact x5 y (by omega) ((oM (by omega) (by omega)).symm.trans e)
end
end
section
section
variable {T Tm : Nat → Nat} {S m : AS}
theorem au_go (hT : TV T S) (hm : TI Tm m) (h : FR S m) {s c v : Nat} {sc : Int32} (s1 : s < nS m) (c4 : c < 4) (v4 : v < 4) (n59 : nC m < 60) :
    H2 (f_K_authorize_B55 S (some 4) (Int32.ofNat c) (Int32.ofNat v) sc (some (lel S 19 s)) (some (53 + v)) 1) (f_M_authorize_B68 m (some 57) (Int32.ofNat s) (Int32.ofNat c) (Int32.ofNat v) sc (some 57) 1 1 1) (fun x y => AN [eX, eA, eS] x.1 y.1 (sI y.2 57 82) ∧ P_auth x.2 y.2) := by
  have b := FR_BB hT hm h
  have k4 := K4F_of hT.1
  have hmf0 := MF_of (TI_t hm 0)
  have pu := used_P hT hm h s1
  have ts := tyS b s1
  have s60 : s < 60 := by
    have := (zS b).1
    unfold nS at s1
    omega
  obtain ⟨n0, n1, n2⟩ := h.NW
  obtain ⟨-, ⟨p, p6, q1, q2⟩, -⟩ := h.Ses.2 s s1
  obtain ⟨t4, -, -, -, -, -, -, t20, -⟩ := kt4 hT.1
  obtain ⟨-, -, -, t32⟩ := kt_P hT.1 h.PF p6
  have t53 := kt_S hT.1 h.PF v4
  obtain ⟨x, x1, x2, x3, x4⟩ := tyM (j := 3) hT.1 ts rfl
  unfold f_K_authorize_B55 f_M_authorize_B68
  refine l_of (st_bx (rS1 S)) (l_of (st_gIe n0) (l_of st_pI ?_))
  refine m_of st_rv (m_p2 p_mayA (fun w m' e => ?_))
  cases e
  refine m_of (st_F one0) (m_of (st_gRe (hmf0 33 87 rfl)) (m_of (st_gIe (v := sI m 57 0) (lv0 m (by omega) 0)) (m_of (st_bIe (oc (by omega))) ?_)))
  obtain ⟨S4, e4⟩ : ∃ S4, S4 = wI S (lel S 19 s) 5 (sI m 57 0) := ⟨_, rfl⟩
  obtain ⟨m6, e6⟩ : ∃ m6, m6 = wI (wI m 57 82 0) 87 s (sI m 57 0) := ⟨_, rfl⟩
  show H2 _ ((gR (wI (wI m 57 82 0) 87 s (sI m 57 0)) 23 37 (some 57)).bind _) _
  rw [← e4, ← e6]
  rw [← e4, ← e6] at pu
  have rS4 : sR S4 = sR S := by rw [e4, sR_wI]
  have lS4 : sL S4 = sL S := by rw [e4]; rfl
  have rm6 : sR m6 = sR m := by rw [e6, sR_wI, sR_wI]
  have oS4 : ∀ {k τ : Nat} (j : Nat), T k = τ → τ ≠ 43 → sI S4 k j = sI S k j := fun j hk ht => by
    rw [e4]
    exact ti_sI_ne (fun q => by
      rw [q.1, ts] at hk
      exact ht hk.symm)
  have om6 : ∀ {p j : Nat}, ¬ (p = 57 ∧ j = 82) → ¬ (p = 87 ∧ j = s) → sI m6 p j = sI m p j := fun a1 a2 => by
    rw [e6]
    exact (ti_sI_ne a2).trans (lv0 m a1 0)
  have m82 : sI m6 57 82 = 0 := by rw [e6, ti_sI_ne (by omega), ti_sI_eq]
  have hm6 : MF m6 := MF_e (MF_of hm) rm6
  obtain ⟨cp, c20⟩ := h.Con c c4
  refine l_of (st_gRe (v := some (29 + 4 * p)) (by rw [rS4]; exact q1)) (l_of st_rv (l_p2 (p_cons b p6 c4 rS4 lS4 (oS4 c t20 (by decide)) (oS4 c t32 (by decide))) (fun w S7 e => ?_)))
  cases e
  refine m_of (st_gRe (hm6 37 91 rfl)) (m_of (st_gRe (hm6 31 85 rfl)) (m_of (st_aIe (v := Int32.ofNat p) (oc (by omega)) ((om6 (by omega) (by omega)).trans q2)) (m_of (st_aIe (v := sI m 91 (4 * p + c)) (ix4 p (by omega) c c4) (om6 (by omega) (by omega))) (m_of (st_gRe (hm6 37 91 rfl)) (m_of (st_aIe (v := sI m 91 (24 + c)) (ix24 c c4) (om6 (by omega) (by omega))) (m_of st_val ?_))))))
  rw [c20, cp p p6, Int32.or_comm (sI m 91 (24 + c))]
  by_cases d1 : (sc &&& ((sI m 91 (4 * p + c) ||| sI m 91 (24 + c)) ^^^ (-1 : Int32))) = 0
  · refine l_of (st_T d1) (m_of (st_T d1) (l_of (st_gIe (v := sI m 57 0) ((oS4 0 t4 (by decide)).trans n0)) (l_of st_rv (m_of st_rv ?_))))
    refine h2_22 (h_levelAt3 h (S' := S4) (m' := m6) rS4 ⟨(oS4 0 hT.2 (by decide)).trans h.Wgt.1, (oS4 1 hT.2 (by decide)).trans h.Wgt.2.1, (oS4 2 hT.2 (by decide)).trans h.Wgt.2.2⟩ hm6 s1 (fun f hf => by rw [oS4 f x4 (by decide), om6 (by omega) (by omega)]; exact h.Ssh s s1 f hf) (om6 (by omega) (by omega))) (fun w S11 u m15 q => ?_)
    obtain ⟨y, y8, e1, e2⟩ := q
    cases e1
    cases e2
    refine l_of (st_gIe (v := sI m 92 v) ((oS4 0 t53 (by decide)).trans (h.Ned v v4))) (m_of (st_gRe (hm6 38 92 rfl)) (m_of (st_aIe (v := sI m 92 v) (oc (by omega)) (om6 (by omega) (by omega))) ?_))
    by_cases d2 : sI m 92 v ≤ lv8 y
    · exact l_of (st_T d2) (m_of (st_T d2) (au_new hT hm h s1 c4 v4 n59 e4 e6))
    · exact l_of (st_F d2) (m_of (st_F d2) (h2_ret ⟨AN_v m82, pu⟩))
  · exact l_of (st_F d1) (m_of (st_F d1) (h2_ret ⟨AN_v m82, pu⟩))
theorem h_authorize (hT : TV T S) (hm : TI Tm m) (h : FR S m) (a c v sc : Int32) : H2 (f_K_authorize S (some 4) a c v sc) (f_M_authorize m (some 57) a c v sc) (fun x y => AN [eX, eA, eS] x.1 y.1 (sI y.2 57 82) ∧ P_auth x.2 y.2) := by
  have b := FR_BB hT hm h
  have hmf := MF_of hm
  have k4 := K4F_of hT.1
  have no1 : H2 (some ((Sum.inr eX : Int32 ⊕ String), wX S)) (f_M_authorize_B27 m (some 57) a c v sc 0) (fun x y => AN [eX, eA, eS] x.1 y.1 (sI y.2 57 82) ∧ P_auth x.2 y.2) := by
    unfold f_M_authorize_B27 f_M_authorize_B67 f_M_authorize_B68
    refine m_of (st_b2 (q_isIn m sc 1 15)) (m_of (st_T rfl) (m_of st_rv (m_p2 p_mayA (fun w m' e => ?_))))
    rw [if_pos rfl] at e
    cases e
    exact m_of (st_T rfl) (h2_ret ⟨AN_e 0 rfl (ti_sI_eq _ _ _ _), FR_auth (FR_X hT (TI_t hm 1) (FR_t hT hm h 1))⟩)
  have no2 : ∀ y3, H2 (some ((Sum.inr eA : Int32 ⊕ String), wX S)) (f_M_authorize_B68 m (some 57) a c v sc (some 57) 1 0 y3) (fun x y => AN [eX, eA, eS] x.1 y.1 (sI y.2 57 82) ∧ P_auth x.2 y.2) := fun y3 => by
    unfold f_M_authorize_B68
    refine m_of st_rv (m_p2 p_mayA (fun w m' e => ?_))
    rw [if_neg one0, if_pos rfl] at e
    cases e
    exact m_of (st_T rfl) (h2_ret ⟨AN_e 1 rfl (ti_sI_eq _ _ _ _), FR_auth (FR_X hT (TI_t hm 2) (FR_t hT hm h 2))⟩)
  have no3 : H2 (some ((Sum.inr eS : Int32 ⊕ String), wX S)) (f_M_authorize_B67 m (some 57) a c v sc (some 57) 1 1) (fun x y => AN [eX, eA, eS] x.1 y.1 (sI y.2 57 82) ∧ P_auth x.2 y.2) := by
    unfold f_M_authorize_B67 f_M_authorize_B68
    refine m_of st_rv (m_p2 p_mayA (fun w m' e => ?_))
    rw [if_neg one0, if_neg one0, if_pos rfl] at e
    cases e
    exact m_of (st_T rfl) (h2_ret ⟨AN_e 2 rfl (ti_sI_eq _ _ _ _), FR_auth (FR_X hT (TI_t hm 3) (FR_t hT hm h 3))⟩)
  have k54 : ∀ x y, Le (f_K_authorize_B54 S (some 4) c v sc x y) (some ((Sum.inr eS : Int32 ⊕ String), wX S)) := fun x y q hq => by
    unfold f_K_authorize_B54 f_K_authorize_B55 at hq
    exact st_bxe (rS0 S) q hq
  unfold f_K_authorize f_M_authorize f_M_authorize_B26
  refine l_of st_rv (m_of st_rv (m_p2 (x_MS b a) (fun w S2 p => ?_)))
  refine l_bx (fun v' S' e => ?_) (fun v' S' e => ?_)
  · rcases x_fS b a _ e with ⟨s, s1, ea, e2⟩ | ⟨no, e2⟩
    · cases e2
      rcases p with ⟨-, p2⟩ | ⟨p1, -⟩
      · cases p2
        refine m_of (st_F one0) (m_of (st_b2 (q_ser m c)) (l_bx (fun v' S' e => ?_) (fun v' S' e => ?_)))
        · rcases p_rI _ e with ⟨h1, h2, e2⟩ | ⟨-, e2⟩
          · cases e2
            obtain ⟨cc, c4, ec⟩ := (IX_iff (n := 4) (a := c) (by decide)).mpr ⟨h1, h2⟩
            rw [if_pos ((fou_iff _).mpr ⟨cc, c4, ec⟩)]
            refine m_of (st_F one0) (m_of (st_b2 (q_ser m v)) (l_of st_rv (l_bx (fun v' S' e => ?_) (fun v' S' e => ?_))))
            · rcases x_fV b v _ e with ⟨vv, v4, ev, e2⟩ | ⟨-, e2⟩
              · cases e2
                rw [if_pos ((fou_iff _).mpr ⟨vv, v4, ev⟩)]
                refine m_of (st_F one0) ?_
                unfold f_M_authorize_B27
                have ai : a.toNatClampNeg = s := by
                  rw [ea]
                  have := (zS b).1
                  unfold nS at s1
                  exact oc (by omega)
                have l1 := (h.Liv.1 s s1).1
                have zC' := zC b
                have n60 : nC m ≤ 60 := zC'.1
                refine l_of (st_b2 (q_win S sc 1 15)) (m_of (st_b2 (q_isIn m sc 1 15)) (m_of (st_F one0) (m_of (st_gRe (hmf 35 89 rfl)) (m_of (st_aIe (v := sI m 89 s) ai rfl) ?_))))
                by_cases cs : 1 ≤ sc ∧ sc ≤ 15
                · rw [if_pos cs]
                  refine l_of (st_bx (rA1 S)) (l_of (st_gIe l1) ?_)
                  by_cases c1 : sI m 89 s = 0
                  · exact l_of (st_T c1) (m_of (st_T c1) (l_of (k54 _ _) no3))
                  · refine l_of (st_F c1) (m_of (st_F c1) (l_of (st_gRe (k4.1 12 22 rfl)) (l_of st_rv (l_of st_size ?_))))
                    rw [zC'.2.2, show sI m 57 39 = Int32.ofNat (nC m) from zC'.2.1]
                    refine m_of (st_gIe (v := Int32.ofNat (nC m)) zC'.2.1) ?_
                    by_cases c2 : (60 : Int32) ≤ Int32.ofNat (nC m)
                    · exact l_of (st_T c2) (m_of (st_T c2) (l_of (k54 _ _) no3))
                    · refine l_of (st_F c2) (m_of (st_F c2) ?_)
                      rw [ea, ec, ev]
                      exact au_go hT hm h s1 c4 v4 (Nat.not_le.mp (fun q => c2 ((ole (a := 60) (by decide) (by omega)).mpr q)))
                · rw [if_neg cs]
                  refine l_of (st_bxe (rA0 S)) ?_
                  unfold f_M_authorize_B67
                  exact m_if (fun _ => no2 0) (fun _ => m_of st_gI (m_if (fun _ => no2 0) (fun _ => no2 1)))
              · cases e2
            · rcases x_fV b v _ e with ⟨vv, v4, ev, e2⟩ | ⟨no', e2⟩
              · cases e2
              · cases e2
                rw [if_neg (fun q => no' ((fou_iff _).mp q))]
                exact m_of (st_T rfl) no1
          · cases e2
        · rcases p_rI _ e with ⟨h1, h2, e2⟩ | ⟨h1, e2⟩
          · cases e2
          · cases e2
            rw [if_neg (show ¬ (0 ≤ c ∧ c ≤ 3) from fun q => h1 ((IX_iff (n := 4) (by decide)).mp ((fou_iff _).mp q)))]
            exact m_of (st_T rfl) no1
      · exact absurd ⟨s, s1, ea⟩ p1
    · cases e2
  · rcases x_fS b a _ e with ⟨s, s1, ea, e2⟩ | ⟨no, e2⟩
    · cases e2
    · cases e2
      rcases p with ⟨p1, -⟩ | ⟨-, p2⟩
      · exact absurd p1 no
      · cases p2
        exact m_of (st_T rfl) no1
end
end
section
/-! ===== the full relation at the start ===== -/
theorem z_FR : FR kr_Z kr_Z := by
  have hV : nV kr_Z = 0 := by decide +kernel
  have hA : uA kr_Z = 0 := by decide +kernel
  have hS : nS kr_Z = 0 := by decide +kernel
  have hC : nC kr_Z = 0 := by decide +kernel
  have hF : nF kr_Z = 0 := by decide +kernel
  have hT : nT kr_Z = 0 := by decide +kernel
  have hR : nR kr_Z = 0 := by decide +kernel
  have no : ∀ {k n : Nat} {P : Prop}, n = 0 → k < n → P := fun h q => by omega
  have sz : ∀ {l j b : Nat}, (nn (sI kr_Z 57 j) ≤ b ∧ sI kr_Z 57 j = Int32.ofNat (nn (sI kr_Z 57 j)) ∧ sI kr_Z l 2 = sI kr_Z 57 j) → SZ l j b kr_Z kr_Z := fun h => h
  refine ⟨?_, z_PF, ?_, ?_, ?_, ?_, ?_, ?_, ?_, ?_, ?_, ⟨sz (by decide +kernel), fun v hv => no hV hv⟩, ?_, ⟨sz (by decide +kernel), fun v hv => no hA hv⟩, ⟨fun a _ ha => ?_, fun v hv => no hA hv⟩, fun v hv => no hA hv, ⟨sz (by decide +kernel), fun v hv => no hS hv⟩, fun v hv => no hS hv, ⟨fun v hv => no hS hv, ?_⟩, fun v hv => no hS hv, ⟨fun a b ha => no hA ha, fun a b ha => no hS ha, fun a b ha => no hA ha⟩, ⟨sz (by decide +kernel), fun v hv => no hC hv⟩, fun v hv => no hC hv, ⟨sz (by decide +kernel), fun v hv => no hF hv⟩, fun v hv => no hF hv, ⟨fun x _ hx v hv => ?_, fun v hv => no hF hv⟩, ⟨sz (by decide +kernel), fun v hv => no hT hv⟩, fun v hv => no hF hv, ?_, ?_, ?_, ?_, ⟨sz (by decide +kernel), fun r _ hr => ?_, fun v hv => no hR hv⟩, ?_⟩
  · unfold cNW
    decide +kernel
  · unfold cWgt
    decide +kernel
  · unfold cFac
    decide +kernel
  · unfold cWrg WR
    decide +kernel
  · unfold cKn
    decide +kernel
  · unfold cCon
    decide +kernel
  · unfold cHlp
    decide +kernel
  · unfold cAwy
    decide +kernel
  · unfold cPts
    decide +kernel
  · unfold cLnk
    decide +kernel
  · intro k hk
    have e : (sI kr_Z 66 8).toInt = 0 := by decide +kernel
    rw [e] at hk
    omega
  · have z : ∀ a, a < 60 → sI kr_Z 82 a = 0 := by decide +kernel
    exact z a ha
  · rw [hS]
    decide +kernel
  · have z : ∀ x, x < 60 → ∀ v, v < 4 → sI kr_Z 116 (60 * v + x) = 0 := by decide +kernel
    exact z x hx v hv
  · unfold cSrv
    decide +kernel
  · unfold cNed
    decide +kernel
  · unfold cChe
    decide +kernel
  · have e : (sI kr_Z 57 0).toInt = 0 := by decide +kernel
    unfold cKey
    rw [e]
    exact z_KY
  · have z : ∀ r, r < 20 → sI kr_Z 120 r = 0 ∧ sI kr_Z 121 r = 0 := by decide +kernel
    exact z r hr
  · have e1 : (sI kr_Z 57 77).toInt = 0 := by decide +kernel
    have e2 : (sI kr_Z 5 2).toInt = 0 := by decide +kernel
    unfold cAU AU
    rw [hS, e1, e2]
    refine ⟨by omega, by omega, by omega, fun _ => ⟨fun s _ => ⟨?_, fun q => absurd q (Nat.not_lt_zero _)⟩, fun s _ => ⟨?_, fun q => absurd q.1 (Nat.not_lt_zero _)⟩, fun s hs => absurd hs (Nat.not_lt_zero _)⟩⟩
    · rintro ⟨i, q, -⟩
      omega
    · rintro ⟨i, q, -⟩
      omega
end
section
/-! ===== a token is made and put to the others ===== -/
theorem p_tkI {S1 : AS} {z : Nat} {g : Option Nat} {a b c d e f : Int32} : Hp (f_Token_init S1 (some z) g a b c d e f) (fun S' => S' = wI (wI (wI (wI (wI (wI (wR S1 z 0 g) z 1 a) z 2 b) z 3 c) z 4 d) z 5 e) z 6 f) := by
  unfold f_Token_init
  exact p_of st_val (p_of st_pR (p_of st_pI (p_of st_pI (p_of st_pI (p_of st_pI (p_of st_pI (p_of st_pI (p_ret rfl))))))))
/-- what a new token leaves in the class -/
def TKK (S S' : AS) (g d n to : Nat) (frm sc gen key un : Int32) : Prop :=
  (∀ k j, k < sN S → ¬ (k = 24 ∧ (j = 0 ∨ j = 2)) → ¬ (k = g ∧ (j = 9 ∨ j = 10)) → sI S' k j = sI S k j) ∧
  (∀ k j, k < sN S → ¬ (k = 24 ∧ j = 1) → ¬ (k = d ∧ j = n) → sR S' k j = sR S k j) ∧
  sI S' 24 2 = Int32.ofNat (n + 1) ∧ ((∀ i, i < n → lel S' 24 i = lel S 24 i) ∧ lel S' 24 n = sN S) ∧
  (sR S' (sN S) 0 = some g ∧ sI S' (sN S) 1 = frm ∧ sI S' (sN S) 2 = Int32.ofNat to ∧ sI S' (sN S) 3 = sc ∧ sI S' (sN S) 4 = gen ∧ sI S' (sN S) 5 = key ∧ sI S' (sN S) 6 = un) ∧
  sI S' g 9 = Int32.ofNat n ∧ sI S' g 10 = (sI S g 10 ||| ((1 : Int32) <<< (Int32.ofNat to &&& 31)))
theorem l_tok {S : AS} {g d n to : Nat} {frm sc gen key un : Int32} {α β : Type} {F : AS → Option α} {y : Option β} {Q : α → β → Prop} (k4 : sR S 4 14 = some 24) (hs : sI S 24 2 = Int32.ofNat n) (hr : sR S 24 1 = some d) (hn : n < 201) (hL : sL S d ≤ 400) (h4 : 4 < sN S) (h24 : 24 < sN S) (hd : d < sN S) (hd24 : d ≠ 24) (hd4 : d ≠ 4) (hg : g < sN S) (hg24 : g ≠ 24)
    (H : ∀ S', TKK S S' g d n to frm sc gen key un → H2 (F S') y Q) :
    H2 ((f_Token_init (nO S 21) (some (sN S)) (some g) frm (Int32.ofNat to) sc gen key un).bind fun S8 => (kr_rv S8 22 (some 4)).bind fun _ => (f_K_addToken S8 (some 4) (some (sN S))).bind F) y Q := by
  have f1 : ∀ k, k < sN S → sI (nO S 21) k = sI S k ∧ sR (nO S 21) k = sR S k ∧ sL (nO S 21) k = sL S k := fun k hk => nO_f S 21 (by omega)
  refine l_pd p_tkI (fun S8 e8 => l_of st_rv ?_)
  have e8 : S8 = _ := e8
  have N8 : sN S8 = sN S + 1 := by
    rw [e8]
    rfl
  have f8 : ∀ k, k < sN S → (∀ j, sI S8 k j = sI S k j) ∧ (∀ j, sR S8 k j = sR S k j) ∧ sL S8 k = sL S k := fun k hk => by
    obtain ⟨a1, a2, a3⟩ := f1 k hk
    rw [e8]
    refine ⟨fun j => ?_, fun j => ?_, a3⟩
    · rw [ti_sI_ne (by omega), ti_sI_ne (by omega), ti_sI_ne (by omega), ti_sI_ne (by omega), ti_sI_ne (by omega), ti_sI_ne (by omega)]
      show sI (nO S 21) k j = _
      rw [a1]
    · rw [sR_wI, sR_wI, sR_wI, sR_wI, sR_wI, sR_wI, ti_sR_ne (by omega), a2]
  have z8 : sR S8 (sN S) 0 = some g ∧ sI S8 (sN S) 1 = frm ∧ sI S8 (sN S) 2 = Int32.ofNat to ∧ sI S8 (sN S) 3 = sc ∧ sI S8 (sN S) 4 = gen ∧ sI S8 (sN S) 5 = key ∧ sI S8 (sN S) 6 = un := by
    rw [e8]
    refine ⟨?_, ?_, ?_, ?_, ?_, ?_, ti_sI_eq _ _ _ _⟩
    · rw [sR_wI, sR_wI, sR_wI, sR_wI, sR_wI, sR_wI, ti_sR_eq]
    · rw [ti_sI_ne (by omega), ti_sI_ne (by omega), ti_sI_ne (by omega), ti_sI_ne (by omega), ti_sI_ne (by omega), ti_sI_eq]
    · rw [ti_sI_ne (by omega), ti_sI_ne (by omega), ti_sI_ne (by omega), ti_sI_ne (by omega), ti_sI_eq]
    · rw [ti_sI_ne (by omega), ti_sI_ne (by omega), ti_sI_ne (by omega), ti_sI_eq]
    · rw [ti_sI_ne (by omega), ti_sI_ne (by omega), ti_sI_eq]
    · rw [ti_sI_ne (by omega), ti_sI_eq]
  refine l_pd (P := fun S' => TKK S S' g d n to frm sc gen key un) ?_ H
  unfold f_K_addToken
  refine p_of (st_gRe z8.1) (p_of (st_gRe (v := some 24) (((f8 4 h4).2.1 14).trans k4)) (p_of st_rv (p_of st_size ?_)))
  rw [(f8 24 h24).1 2, hs]
  refine p_of st_pI (p_of (st_gRe (v := some g) z8.1) (p_of (st_gIe (v := sI S g 10) ((ti_sI_ne (by omega)).trans ((f8 g hg).1 10))) (p_of (st_gIe (v := Int32.ofNat to) ((ti_sI_ne (by omega)).trans z8.2.2.1)) (p_of st_pI ?_))))
  obtain ⟨S10, e10⟩ : ∃ S10, S10 = wI (wI S8 g 9 (Int32.ofNat n)) g 10 (sI S g 10 ||| ((1 : Int32) <<< (Int32.ofNat to &&& 31))) := ⟨_, rfl⟩
  rw [← e10]
  have rr : sR S10 = sR S8 := by rw [e10, sR_wI, sR_wI]
  have N10 : sN S10 = sN S + 1 := by
    rw [e10]
    exact N8
  have L10 : sL S10 = sL S8 := by
    rw [e10]
    rfl
  have o10 : ∀ k j, ¬ (k = g ∧ (j = 9 ∨ j = 10)) → sI S10 k j = sI S8 k j := fun k j q => by
    rw [e10, ti_sI_ne (by omega), ti_sI_ne (by omega)]
  have g9 : sI S10 g 9 = Int32.ofNat n := by rw [e10, ti_sI_ne (by omega), ti_sI_eq]
  have g10 : sI S10 g 10 = (sI S g 10 ||| ((1 : Int32) <<< (Int32.ofNat to &&& 31))) := by rw [e10, ti_sI_eq]
  refine p_of (st_gRe (v := some 24) (by rw [rr]; exact ((f8 4 h4).2.1 14).trans k4)) (p_of st_rv (p_b2 (p_add (S := S10) (l := 24) (d := d) (x := sN S) (n := n) (by rw [rr, (f8 24 h24).2.1]; exact hr) (by rw [o10 24 2 (by omega), (f8 24 h24).1]; exact hs) hn (by rw [L10, (f8 d hd).2.2]; exact hL) (by omega) (by omega) hd24) (fun v S13 p => p_ret ?_)))
  obtain ⟨p1, p2, p3, p4, p5⟩ := p
  have zI : ∀ j, sI S13 (sN S) j = sI S8 (sN S) j := fun j => (p1 _ j (by omega) (by omega)).trans (o10 _ j (by omega))
  refine ⟨fun k j hk q1 q2 => ?_, fun k j hk q1 q2 => ?_, p2, ⟨fun i hi => ?_, ?_⟩, ⟨?_, ?_, ?_, ?_, ?_, ?_, ?_⟩, ?_, ?_⟩
  · exact (p1 k j (by omega) q1).trans ((o10 k j q2).trans ((f8 k hk).1 j))
  · exact (p3 k j (by omega) q1 q2).trans ((congrFun (congrFun rr k) j).trans ((f8 k hk).2.1 j))
  · have e : sR S13 ((sR S13 24 1).getD 0) i = sR S10 d i := p4 i hi
    unfold lel
    rw [e, rr, (f8 d hd).2.1, hr]
    rfl
  · have e : sR S13 ((sR S13 24 1).getD 0) n = some (sN S) := p5
    unfold lel
    rw [e]
    rfl
  · exact (p3 _ 0 (by omega) (by omega) (by omega)).trans ((congrFun (congrFun rr _) _).trans z8.1)
  · exact (zI 1).trans z8.2.1
  · exact (zI 2).trans z8.2.2.1
  · exact (zI 3).trans z8.2.2.2.1
  · exact (zI 4).trans z8.2.2.2.2.1
  · exact (zI 5).trans z8.2.2.2.2.2.1
  · exact (zI 6).trans z8.2.2.2.2.2.2
  · exact (p1 g 9 (by omega) (by omega)).trans g9
  · exact (p1 g 10 (by omega) (by omega)).trans g10
/-- and in the reference -/
def TKM (m m' : AS) (f n to : Nat) (frm sc gen un : Int32) : Prop :=
  (sR m' = sR m ∧ sL m' = sL m ∧ ∀ q j, ¬ ((q = 104 ∨ q = 105 ∨ q = 106 ∨ q = 107 ∨ q = 108 ∨ q = 109 ∨ q = 110) ∧ j = n) → ¬ (q = 102 ∧ j = f) → ¬ (q = 57 ∧ j = 52) → sI m' q j = sI m q j) ∧
  sI m' 108 n = Int32.ofNat f ∧ sI m' 104 n = frm ∧ sI m' 105 n = Int32.ofNat to ∧ sI m' 106 n = sc ∧ sI m' 107 n = gen ∧ sI m' 110 n = un ∧ sI m' 109 n = sI m 57 61 ∧ sI m' 102 f = Int32.ofNat n ∧ sI m' 57 52 = Int32.ofNat (n + 1)
theorem p_tokM {m : AS} {f n to : Nat} {frm sc gen un : Int32} (hmf : MF m) (hn : n < 200) (hf : f < 60) (h52 : sI m 57 52 = Int32.ofNat n) : Hp (f_M_newToken m (some 57) (Int32.ofNat f) frm (Int32.ofNat to) sc gen un) (fun q => q.1 = Int32.ofNat n ∧ TKM m q.2 f n to frm sc gen un) := by
  have on : (Int32.ofNat n).toNatClampNeg = n := oc (by omega)
  unfold f_M_newToken
  refine p_of (st_gIe h52) (p_of (st_gRe (hmf 57 108 rfl)) (p_of (st_bIe on) (p_of (st_gRe (v := some 104) (hmf 53 104 rfl)) (p_of (st_bIe on) (p_of (st_gRe (v := some 105) (hmf 54 105 rfl)) (p_of (st_bIe on) ?_))))))
  refine p_of (st_gRe (v := some 106) (hmf 55 106 rfl)) (p_of (st_bIe on) (p_of (st_gRe (v := some 107) (hmf 56 107 rfl)) (p_of (st_bIe on) (p_of (st_gRe (v := some 110) (hmf 59 110 rfl)) (p_of (st_bIe on) ?_)))))
  obtain ⟨m1, e1⟩ : ∃ m1, m1 = wI (wI (wI (wI (wI (wI m 108 n (Int32.ofNat f)) 104 n frm) 105 n (Int32.ofNat to)) 106 n sc) 107 n gen) 110 n un := ⟨_, rfl⟩
  rw [← e1]
  have r1 : sR m1 = sR m := by rw [e1]; rfl
  have l1 : sL m1 = sL m := by rw [e1]; rfl
  have o1' : ∀ q j, ¬ ((q = 104 ∨ q = 105 ∨ q = 106 ∨ q = 107 ∨ q = 108 ∨ q = 110) ∧ j = n) → sI m1 q j = sI m q j := fun q j z => by
    rw [e1, ti_sI_ne (by omega), ti_sI_ne (by omega), ti_sI_ne (by omega), ti_sI_ne (by omega), ti_sI_ne (by omega), ti_sI_ne (by omega)]
  have hm1 := MF_e hmf r1
  refine p_of (st_gRe (hm1 58 109 rfl)) (p_of (st_gIe (v := sI m 57 61) (o1' _ _ (by omega))) (p_of (st_bIe on) (p_of (st_gRe (v := some 102) (hm1 50 102 rfl)) (p_of (st_bIe (oc (by omega))) (p_of (st_gIe (v := Int32.ofNat n) ((ti_sI_ne (by omega)).trans ((ti_sI_ne (by omega)).trans ((o1' _ _ (by omega)).trans h52)))) (p_of st_pI (p_ret ⟨rfl, ?_⟩)))))))
  rw [o1]
  refine ⟨⟨r1, l1, fun q j z1 z2 z3 => ?_⟩, ?_, ?_, ?_, ?_, ?_, ?_, ?_, ?_, ti_sI_eq _ _ _ _⟩
  · show sI (wI (wI (wI m1 109 n (sI m 57 61)) 102 f (Int32.ofNat n)) 57 52 (Int32.ofNat (n + 1))) q j = _
    rw [ti_sI_ne z3, ti_sI_ne z2, ti_sI_ne (by omega), o1' q j (by omega)]
  all_goals show sI (wI (wI (wI m1 109 n (sI m 57 61)) 102 f (Int32.ofNat n)) 57 52 (Int32.ofNat (n + 1))) _ _ = _
  · rw [ti_sI_ne (by omega), ti_sI_ne (by omega), ti_sI_ne (by omega), e1, ti_sI_ne (by omega), ti_sI_ne (by omega), ti_sI_ne (by omega), ti_sI_ne (by omega), ti_sI_ne (by omega), ti_sI_eq]
  · rw [ti_sI_ne (by omega), ti_sI_ne (by omega), ti_sI_ne (by omega), e1, ti_sI_ne (by omega), ti_sI_ne (by omega), ti_sI_ne (by omega), ti_sI_ne (by omega), ti_sI_eq]
  · rw [ti_sI_ne (by omega), ti_sI_ne (by omega), ti_sI_ne (by omega), e1, ti_sI_ne (by omega), ti_sI_ne (by omega), ti_sI_ne (by omega), ti_sI_eq]
  · rw [ti_sI_ne (by omega), ti_sI_ne (by omega), ti_sI_ne (by omega), e1, ti_sI_ne (by omega), ti_sI_ne (by omega), ti_sI_eq]
  · rw [ti_sI_ne (by omega), ti_sI_ne (by omega), ti_sI_ne (by omega), e1, ti_sI_ne (by omega), ti_sI_eq]
  · rw [ti_sI_ne (by omega), ti_sI_ne (by omega), ti_sI_ne (by omega), e1, ti_sI_eq]
  · rw [ti_sI_ne (by omega), ti_sI_ne (by omega), ti_sI_eq]
  · rw [ti_sI_ne (by omega), ti_sI_eq]
end
section
/-- what holds of tokens and families when one more is there -/
theorem TK_fin {S S' m m' : AS} {g d f to : Nat} {frm sc gen key un : Int32} (tk : TKK S S' g d (nT m) to frm sc gen key un) (tm : TKM m m' f (nT m) to frm sc gen un) (hc : cTok S m) (hn : cNum S m) (ha : cAud S m) (hf : cFre S m)
    (f1 : f < nF m) (f60 : nF m ≤ 60) (hg : g = lel S 23 f) (to4 : to < 4) (n200 : nT m < 200) (hk : sI m 57 61 = key) (hk20 : ∃ k, k < 20 ∧ key = Int32.ofNat k) (u0 : 0 ≤ un.toInt) (u1 : un.toInt ≤ 30010)
    (lelF : ∀ q, q < nF m → lel S' 23 q = lel S 23 q) (lelC : ∀ q, q < nC m → lel S' 22 q = lel S 22 q) (ltF : ∀ q, q < nF m → lel S 23 q < sN S ∧ lel S 23 q ≠ 24) (injF : ∀ a b, a < nF m → b < nF m → lel S 23 a = lel S 23 b → a = b)
    (ltT : ∀ t, t < nT m → lel S 24 t < sN S ∧ lel S 24 t ≠ 24 ∧ lel S 24 t ≠ d ∧ ∀ q, q < nF m → lel S 24 t ≠ lel S 23 q) (ltC : ∀ c, c < nC m → sI m 98 c = -1 → lel S 22 c < sN S ∧ lel S 22 c ≠ 24 ∧ lel S 22 c ≠ g) : cTok S' m' ∧ cNum S' m' ∧ cAud S' m' ∧ cFre S' m' := by
  obtain ⟨k1, k2, k3, ⟨k4, k5⟩, ⟨z0, z1, z2, z3, z4, z5, z6⟩, k6, k7⟩ := tk
  obtain ⟨⟨-, -, m1⟩, y1, y2, y3, y4, y5, y6, y7, y8, y9⟩ := tm
  have eT : nn (sI m' 57 52) = nT m + 1 := by
    rw [y9]
    exact nn_o (by omega)
  have enT : nT m' = nT m + 1 := eT
  have enF : nF m' = nF m := by
    unfold nF
    rw [m1 _ _ (by omega) (by omega) (by omega)]
  have enC : nC m' = nC m := by
    unfold nC
    rw [m1 _ _ (by omega) (by omega) (by omega)]
  refine ⟨⟨⟨?_, ?_, ?_⟩, fun t ht => ?_⟩, fun q hq => ?_, fun q hq v hv => ?_, fun c hc' h98 => ?_⟩
  · rw [eT]
    omega
  · rw [eT]
    exact y9
  · rw [y9]
    exact k3
  · rw [enT] at ht
    rw [enF]
    by_cases c : t = nT m
    · subst c
      rw [k5]
      obtain ⟨k, k20, ek⟩ := hk20
      exact ⟨⟨f, f1, by rw [lelF f f1, ← hg]; exact z0, y1⟩, z1.trans y2.symm, ⟨to, to4, z2, y3⟩, z3.trans y4.symm, z4.trans y5.symm, ⟨k, k20, z5.trans ek, y7.trans (hk.trans ek)⟩, z6.trans y6.symm, by rw [y6]; exact u0, by rw [y6]; exact u1⟩
    · have ht : t < nT m := by omega
      obtain ⟨l1, l2, l3, l4⟩ := ltT t ht
      have lg : lel S 24 t ≠ g := by rw [hg]; exact l4 f f1
      obtain ⟨⟨q, q1, q2, q3⟩, w1, ⟨v, v1, v2, v3⟩, w3, w4, ⟨k, x1, x2, x3⟩, w6, w7, w8⟩ := hc.2 t ht
      have oI : ∀ j, sI S' (lel S 24 t) j = sI S (lel S 24 t) j := fun j => k1 _ j l1 (by omega) (by omega)
      have oM : ∀ a, (a = 104 ∨ a = 105 ∨ a = 106 ∨ a = 107 ∨ a = 108 ∨ a = 109 ∨ a = 110) → sI m' a t = sI m a t := fun a h => m1 a t (by omega) (by omega) (by omega)
      rw [k4 t ht, oI, oI, oI, oI, oI, oI, oM 104 (by omega), oM 105 (by omega), oM 106 (by omega), oM 107 (by omega), oM 108 (by omega), oM 109 (by omega), oM 110 (by omega)]
      exact ⟨⟨q, q1, by rw [k2 _ 0 l1 (by omega) (by omega), lelF q q1]; exact q2, q3⟩, w1, ⟨v, v1, v2, v3⟩, w3, w4, ⟨k, x1, x2, x3⟩, w6, w7, w8⟩
  · rw [enF] at hq
    obtain ⟨l1, l2⟩ := ltF q hq
    obtain ⟨w1, w3, w4⟩ := hn q hq
    have e100 : sI m' 100 q = sI m 100 q := m1 _ _ (by omega) (by omega) (by omega)
    have e101 : sI m' 101 q = sI m 101 q := m1 _ _ (by omega) (by omega) (by omega)
    rw [lelF q hq, e100, e101, k1 _ 7 l1 (by omega) (by omega), k1 _ 8 l1 (by omega) (by omega)]
    refine ⟨w1, w3, ?_⟩
    by_cases c : q = f
    · subst c
      rw [← hg, k6, y8]
    · have : lel S 23 q ≠ g := fun z => c (injF q f hq f1 (z.trans hg))
      rw [k1 _ 9 l1 (by omega) (by omega), m1 _ _ (by omega) (by omega) (by omega)]
      exact w4
  · rw [enF] at hq
    rw [enT, lelF q hq]
    have old : (∃ t, t < nT m + 1 ∧ sI m' 108 t = Int32.ofNat q ∧ sI m' 105 t = Int32.ofNat v) ↔ (∃ t, t < nT m ∧ sI m 108 t = Int32.ofNat q ∧ sI m 105 t = Int32.ofNat v) ∨ (q = f ∧ v = to) := by
      constructor
      · rintro ⟨t, t1, t2, t3⟩
        by_cases c : t = nT m
        · subst c
          rw [y1] at t2
          rw [y3] at t3
          exact Or.inr ⟨(oinj (by omega) (by omega) t2).symm, (oinj (by omega) (by omega) t3).symm⟩
        · rw [m1 _ _ (by omega) (by omega) (by omega)] at t2 t3
          exact Or.inl ⟨t, by omega, t2, t3⟩
      · rintro (⟨t, t1, t2, t3⟩ | ⟨rfl, rfl⟩)
        · exact ⟨t, by omega, (m1 _ _ (by omega) (by omega) (by omega)).trans t2, (m1 _ _ (by omega) (by omega) (by omega)).trans t3⟩
        · exact ⟨nT m, by omega, y1, y3⟩
    rw [old, ← ha q hq v hv]
    by_cases c : q = f
    · subst c
      rw [← hg, k7, bt_sh _ (by omega)]
      exact ⟨fun z => z.elim Or.inl (fun y => Or.inr ⟨rfl, y⟩), fun z => z.elim Or.inl (fun y => Or.inr y.2)⟩
    · have : lel S 23 q ≠ g := fun z => c (injF q f hq f1 (z.trans hg))
      rw [k1 _ 10 (ltF q hq).1 (by omega) (by omega)]
      exact ⟨Or.inl, fun z => z.elim id (fun y => absurd y.1 c)⟩
  · rw [enC] at hc'
    rw [m1 _ _ (by omega) (by omega) (by omega)] at h98
    obtain ⟨l1, l2, l3⟩ := ltC c hc' h98
    rw [lelC c hc', k1 _ 6 l1 (by omega) (by omega), k1 _ 7 l1 (by omega) (by omega), k1 _ 10 l1 (by omega) (by omega), k1 _ 11 l1 (by omega) (by omega)]
    exact hf c hc' h98
end
section
/-! ===== exchange ===== -/
section
variable {T Tm : Nat → Nat} {S m : AS}
def P_tok (S m : AS) : Prop := cFre S m ∧ cNum S m ∧ cTok S m ∧ cAud S m
theorem FR_tok (h : FR S m) : P_tok S m := ⟨h.Fre, h.Num, h.Tok, h.Aud⟩
theorem ex_go (hT : TV T S) (hm : TI Tm m) (h : FR S m) (e82 : sI m 57 82 = 0) {t v : Nat} {sc : Int32} (t1 : t < nT m) (v4 : v < 4) (n200 : nT m < 200) :
    H2 (f_K_exchange_B102 S (some 4) (Int32.ofNat v) sc (some (lel S 24 t)) (some (53 + v)) 1) ((gR m 23 57 (some 57)).bind fun v4 => (aI m 40 v4 (Int32.ofNat t)).bind fun v5 => (gR m 23 40 (some 57)).bind fun v6 => (gR m 23 47 (some 57)).bind fun v7 => (aI m 40 v7 v5).bind fun v8 => (aI m 40 v6 v8).bind fun v9 => (kr_rv m 23 (some 57)).bind fun u10 => kr_b2 (f_M_levelNow m (some 57) v9) fun v12 S11 => (gR S11 23 38 (some 57)).bind fun v13 => (aI S11 40 v13 (Int32.ofNat v)).bind fun v14 => if v14 ≤ v12 then (gR S11 23 54 (some 57)).bind fun v15 => (aI S11 40 v15 (Int32.ofNat t)).bind fun v16 => (gR S11 23 56 (some 57)).bind fun v17 => (aI S11 40 v17 (Int32.ofNat t)).bind fun v18 => (gR S11 23 59 (some 57)).bind fun v19 => (aI S11 40 v19 (Int32.ofNat t)).bind fun v20 => (kr_rv S11 23 (some 57)).bind fun u21 => kr_b2 (f_M_newToken S11 (some 57) v5 v16 (Int32.ofNat v) sc (v18 + (1 : Int32)) v20) fun v23 S22 => some (v23, S22) else some ((-2 : Int32), S11)) (fun x y => AN [eX, eA, eS] x.1 y.1 (sI y.2 57 82) ∧ P_tok x.2 y.2) := by
  have b := FR_BB hT hm h
  have k4 := K4F_of hT.1
  have hmf := MF_of hm
  have st := ST_of hT hm h
  obtain ⟨zT1, zT2, zT3⟩ := zT b
  have s24 : sI S 24 2 = Int32.ofNat (nT m) := zT3.trans zT2
  obtain ⟨d, d1, d2, d3, d4, d5, d6⟩ := LO_add hT.1 (q := 5) (by decide) s24 (by omega)
  have d1 : sR S 24 1 = some d := d1
  have d3 : 24 < sN S := d3
  have d5 : d ≠ 24 := d5
  obtain ⟨t4, -, -, -, -, -, -, -, -, t25, -⟩ := kt4 hT.1
  have lt : ∀ {k τ : Nat}, T k = τ → τ ≠ 0 → k < sN S := fun hk h0 => (hT.1.t1 _ (by rw [hk]; exact h0)).1
  have n4 := lt t4 (by decide)
  have d4n : 4 ≠ d := d6 4 (by rw [t4]; decide) (by rw [t4]; decide) (by rw [t4]; decide)
  have t24 : T 24 = 25 := (hT.1.t6 5 (by decide)).1
  obtain ⟨⟨f, f1, f2, f3⟩, -, ⟨v0, v01, v02, v03⟩, -, h4, -, h6, h7, h8⟩ := h.Tok.2 t t1
  have tt := tyT b t1
  have tF := fun q (hq : q < nF m) => tyF b hq
  have f60 : nF m ≤ 60 := (zF b).1
  obtain ⟨-, ⟨c, s, c60, s1, m99, m93, ks⟩, -⟩ := st.2.2.2.2.2.1 f f1
  have s60 : s < 60 := by
    have := (zS b).1
    unfold nS at s1
    omega
  obtain ⟨kc, kg, kb, ka1, ka2, -⟩ := h.Key
  have tn : ∀ q, q < nT m → T (lel S 24 q) = 45 := fun q hq => tyT b hq
  unfold f_K_exchange_B102
  refine l_of (st_bx (rS1 S)) (l_of (st_gRe f2) (l_of (st_gRe ks) (l_of (st_gIe h.NW.1) (l_of st_rv ?_))))
  have ti : (Int32.ofNat t).toNatClampNeg = t := oc (by omega)
  refine m_of (st_gRe (hmf 57 108 rfl)) (m_of (st_aIe ti f3) (m_of (st_gRe (hmf 40 93 rfl)) (m_of (st_gRe (hmf 47 99 rfl)) (m_of (st_aIe (oc (by omega)) m99) (m_of (st_aIe (oc (by omega)) m93) (m_of st_rv ?_))))))
  refine h2_22 (h_levelAt h hmf (fun _ _ _ => rfl) s1) (fun w S7 u m11 q => ?_)
  obtain ⟨y, y8, e1, e2⟩ := q
  cases e1
  cases e2
  refine l_of (st_gIe (h.Ned v v4)) (m_of (st_gRe (hmf 38 92 rfl)) (m_of (st_aIe (v := sI m 92 v) (oc (by omega)) rfl) ?_))
  by_cases d2' : sI m 92 v ≤ lv8 y
  · refine l_of (st_T d2') (m_of (st_T d2') (l_of st_nO ?_))
    have fo : ∀ {k τ : Nat}, T k = τ → τ ≠ 0 → sI (nO S 21) k = sI S k ∧ sR (nO S 21) k = sR S k := fun hk h0 => by
      have := lt hk h0
      obtain ⟨a1, a2, -⟩ := nO_f S 21 (k := _) (Nat.ne_of_lt this)
      exact ⟨a1, a2⟩
    have ft := fo tt (by decide)
    refine l_of (st_gRe (v := some (lel S 23 f)) (by rw [ft.2]; exact f2)) (l_of (st_gIe (v := Int32.ofNat v0) (by rw [ft.1]; exact v02)) (l_of (st_gIe (v := sI m 107 t) (by rw [ft.1]; exact h4)) ?_))
    refine l_of (st_gRe (v := some 25) (by rw [(fo t4 (by decide)).2]; exact k4.1 15 25 rfl)) (l_of (st_gIe (v := sI m 57 61) (by rw [(fo t25 (by decide)).1]; exact ka2.2.1)) (l_of (st_gIe (v := sI m 110 t) (by rw [ft.1]; exact h6)) ?_))
    refine m_of (st_gRe (hmf 54 105 rfl)) (m_of (st_aIe ti v03) (m_of (st_gRe (hmf 56 107 rfl)) (m_of (st_aIe (v := sI m 107 t) ti rfl) (m_of (st_gRe (hmf 59 110 rfl)) (m_of (st_aIe (v := sI m 110 t) ti rfl) (m_of st_rv ?_))))))
    have gF := tF f f1
    have gs := lt gF (by decide)
    have g24 : lel S 23 f ≠ 24 := fun z => by
      rw [z, t24] at gF
      exact absurd gF (by decide)
    refine l_tok (n := nT m) (d := d) (k4.1 14 24 rfl) s24 d1 (by omega) d2 n4 d3 d4 d5 d4n.symm gs g24 (fun S19 tk => ?_)
    refine m_p2 (p_tokM (n := nT m) hmf n200 (by omega) zT2) (fun w m' p => ?_)
    obtain ⟨p1, tm⟩ := p
    have p1 : w = Int32.ofNat (nT m) := p1
    rw [p1]
    have tkk := tk
    obtain ⟨q1, q2, q3, -⟩ := tkk
    refine l_of (st_gRe (v := some 24) ((q2 4 14 n4 (by omega) (by omega)).trans (k4.1 14 24 rfl))) (l_of st_rv (l_of st_size ?_))
    rw [q3, show Int32.ofNat (nT m + 1) - 1 = Int32.ofNat (nT m) by rw [← o1]; exact Int32.add_sub_cancel _ _]
    have fin := TK_fin tk tm h.Tok h.Num h.Aud h.Fre f1 f60 rfl v4 n200 rfl ⟨kg, by omega, ka1.2⟩ h7 h8
      (fun q hq => lel_othG hT.1 (q := 4) (q0 := 5) (by decide) (by decide) (by decide) d6 q2 (SZ_lt (zF b) (by decide) hq))
      (fun q hq => lel_othG hT.1 (q := 3) (q0 := 5) (by decide) (by decide) (by decide) d6 q2 (SZ_lt (zC b) (by decide) hq))
      (fun q hq => ⟨lt (tF q hq) (by decide), fun z => by
        have := tF q hq
        rw [z, t24] at this
        exact absurd this (by decide)⟩)
      (fun a c ha hc e => ST_fi st ha hc e)
      (fun q hq => ⟨lt (tn q hq) (by decide), fun z => by
        have := tn q hq
        rw [z, t24] at this
        exact absurd this (by decide), d6 _ (by rw [tn q hq]; decide) (by rw [tn q hq]; decide) (by rw [tn q hq]; decide), fun a ha z => by
        have := tn q hq
        rw [z, tF a ha] at this
        exact absurd this (by decide)⟩)
      (fun c hc h98 => ⟨lt (tyC b hc) (by decide), fun z => by
        have := tyC b hc
        rw [z, t24] at this
        exact absurd this (by decide), fun z => by
        obtain ⟨c', c1, c2, c3, c4, -⟩ := h.Fam.2 f f1
        have := (h.Cod.2 c hc).1 c' c1 (by rw [z, c2])
        subst this
        rw [h98] at c4
        exact ofNat_ne (by omega) c4⟩)
    obtain ⟨g1, g2, g3, g4⟩ := fin
    exact h2_ret ⟨AN_v ((tm.1.2.2 57 82 (by omega) (by omega) (by omega)).trans e82), g4, g2, g1, g3⟩
  · exact l_of (st_F d2') (m_of (st_F d2') (h2_ret ⟨AN_v e82, FR_tok h⟩))
end
end
section
section
variable {T Tm : Nat → Nat} {S m : AS}
theorem h_exchange (hT : TV T S) (hm : TI Tm m) (h : FR S m) (a c sc : Int32) : H2 (f_K_exchange S (some 4) a c sc) (f_M_exchange m (some 57) a c sc) (fun x y => AN [eX, eA, eS] x.1 y.1 (sI y.2 57 82) ∧ P_tok x.2 y.2) := by
  have b := FR_BB hT hm h
  have hmf := MF_of hm
  have k4 := K4F_of hT.1
  have no1 : H2 (some ((Sum.inr eX : Int32 ⊕ String), wX S)) (f_M_exchange_B20 m (some 57) a c sc 0) (fun x y => AN [eX, eA, eS] x.1 y.1 (sI y.2 57 82) ∧ P_tok x.2 y.2) := by
    unfold f_M_exchange_B20 f_M_exchange_B54 f_M_exchange_B55 f_M_exchange_B113 f_M_exchange_B114
    refine m_of (st_T rfl) (m_of (st_T rfl) (m_of st_rv (m_p2 p_mayA (fun w m' e => ?_))))
    rw [if_pos rfl] at e
    cases e
    exact m_of (st_T rfl) (h2_ret ⟨AN_e 0 rfl (ti_sI_eq _ _ _ _), FR_tok (FR_X hT (TI_t hm 1) (FR_t hT hm h 1))⟩)
  have no2 : ∀ y, H2 (some ((Sum.inr eA : Int32 ⊕ String), wX S)) (f_M_exchange_B114 m (some 57) a c sc 1 0 y) (fun x y => AN [eX, eA, eS] x.1 y.1 (sI y.2 57 82) ∧ P_tok x.2 y.2) := fun y => by
    unfold f_M_exchange_B114
    refine m_of st_rv (m_p2 p_mayA (fun w m' e => ?_))
    rw [if_neg one0, if_pos rfl] at e
    cases e
    exact m_of (st_T rfl) (h2_ret ⟨AN_e 1 rfl (ti_sI_eq _ _ _ _), FR_tok (FR_X hT (TI_t hm 2) (FR_t hT hm h 2))⟩)
  have no2' : H2 (some ((Sum.inr eA : Int32 ⊕ String), wX S)) (f_M_exchange_B54 m (some 57) a c sc 1) (fun x y => AN [eX, eA, eS] x.1 y.1 (sI y.2 57 82) ∧ P_tok x.2 y.2) := by
    unfold f_M_exchange_B54 f_M_exchange_B55 f_M_exchange_B113
    refine m_of (st_F one0) (m_of st_gI (m_of (st_gRe (hmf 59 110 rfl)) (m_of st_aI (m_if (fun _ => no2 0) (fun _ => ?_)))))
    refine m_of (st_gRe (hmf 51 103 rfl)) (m_of (st_gRe (hmf 57 108 rfl)) (m_of st_aI (m_of st_aI (m_if (fun _ => no2 0) (fun _ => ?_)))))
    exact m_of (st_gRe (hmf 56 107 rfl)) (m_of st_aI (m_if (fun _ => no2 0) (fun _ => m_of st_gI (m_if (fun _ => no2 0) (fun _ => no2 1)))))
  have no3 : H2 (some ((Sum.inr eS : Int32 ⊕ String), wX S)) (f_M_exchange_B113 m (some 57) a c sc 1 1) (fun x y => AN [eX, eA, eS] x.1 y.1 (sI y.2 57 82) ∧ P_tok x.2 y.2) := by
    unfold f_M_exchange_B113 f_M_exchange_B114
    refine m_of st_rv (m_p2 p_mayA (fun w m' e => ?_))
    rw [if_neg one0, if_neg one0, if_pos rfl] at e
    cases e
    exact m_of (st_T rfl) (h2_ret ⟨AN_e 2 rfl (ti_sI_eq _ _ _ _), FR_tok (FR_X hT (TI_t hm 3) (FR_t hT hm h 3))⟩)
  have k40 : ∀ x y, Le (f_K_exchange_B40 S (some 4) c sc x y) (some ((Sum.inr eA : Int32 ⊕ String), wX S)) := fun x y q hq => by
    unfold f_K_exchange_B40 f_K_exchange_B41 at hq
    exact st_bxe (rA0 S) q hq
  have k80 : ∀ x y, Le (f_K_exchange_B80 S (some 4) c sc x y) (some ((Sum.inr eS : Int32 ⊕ String), wX S)) := fun x y q hq => by
    unfold f_K_exchange_B80 f_K_exchange_B81 at hq
    exact st_bxe (rS0 S) q hq
  unfold f_K_exchange f_M_exchange f_M_exchange_B19
  refine l_of st_rv (m_of st_rv (m_p2 (x_MT b a) (fun w S2 p => ?_)))
  refine l_bx (fun v' S' e => ?_) (fun v' S' e => ?_)
  · rcases x_fT b a _ e with ⟨t, t1, ea, e2⟩ | ⟨no, e2⟩
    · cases e2
      rcases p with ⟨-, p2⟩ | ⟨p1, -⟩
      · cases p2
        refine m_of (st_F one0) (m_of (st_b2 (q_ser m c)) (l_of st_rv (l_bx (fun v' S' e => ?_) (fun v' S' e => ?_))))
        · rcases x_fV b c _ e with ⟨v, v4, ec, e2⟩ | ⟨-, e2⟩
          · cases e2
            rw [if_pos ((fou_iff _).mpr ⟨v, v4, ec⟩)]
            refine m_of (st_F one0) ?_
            unfold f_M_exchange_B20
            have zT' := zT b
            have n200 : nT m ≤ 200 := zT'.1
            have ai : a.toNatClampNeg = t := by rw [ea]; exact oc (by omega)
            obtain ⟨⟨f, f1, f2, f3⟩, -, -, g3, g4, -, g6, -⟩ := h.Tok.2 t t1
            have f60 : nF m ≤ 60 := (zF b).1
            have gd := (h.God.2 f f1).1
            refine l_of (st_b2 (q_win S sc 1 15)) (m_of (st_F one0) (m_of (st_b2 (q_isIn m sc 1 15)) ?_))
            by_cases cs : 1 ≤ sc ∧ sc ≤ 15
            · rw [if_pos cs]
              refine l_of (st_F one0) (m_of (st_F one0) (l_of (st_gIe g3) (m_of (st_gRe (hmf 55 106 rfl)) (m_of (st_aIe (v := sI m 106 t) ai rfl) ?_))))
              by_cases d1 : (sc &&& (sI m 106 t ^^^ (-1 : Int32))) = 0
              · refine l_of (st_T d1) (m_of (st_T d1) ?_)
                unfold f_K_exchange_B41 f_M_exchange_B55
                refine l_of (st_bx (rA1 S)) (l_of (st_gIe h.NW.1) (l_of (st_gIe g6) (m_of (st_F one0) (m_of st_gI (m_of (st_gRe (hmf 59 110 rfl)) (m_of (st_aIe (v := sI m 110 t) ai rfl) ?_))))))
                by_cases c1 : sI m 110 t < sI m 57 0
                · exact l_of (st_T c1) (m_of (st_T c1) (l_of (k80 _ _) no3))
                · refine l_of (st_F c1) (m_of (st_F c1) (l_of (st_gRe f2) (l_of (st_gIe gd) ?_)))
                  refine m_of (st_gRe (hmf 51 103 rfl)) (m_of (st_gRe (hmf 57 108 rfl)) (m_of (st_aIe (v := Int32.ofNat f) ai f3) (m_of (st_aIe (v := sI m 103 f) (oc (by omega)) rfl) ?_)))
                  by_cases c2 : sI m 103 f = 0
                  · exact l_of (st_T c2) (m_of (st_T c2) (l_of (k80 _ _) no3))
                  · refine l_of (st_F c2) (m_of (st_F c2) (l_of (st_gIe g4) (m_of (st_gRe (hmf 56 107 rfl)) (m_of (st_aIe (v := sI m 107 t) ai rfl) ?_))))
                    by_cases c3 : (3 : Int32) ≤ sI m 107 t
                    · exact l_of (st_T c3) (m_of (st_T c3) (l_of (k80 _ _) no3))
                    · refine l_of (st_F c3) (m_of (st_F c3) ?_)
                      unfold f_K_exchange_B81
                      refine l_of (st_bx (rS1 S)) (l_of (st_gRe (k4.1 14 24 rfl)) (l_of st_rv (l_of st_size ?_)))
                      rw [zT'.2.2, show sI m 57 52 = Int32.ofNat (nT m) from zT'.2.1]
                      refine m_of (st_gIe (v := Int32.ofNat (nT m)) zT'.2.1) ?_
                      by_cases c4 : (200 : Int32) ≤ Int32.ofNat (nT m)
                      · refine l_of (st_T c4) (m_of (st_T c4) ?_)
                        unfold f_K_exchange_B102
                        exact l_of (st_bxe (rS0 S)) no3
                      · refine l_of (st_F c4) (m_of (st_F c4) ?_)
                        have lt200 : nT m < 200 := Nat.not_le.mp (fun q => c4 ((ole (a := 200) (by decide) (by omega)).mpr q))
                        unfold f_M_exchange_B114
                        refine m_of st_rv (m_p2 p_mayA (fun w m' e => ?_))
                        rw [if_neg one0, if_neg one0, if_neg one0] at e
                        cases e
                        have enT : nT (wI m 57 82 0) = nT m := by
                          unfold nT
                          rw [lv0 m (by omega) 0]
                        rw [ea, ec]
                        exact m_of (st_F one0) (ex_go hT (TI_t hm 0) (FR_t hT hm h 0) (ti_sI_eq _ _ _ _) (by rw [enT]; exact t1) v4 (by rw [enT]; exact lt200))
              · exact l_of (st_F d1) (m_of (st_F d1) (l_of (k40 _ _) no2'))
            · rw [if_neg cs]
              exact l_of (st_T rfl) (m_of (st_T rfl) (l_of (k40 _ _) no2'))
          · cases e2
        · rcases x_fV b c _ e with ⟨v, v4, ec, e2⟩ | ⟨no', e2⟩
          · cases e2
          · cases e2
            rw [if_neg (fun q => no' ((fou_iff _).mp q))]
            exact m_of (st_T rfl) no1
      · exact absurd ⟨t, t1, ea⟩ p1
    · cases e2
  · rcases x_fT b a _ e with ⟨t, t1, ea, e2⟩ | ⟨no, e2⟩
    · cases e2
    · cases e2
      rcases p with ⟨p1, -⟩ | ⟨-, p2⟩
      · exact absurd p1 no
      · cases p2
        exact m_of (st_T rfl) no1
end
end
section
/-! ===== the first-hand token of a family ===== -/
theorem p_of_l {α : Type} {x : Option α} {P : α → Prop} (h : H2 x (some ()) (fun a _ => P a)) : Hp x P := fun a ha => h a () ha rfl
theorem p_fht {S : AS} {g d n to : Nat} {frm sc key now : Int32} (k4 : K4F S) (hs : sI S 24 2 = Int32.ofNat n) (hr : sR S 24 1 = some d) (hn : n < 201) (hL : sL S d ≤ 400) (h4 : 4 < sN S) (h24 : 24 < sN S) (h25 : 25 < sN S) (hd : d < sN S) (hd24 : d ≠ 24) (hd4 : d ≠ 4) (hg : g < sN S) (hg24 : g ≠ 24)
    (e1 : sI S g 1 = frm) (e2 : sI S g 2 = Int32.ofNat to) (e3 : sI S g 3 = sc) (ek : sI S 25 1 = key) (en : sI S 4 0 = now) : Hp (f_K_addFirstHandToken S (some 4) (some g)) (fun S' => TKK S S' g d n to frm sc 0 key (now + 10)) := by
  have f1 : ∀ k, k < sN S → sI (nO S 21) k = sI S k ∧ sR (nO S 21) k = sR S k ∧ sL (nO S 21) k = sL S k := fun k hk => nO_f S 21 (by omega)
  unfold f_K_addFirstHandToken
  refine p_of st_nO (p_of (st_gIe (v := frm) (by rw [(f1 g hg).1]; exact e1)) (p_of (st_gIe (v := Int32.ofNat to) (by rw [(f1 g hg).1]; exact e2)) (p_of (st_gIe (v := sc) (by rw [(f1 g hg).1]; exact e3)) ?_)))
  refine p_of (st_gRe (v := some 25) (by rw [(f1 4 h4).2.1]; exact k4.1 15 25 rfl)) (p_of (st_gIe (v := key) (by rw [(f1 25 h25).1]; exact ek)) (p_of (st_gIe (v := now) (by rw [(f1 4 h4).1]; exact en)) ?_))
  exact p_of_l (l_tok (k4.1 14 24 rfl) hs hr hn hL h4 h24 hd hd24 hd4 hg hg24 (fun S' tk => h2_ret tk))
theorem p_ftM {m : AS} {f c n to : Nat} {frm sc : Int32} (hmf : MF m) (hn : n < 200) (hf : f < 60) (hc : c < 60) (h52 : sI m 57 52 = Int32.ofNat n) (e99 : sI m 99 f = Int32.ofNat c) (e94 : sI m 94 c = frm) (e95 : sI m 95 c = Int32.ofNat to) (e96 : sI m 96 c = sc) : Hp (f_M_firstToken m (some 57) (Int32.ofNat f)) (fun m' => TKM m m' f n to frm sc 0 (sI m 57 0 + 10)) := by
  unfold f_M_firstToken
  refine p_of (st_gRe (hmf 47 99 rfl)) (p_of (st_aIe (oc (by omega)) e99) (p_of (st_gRe (hmf 41 94 rfl)) (p_of (st_aIe (oc (by omega)) e94) (p_of (st_gRe (hmf 42 95 rfl)) (p_of (st_aIe (oc (by omega)) e95) ?_)))))
  refine p_of (st_gRe (hmf 43 96 rfl)) (p_of (st_aIe (oc (by omega)) e96) (p_of st_gI (p_of st_rv ?_)))
  exact p_b2 (p_tokM hmf hn hf h52) (fun v S' p => p_ret p.2)
end
section
/-! ===== a family's number goes up ===== -/
section
variable {T Tm : Nat → Nat} {S m : AS}
def P_ref (S m : AS) : Prop := cUsd S m ∧ cFre S m ∧ cNum S m ∧ cGod S m ∧ cTok S m ∧ cAud S m ∧ cAU S m
theorem FR_ref (h : FR S m) : P_ref S m := ⟨h.Usd, h.Fre, h.Num, h.God, h.Tok, h.Aud, h.AU⟩
theorem rot_go (hT : TV T S) (hm : TI Tm m) (h : FR S m) (e82 : sI m 57 82 = 0) {f : Nat} (f1 : f < nF m) (n200 : nT m < 200) :
    H2 (f_K_refresh_B63 S (some 4) (some (lel S 23 f)) 1) ((gR m 23 48 (some 57)).bind fun v13 => (aI m 40 v13 (Int32.ofNat f)).bind fun v14 => (bI m v13 (Int32.ofNat f) (v14 + (1 : Int32))).bind fun S15 => (gR S15 23 49 (some 57)).bind fun v16 => (gI S15 23 0 (some 57)).bind fun v17 => (bI S15 v16 (Int32.ofNat f) v17).bind fun S18 => (kr_rv S18 23 (some 57)).bind fun u19 => (f_M_firstToken S18 (some 57) (Int32.ofNat f)).bind fun S20 => (gR S20 23 33 (some 57)).bind fun v21 => (gR S20 23 40 (some 57)).bind fun v22 => (gR S20 23 47 (some 57)).bind fun v23 => (aI S20 40 v23 (Int32.ofNat f)).bind fun v24 => (aI S20 40 v22 v24).bind fun v25 => (gI S20 23 0 (some 57)).bind fun v26 => (bI S20 v21 v25 v26).bind fun S27 => (gR S27 23 48 (some 57)).bind fun v28 => (aI S27 40 v28 (Int32.ofNat f)).bind fun v29 => some (v29, S27)) (fun x y => AN [eX, eA, eS] x.1 y.1 (sI y.2 57 82) ∧ P_ref x.2 y.2) := by
  have b := FR_BB hT hm h
  have k4 := K4F_of hT.1
  have hmf := MF_of hm
  have st := ST_of hT hm h
  obtain ⟨zT1, zT2, zT3⟩ := zT b
  have s24 : sI S 24 2 = Int32.ofNat (nT m) := zT3.trans zT2
  obtain ⟨d, d1, d2, d3, d4, d5, d6⟩ := LO_add hT.1 (q := 5) (by decide) s24 (by omega)
  have d1 : sR S 24 1 = some d := d1
  have d3 : 24 < sN S := d3
  have d5 : d ≠ 24 := d5
  obtain ⟨t4, t5, t6, -, -, -, -, -, -, t25, -⟩ := kt4 hT.1
  have lt : ∀ {k τ : Nat}, T k = τ → τ ≠ 0 → k < sN S := fun hk h0 => (hT.1.t1 _ (by rw [hk]; exact h0)).1
  have n4 := lt t4 (by decide)
  have d4n : 4 ≠ d := d6 4 (by rw [t4]; decide) (by rw [t4]; decide) (by rw [t4]; decide)
  have t24 : T 24 = 25 := (hT.1.t6 5 (by decide)).1
  have f60 : nF m ≤ 60 := (zF b).1
  obtain ⟨c, c1, ec, c99, c98, -⟩ := h.Fam.2 f f1
  obtain ⟨-, ⟨s, s1, ks, m93⟩, ⟨vf, vf4, g1, e94⟩, ⟨to, to4, g2, e95⟩, g3, -⟩ := h.Cod.2 c c1
  rw [← ec] at ks g1 g2 g3
  have c60 : c < 60 := by
    have := (zC b).1
    unfold nC at c1
    omega
  have s60 : s < 60 := by
    have := (zS b).1
    unfold nS at s1
    omega
  obtain ⟨kc, kg, kb, ka1, ka2, -⟩ := h.Key
  have tF := fun q (hq : q < nF m) => tyF b hq
  have tn : ∀ q, q < nT m → T (lel S 24 q) = 45 := fun q hq => tyT b hq
  have ts := tyS b s1
  have gF := tF f f1
  obtain ⟨nw0, nw1, nw2⟩ := h.NW
  obtain ⟨q7, q8, q9⟩ := h.Num f f1
  have n4g : (4 : Nat) ≠ lel S 23 f := fun z => by
    rw [← z, t4] at gF
    exact absurd gF (by decide)
  have gs : lel S 23 f ≠ lel S 19 s := fun z => by
    rw [z, ts] at gF
    exact absurd gF (by decide)
  have n4s : (4 : Nat) ≠ lel S 19 s := fun z => by
    rw [← z, t4] at ts
    exact absurd ts (by decide)
  unfold f_K_refresh_B63
  refine l_of (st_bx (rS1 S)) (l_of st_rv ?_)
  have now : ∀ {p : Nat} {v : Int32}, sI (wI S (lel S 23 f) p v) 4 0 = sI m 57 0 := (ti_sI_ne (by omega)).trans nw0
  obtain ⟨S7, e7⟩ : ∃ S7, S7 = wI (wI (wI S (lel S 23 f) 7 (sI m 100 f + 1)) (lel S 23 f) 8 (sI m 57 0)) (lel S 19 s) 5 (sI m 57 0) := ⟨_, rfl⟩
  have r7 : sR S7 = sR S := by rw [e7, sR_wI, sR_wI, sR_wI]
  have N7 : sN S7 = sN S := by rw [e7]; rfl
  have L7 : sL S7 = sL S := by rw [e7]; rfl
  have o7 : ∀ {k j : Nat}, ¬ (k = lel S 23 f ∧ (j = 7 ∨ j = 8)) → ¬ (k = lel S 19 s ∧ j = 5) → sI S7 k j = sI S k j := fun z1 z2 => by
    rw [e7, ti_sI_ne (by omega), ti_sI_ne (by omega), ti_sI_ne (by omega)]
  have s77 : sI S7 (lel S 23 f) 7 = sI m 100 f + 1 := by rw [e7, ti_sI_ne (by omega), ti_sI_ne (by omega), ti_sI_eq]
  have s78 : sI S7 (lel S 23 f) 8 = sI m 57 0 := by rw [e7, ti_sI_ne (by omega), ti_sI_eq]
  have s75 : sI S7 (lel S 19 s) 5 = sI m 57 0 := by rw [e7, ti_sI_eq]
  have el7 : ∀ l k, lel S7 l k = lel S l k := fun l k => by
    unfold lel
    rw [r7]
  have n24 : (24 : Nat) ≠ lel S 23 f ∧ (24 : Nat) ≠ lel S 19 s := ⟨fun z => by
    rw [← z, t24] at gF
    exact absurd gF (by decide), fun z => by
    rw [← z, t24] at ts
    exact absurd ts (by decide)⟩
  have n25 : (25 : Nat) ≠ lel S 23 f ∧ (25 : Nat) ≠ lel S 19 s := ⟨fun z => by
    rw [← z, t25] at gF
    exact absurd gF (by decide), fun z => by
    rw [← z, t25] at ts
    exact absurd ts (by decide)⟩
  refine l_pd (P := fun S' => TKK S7 S' (lel S 23 f) d (nT m) to (Int32.ofNat vf) (sI m 96 c) 0 (sI m 57 61) (sI m 57 0 + 10)) ?_ (fun S9 tk => ?_)
  · unfold f_K_rotate
    refine p_of (st_gIe q7) (p_of st_pI (p_of (st_gIe now) (p_of st_pI (p_of (st_gRe (v := some (lel S 19 s)) ks) (p_of (st_gIe (v := sI m 57 0) ((ti_sI_ne (by omega)).trans now)) (p_of st_pI (p_of st_rv ?_)))))))
    rw [← e7]
    refine p_bd (p_fht (n := nT m) (d := d) (to := to) (frm := Int32.ofNat vf) (sc := sI m 96 c) (key := sI m 57 61) (now := sI m 57 0) (by unfold K4F; rw [r7]; exact k4) ((o7 (by omega) (by omega)).trans s24) (by rw [r7]; exact d1) (by omega) (by rw [L7]; exact d2) (by rw [N7]; exact n4) (by rw [N7]; exact d3) (by rw [N7]; exact lt t25 (by decide)) (by rw [N7]; exact d4) d5 d4n.symm (by rw [N7]; exact lt gF (by decide)) (fun z => n24.1 z.symm)
      ((o7 (by omega) (by omega)).trans g1) ((o7 (by omega) (by omega)).trans g2) ((o7 (by omega) (by omega)).trans g3) ((o7 (by omega) (by omega)).trans ka2.2.1) ((o7 (by omega) (by omega)).trans nw0)) (fun S' p => p_ret p)
  · have fi : (Int32.ofNat f).toNatClampNeg = f := oc (by omega)
    refine m_of (st_gRe (hmf 48 100 rfl)) (m_of (st_aIe (v := sI m 100 f) fi rfl) (m_of (st_bIe fi) (m_of (st_gRe (v := some 101) (hmf 49 101 rfl)) (m_of (st_gIe (v := sI m 57 0) (ti_sI_ne (by omega))) (m_of (st_bIe fi) (m_of st_rv ?_))))))
    obtain ⟨m2, e2⟩ : ∃ m2, m2 = wI (wI m 100 f (sI m 100 f + 1)) 101 f (sI m 57 0) := ⟨_, rfl⟩
    rw [← e2]
    have r2 : sR m2 = sR m := by rw [e2]; rfl
    have o2 : ∀ {k j : Nat}, ¬ (k = 100 ∧ j = f) → ¬ (k = 101 ∧ j = f) → sI m2 k j = sI m k j := fun z1 z2 => by
      rw [e2, ti_sI_ne z2, ti_sI_ne z1]
    have m100 : sI m2 100 f = sI m 100 f + 1 := by rw [e2, ti_sI_ne (by omega), ti_sI_eq]
    have m101 : sI m2 101 f = sI m 57 0 := by rw [e2, ti_sI_eq]
    have hm2 := MF_e hmf r2
    refine m_pd (p_ftM (m := m2) (f := f) (c := c) (n := nT m) (to := to) (frm := Int32.ofNat vf) (sc := sI m 96 c) hm2 n200 (by omega) c60 ((o2 (by omega) (by omega)).trans zT2) ((o2 (by omega) (by omega)).trans c99) ((o2 (by omega) (by omega)).trans e94) ((o2 (by omega) (by omega)).trans e95) (o2 (by omega) (by omega))) (fun m3 tm => ?_)
    rw [o2 (by omega) (by omega)] at tm
    have hm3 := MF_e hm2 tm.1.1
    have o3 := tm.1.2.2
    refine m_of (st_gRe (hm3 33 87 rfl)) (m_of (st_gRe (hm3 40 93 rfl)) (m_of (st_gRe (hm3 47 99 rfl)) (m_of (st_aIe (v := Int32.ofNat c) fi ((o3 _ _ (by omega) (by omega) (by omega)).trans ((o2 (by omega) (by omega)).trans c99))) (m_of (st_aIe (v := Int32.ofNat s) (oc (by omega)) ((o3 _ _ (by omega) (by omega) (by omega)).trans ((o2 (by omega) (by omega)).trans m93))) (m_of (st_gIe (v := sI m 57 0) ((o3 _ _ (by omega) (by omega) (by omega)).trans (o2 (by omega) (by omega)))) (m_of (st_bIe (oc (by omega))) ?_))))))
    refine m_of (st_gRe (v := some 100) (hm3 48 100 rfl)) (m_of (st_aIe (v := sI m 100 f + 1) fi ((ti_sI_ne (by omega)).trans ((o3 _ _ (by omega) (by omega) (by omega)).trans m100))) ?_)
    have enT : nT m2 = nT m := by
      unfold nT
      rw [o2 (by omega) (by omega)]
    have enF : nF m2 = nF m := by
      unfold nF
      rw [o2 (by omega) (by omega)]
    have enC : nC m2 = nC m := by
      unfold nC
      rw [o2 (by omega) (by omega)]
    have injF : ∀ a c, a < nF m → c < nF m → lel S 23 a = lel S 23 c → a = c := fun a c ha hc e => ST_fi st ha hc e
    have nFs : ∀ q, q < nF m → lel S 23 q ≠ lel S 19 s := fun q hq z => by
      have := tF q hq
      rw [z, ts] at this
      exact absurd this (by decide)
    have nTx : ∀ q, q < nT m → lel S 24 q ≠ lel S 23 f ∧ lel S 24 q ≠ lel S 19 s := fun q hq => ⟨fun z => by
      have := tn q hq
      rw [z, gF] at this
      exact absurd this (by decide), fun z => by
      have := tn q hq
      rw [z, ts] at this
      exact absurd this (by decide)⟩
    have nCf : ∀ q, q < nC m → sI m 98 q = -1 → lel S 22 q ≠ lel S 23 f := fun q hq h98 z => by
      have := (h.Cod.2 q hq).1 c c1 (by rw [z, ec])
      subst this
      rw [h98] at c98
      exact ofNat_ne (by omega) c98
    have tok7 : cTok S7 m2 := by
      refine ⟨⟨?_, ?_, ?_⟩, fun t ht => ?_⟩
      · rw [o2 (by omega) (by omega)]
        exact zT1
      · rw [o2 (by omega) (by omega)]
        exact zT2
      · rw [o2 (by omega) (by omega), o7 (by omega) (by omega)]
        exact zT3
      · rw [enT] at ht
        obtain ⟨y1, y2⟩ := nTx t ht
        have := h.Tok.2 t ht
        rw [enF, el7, r7, o7 (j := 1) (by omega) (by omega), o7 (j := 2) (by omega) (by omega), o7 (j := 3) (by omega) (by omega), o7 (j := 4) (by omega) (by omega), o7 (j := 5) (by omega) (by omega), o7 (j := 6) (by omega) (by omega), o2 (k := 104) (by omega) (by omega), o2 (k := 105) (by omega) (by omega), o2 (k := 106) (by omega) (by omega), o2 (k := 107) (by omega) (by omega), o2 (k := 108) (by omega) (by omega), o2 (k := 109) (by omega) (by omega), o2 (k := 110) (by omega) (by omega)]
        obtain ⟨⟨q, y3, y4, y5⟩, y6⟩ := this
        exact ⟨⟨q, y3, by rw [el7]; exact y4, y5⟩, y6⟩
    have num7 : cNum S7 m2 := fun q hq => by
      rw [enF] at hq
      rw [el7]
      by_cases z : q = f
      · subst z
        rw [s77, s78, m100, m101, o7 (j := 9) (by omega) (by omega), o2 (k := 102) (by omega) (by omega)]
        exact ⟨rfl, fun _ => rfl, q9⟩
      · have y1 : lel S 23 q ≠ lel S 23 f := fun y => z (injF q f hq f1 y)
        have y2 := nFs q hq
        rw [o7 (j := 7) (by omega) (by omega), o7 (j := 8) (by omega) (by omega), o7 (j := 9) (by omega) (by omega), o2 (k := 100) (by omega) (by omega), o2 (k := 101) (by omega) (by omega), o2 (k := 102) (by omega) (by omega)]
        exact h.Num q hq
    have aud7 : cAud S7 m2 := fun q hq v hv => by
      rw [enF] at hq
      have y2 := nFs q hq
      rw [el7, enT, o7 (j := 10) (by omega) (by omega), h.Aud q hq v hv]
      constructor
      · rintro ⟨t, a1, a2, a3⟩
        exact ⟨t, a1, (o2 (by omega) (by omega)).trans a2, (o2 (by omega) (by omega)).trans a3⟩
      · rintro ⟨t, a1, a2, a3⟩
        exact ⟨t, a1, (o2 (by omega) (by omega)).symm.trans a2, (o2 (by omega) (by omega)).symm.trans a3⟩
    have fre7 : cFre S7 m2 := fun q hq h98 => by
      rw [enC] at hq
      rw [o2 (by omega) (by omega)] at h98
      have y1 := nCf q hq h98
      have y2 : lel S 22 q ≠ lel S 19 s := fun z => by
        have := tyC b hq
        rw [z, ts] at this
        exact absurd this (by decide)
      rw [el7, o7 (j := 6) (by omega) (by omega), o7 (j := 7) (by omega) (by omega), o7 (j := 10) (by omega) (by omega), o7 (j := 11) (by omega) (by omega)]
      exact h.Fre q hq h98
    rw [← enT] at tk tm
    have tkk := tk
    obtain ⟨k1, k2, -⟩ := tkk
    have k2S : ∀ k j, k < sN S → ¬ (k = 24 ∧ j = 1) → ¬ (k = d ∧ j = nT m2) → sR S9 k j = sR S k j := fun k j hk z1 z2 => (k2 k j (by rw [N7]; exact hk) z1 z2).trans (by rw [r7])
    have lF : ∀ q, q < nF m → lel S9 23 q = lel S 23 q := fun q hq => lel_othG hT.1 (q := 4) (q0 := 5) (by decide) (by decide) (by decide) d6 k2S (SZ_lt (zF b) (by decide) hq)
    have lC : ∀ q, q < nC m → lel S9 22 q = lel S 22 q := fun q hq => lel_othG hT.1 (q := 3) (q0 := 5) (by decide) (by decide) (by decide) d6 k2S (SZ_lt (zC b) (by decide) hq)
    have lS : ∀ q, q < nS m → lel S9 19 q = lel S 19 q := fun q hq => lel_othG hT.1 (q := 2) (q0 := 5) (by decide) (by decide) (by decide) d6 k2S (SZ_lt (zS b) (by decide) hq)
    obtain ⟨x1, x2, x3, x4⟩ := TK_fin tk tm tok7 num7 aud7 fre7 (by rw [enF]; exact f1) (by rw [enF]; exact f60) (el7 23 f).symm to4 (by rw [enT]; exact n200) (o2 (by omega) (by omega)) ⟨kg, by omega, ka1.2⟩ (by
        rw [Int32.toInt_add, show (10 : Int32).toInt = 10 from by decide, bm (by omega) (by omega)]
        omega) (by
        rw [Int32.toInt_add, show (10 : Int32).toInt = 10 from by decide, bm (by omega) (by omega)]
        omega)
      (fun q hq => by rw [el7]; exact lF q (by rw [← enF]; exact hq)) (fun q hq => by rw [el7]; exact lC q (by rw [← enC]; exact hq))
      (fun q hq => by
        rw [enF] at hq
        rw [el7, N7]
        exact ⟨lt (tF q hq) (by decide), fun z => by
          have := tF q hq
          rw [z, t24] at this
          exact absurd this (by decide)⟩)
      (fun a c ha hc e => by
        rw [enF] at ha hc
        rw [el7, el7] at e
        exact injF a c ha hc e)
      (fun q hq => by
        rw [enT] at hq
        rw [el7, N7]
        exact ⟨lt (tn q hq) (by decide), fun z => by
          have := tn q hq
          rw [z, t24] at this
          exact absurd this (by decide), d6 _ (by rw [tn q hq]; decide) (by rw [tn q hq]; decide) (by rw [tn q hq]; decide), fun a ha z => by
          rw [enF] at ha
          rw [el7] at z
          have := tn q hq
          rw [z, tF a ha] at this
          exact absurd this (by decide)⟩)
      (fun q hq h98 => by
        rw [enC] at hq
        rw [o2 (by omega) (by omega)] at h98
        rw [el7, N7]
        exact ⟨lt (tyC b hq) (by decide), fun z => by
          have := tyC b hq
          rw [z, t24] at this
          exact absurd this (by decide), nCf q hq h98⟩)
    have nT3 : nT m3 = nT m + 1 := by
      unfold nT
      rw [tm.2.2.2.2.2.2.2.2.2, enT]
      exact nn_o (by omega)
    -- the session's use, last in the reference
    have oM : ∀ {k j : Nat}, ¬ (k = 87 ∧ j = s) → sI (wI m3 87 s (sI m 57 0)) k j = sI m3 k j := fun z => ti_sI_ne z
    have w3 : ∀ {k j : Nat}, ¬ (k = 100 ∧ j = f) → ¬ (k = 101 ∧ j = f) → ¬ ((k = 104 ∨ k = 105 ∨ k = 106 ∨ k = 107 ∨ k = 108 ∨ k = 109 ∨ k = 110) ∧ j = nT m2) → ¬ (k = 102 ∧ j = f) → ¬ (k = 57 ∧ j = 52) → sI m3 k j = sI m k j := fun z1 z2 z3 z4 z5 => (o3 _ _ (by rw [← enT]; exact z3) z4 z5).trans (o2 z1 z2)
    have w9 : ∀ {k τ : Nat} (j : Nat), T k = τ → τ ≠ 0 → τ ≠ 25 → ¬ (k = lel S 23 f ∧ (j = 7 ∨ j = 8 ∨ j = 9 ∨ j = 10)) → ¬ (k = lel S 19 s ∧ j = 5) → sI S9 k j = sI S k j := fun {k τ} j hk h0 h25 z1 z2 => (k1 k j (by rw [N7]; exact lt hk h0) (fun z => h25 (by rw [← hk, z.1, t24])) (by omega)).trans (o7 (by omega) (by omega))
    have enF' : nF (wI m3 87 s (sI m 57 0)) = nF m := by
      unfold nF
      rw [oM (by omega), w3 (by omega) (by omega) (by omega) (by omega) (by omega)]
    have enS' : nS (wI m3 87 s (sI m 57 0)) = nS m := by
      unfold nS
      rw [oM (by omega), w3 (by omega) (by omega) (by omega) (by omega) (by omega)]
    refine l_of (st_gIe (v := sI m 100 f + 1) ((k1 _ 7 (by rw [N7]; exact lt gF (by decide)) (by omega) (by omega)).trans s77)) ?_
    refine h2_ret ⟨AN_v ?_, fun q hq => ?_, x4, x2, ⟨fun x hx hx2 v hv => ?_, fun q hq => ?_⟩, x1, x3, ?_⟩
    · exact (oM (by omega)).trans ((w3 (by omega) (by omega) (by omega) (by omega) (by omega)).trans e82)
    · rw [enS'] at hq
      show sI S9 (lel S9 19 q) 5 = sI (wI m3 87 s (sI m 57 0)) 87 q
      rw [lS q hq]
      by_cases z : q = s
      · subst z
        rw [ti_sI_eq, k1 _ 5 (by rw [N7]; exact lt ts (by decide)) (by omega) (by omega), s75]
      · have y : lel S 19 q ≠ lel S 19 s := fun y => z (ses_inj h hq s1 y)
        rw [w9 5 (tyS b hq) (by decide) (by decide) (by omega) (by omega), oM (by omega), w3 (by omega) (by omega) (by omega) (by omega) (by omega)]
        exact h.Usd q hq
    · rw [enF'] at hx
      show sI (wI m3 87 s (sI m 57 0)) 116 (60 * v + x) = 0
      rw [oM (by omega), w3 (by omega) (by omega) (by omega) (by omega) (by omega)]
      exact h.God.1 x hx hx2 v hv
    · rw [enF'] at hq
      obtain ⟨y1, y2, y3⟩ := h.God.2 q hq
      have y4 := nFs q hq
      show sI S9 (lel S9 23 q) 6 = sI (wI m3 87 s (sI m 57 0)) 103 q ∧ (∀ v, v < 4 → (bt (sI S9 (lel S9 23 q) 11) v = true ↔ sI (wI m3 87 s (sI m 57 0)) 116 (60 * v + q) = 1)) ∧ (sI (wI m3 87 s (sI m 57 0)) 103 q ≠ 0 → ∀ v, v < 4 → sI (wI m3 87 s (sI m 57 0)) 116 (60 * v + q) = 0)
      rw [lF q hq, w9 6 (tF q hq) (by decide) (by decide) (by omega) (by omega), w9 11 (tF q hq) (by decide) (by decide) (by omega) (by omega), oM (k := 103) (by omega), w3 (k := 103) (by omega) (by omega) (by omega) (by omega) (by omega)]
      exact ⟨y1, fun v hv => by rw [oM (by omega), w3 (by omega) (by omega) (by omega) (by omega) (by omega)]; exact y2 v hv, fun z v hv => by rw [oM (by omega), w3 (by omega) (by omega) (by omega) (by omega) (by omega)]; exact y3 z v hv⟩
    · unfold cAU
      rw [enS']
      exact AU_cong h.AU (w9 2 t5 (by decide) (by decide) (by omega) (by omega)) (funext fun j => w9 j t6 (by decide) (by decide) (fun z => by
        have := gF
        rw [← z.1, t6] at this
        exact absurd this (by decide)) (fun z => by
        have := ts
        rw [← z.1, t6] at this
        exact absurd this (by decide))) ((oM (by omega)).trans (w3 (by omega) (by omega) (by omega) (by omega) (by omega))) (funext fun j => (oM (by omega)).trans (w3 (by omega) (by omega) (by omega) (by omega) (by omega))) (funext fun j => (oM (by omega)).trans (w3 (by omega) (by omega) (by omega) (by omega) (by omega))) (funext fun j => (oM (by omega)).trans (w3 (by omega) (by omega) (by omega) (by omega) (by omega)))
end
end
section
/-! ===== what the endings leave as it was ===== -/
section
variable {T Tm : Nat → Nat} {S m : AS}
theorem EE_rest (hT : TV T S) (hm : TI Tm m) (h : FR S m) {S' m' : AS} {d : Nat} (he : EE d T S m (nS m) (nF m) S' m') : cUsd S' m' ∧ cNum S' m' ∧ cTok S' m' ∧ cAud S' m' := by
  have b := FR_BB hT hm h
  have r : sR S' = sR S := he.1.1
  have el : ∀ l i, lel S' l i = lel S l i := fun l i => by
    unfold lel
    rw [r]
  have oK : ∀ {k τ : Nat} (j : Nat), T k = τ → τ ≠ 0 → KW τ j = false → sI S' k j = sI S k j := fun j hk h0 hw => KE_ty he.1 hk h0 hw
  have oM : ∀ {p j : Nat}, MW p j = false → sI m' p j = sI m p j := fun q => he.2.1.2.2 _ _ q
  have e1 : nS m' = nS m := by
    unfold nS
    rw [oM (by rfl)]
  have e2 : nF m' = nF m := by
    unfold nF
    rw [oM (by rfl)]
  have e3 : nT m' = nT m := by
    unfold nT
    rw [oM (by rfl)]
  have t24 : T 24 = 25 := (hT.1.t6 5 (by decide)).1
  refine ⟨fun s hs => ?_, fun f hf => ?_, ⟨⟨?_, ?_, ?_⟩, fun t ht => ?_⟩, fun f hf v hv => ?_⟩
  · rw [e1] at hs
    rw [el, oK 5 (tyS b hs) (by decide) (by rfl), oM (by rfl)]
    exact h.Usd s hs
  · rw [e2] at hf
    have t := tyF b hf
    rw [el, oK 7 t (by decide) (by rfl), oK 8 t (by decide) (by rfl), oK 9 t (by decide) (by rfl), oM (p := 100) (by rfl), oM (p := 101) (by rfl), oM (p := 102) (by rfl)]
    exact h.Num f hf
  · rw [oM (by rfl)]
    exact (zT b).1
  · rw [oM (by rfl)]
    exact (zT b).2.1
  · rw [oM (by rfl), oK 2 t24 (by decide) (by rfl)]
    exact (zT b).2.2
  · rw [e3] at ht
    have tt := tyT b ht
    obtain ⟨⟨f, f1, f2, f3⟩, w⟩ := h.Tok.2 t ht
    rw [el, r, e2, oK 1 tt (by decide) (by rfl), oK 2 tt (by decide) (by rfl), oK 3 tt (by decide) (by rfl), oK 4 tt (by decide) (by rfl), oK 5 tt (by decide) (by rfl), oK 6 tt (by decide) (by rfl), oM (p := 104) (by rfl), oM (p := 105) (by rfl), oM (p := 106) (by rfl), oM (p := 107) (by rfl), oM (p := 108) (by rfl), oM (p := 109) (by rfl), oM (p := 110) (by rfl)]
    exact ⟨⟨f, f1, by rw [el]; exact f2, f3⟩, w⟩
  · rw [e2] at hf
    rw [el, e3, oK 10 (tyF b hf) (by decide) (by rfl), h.Aud f hf v hv]
    constructor
    · rintro ⟨t, a1, a2, a3⟩
      exact ⟨t, a1, (oM (by rfl)).trans a2, (oM (by rfl)).trans a3⟩
    · rintro ⟨t, a1, a2, a3⟩
      exact ⟨t, a1, (oM (p := 108) (by rfl)).symm.trans a2, (oM (p := 105) (by rfl)).symm.trans a3⟩
end
end
section
/-! ===== refresh ===== -/
section
variable {T Tm : Nat → Nat} {S m : AS}
theorem ef_go (hT : TV T S) (hm : TI Tm m) (h : FR S m) (e82 : sI m 57 82 = 0) {f : Nat} (f1 : f < nF m) : H2 (f_K_refresh_B104 S (some 4) (some (lel S 23 f))) (f_M_refresh_B227 m (some 57) (Int32.ofNat f)) (fun x y => AN [eX, eA, eS] x.1 y.1 (sI y.2 57 82) ∧ P_ref x.2 y.2) := by
  have b := FR_BB hT hm h
  unfold f_K_refresh_B104 f_M_refresh_B227
  refine l_of st_rv (m_of st_rv ?_)
  have both : H2 (f_K_endFamily S (some 4) (some (lel S 23 f))) (f_M_endFamily m (some 57) (Int32.ofNat f)) (fun a m' => (∃ S', a = (.inl (), S') ∧ EE 0 T S m (nS m) (nF m) S' m' ∧ sI m' 103 f = 0 ∧ (∀ x, x ≠ f → sI m' 103 x = sI m 103 x) ∧ sI m' 89 = sI m 89 ∧ sI S' 4 9 = sI S 4 9) ∧ FK T S a.2) := fun a m' ha hb => ⟨h_eF (ST_of hT hm h) (EE_of h) f1 a m' ha hb, FK_eF (BF_of hT.1) (FK_rf T S) ⟨f, SZ_lt (zF b) (by decide) f1, rfl⟩ a ha⟩
  refine h2_xd both (fun v S' m' p => ?_) (fun v S' m' p => ?_)
  · obtain ⟨⟨S2, e, he, -⟩, fk⟩ := p
    cases e
    have fk : FK T S S' := fk
    obtain ⟨x1, x2, x3, x4⟩ := EE_rest hT hm h he
    obtain ⟨-, y2, y3⟩ := EE_P he
    have oM : ∀ {p j : Nat}, MW p j = false → sI m' p j = sI m p j := fun q => he.2.1.2.2 _ _ q
    have e3 : nC m' = nC m := by
      unfold nC
      rw [oM (by rfl)]
    exact h2_ret ⟨AN_v ((oM (by rfl)).trans e82), x1, Fre_of hT hm h fk e3 (fun c => oM (by rfl)), x2, y2, x3, x4, y3⟩
  · obtain ⟨⟨S2, e, -⟩, -⟩ := p
    cases e
theorem h_refresh (hT : TV T S) (hm : TI Tm m) (h : FR S m) (a c : Int32) : H2 (f_K_refresh S (some 4) a c) (f_M_refresh m (some 57) a c) (fun x y => AN [eX, eA, eS] x.1 y.1 (sI y.2 57 82) ∧ P_ref x.2 y.2) := by
  have b := FR_BB hT hm h
  have hmf := MF_of hm
  have hmf0 := MF_of (TI_t hm 0)
  have k4 := K4F_of hT.1
  have h0 := FR_t hT hm h 0
  have no1 : H2 (some ((Sum.inr eX : Int32 ⊕ String), wX S)) (f_M_refresh_B28 m (some 57) a c 0) (fun x y => AN [eX, eA, eS] x.1 y.1 (sI y.2 57 82) ∧ P_ref x.2 y.2) := by
    unfold f_M_refresh_B28 f_M_refresh_B29 f_M_refresh_B67 f_M_refresh_B68 f_M_refresh_B94 f_M_refresh_B95 f_M_refresh_B116 f_M_refresh_B121
    refine m_of (st_T rfl) (m_of (st_T rfl) (m_of (st_T rfl) (m_of st_rv (m_p2 p_mayA (fun w m' e => ?_)))))
    rw [if_pos rfl] at e
    cases e
    exact m_of (st_T rfl) (h2_ret ⟨AN_e 0 rfl (ti_sI_eq _ _ _ _), FR_ref (FR_X hT (TI_t hm 1) (FR_t hT hm h 1))⟩)
  have no2 : ∀ y, H2 (some ((Sum.inr eA : Int32 ⊕ String), wX S)) (f_M_refresh_B68 m (some 57) a c 1 0 y) (fun x y => AN [eX, eA, eS] x.1 y.1 (sI y.2 57 82) ∧ P_ref x.2 y.2) := fun y => by
    unfold f_M_refresh_B68 f_M_refresh_B94 f_M_refresh_B95 f_M_refresh_B116 f_M_refresh_B121
    refine m_of (st_T rfl) (m_of (st_T rfl) (m_of st_rv (m_p2 p_mayA (fun w m' e => ?_))))
    rw [if_neg one0, if_pos rfl] at e
    cases e
    exact m_of (st_T rfl) (h2_ret ⟨AN_e 1 rfl (ti_sI_eq _ _ _ _), FR_ref (FR_X hT (TI_t hm 2) (FR_t hT hm h 2))⟩)
  have dead : H2 (some ((Sum.inl (-1) : Int32 ⊕ String), S)) (f_M_refresh_B68 m (some 57) a c 1 1 0) (fun x y => AN [eX, eA, eS] x.1 y.1 (sI y.2 57 82) ∧ P_ref x.2 y.2) := by
    unfold f_M_refresh_B68 f_M_refresh_B94 f_M_refresh_B95 f_M_refresh_B116 f_M_refresh_B121
    refine m_of (st_F one0) (m_of (st_T rfl) (m_of (st_T rfl) (m_of st_rv (m_p2 p_mayA (fun w m' e => ?_)))))
    rw [if_neg one0, if_neg one0, if_neg one0] at e
    cases e
    exact m_of (st_F one0) (m_of (st_T rfl) (h2_ret ⟨AN_v (ti_sI_eq _ _ _ _), FR_ref h0⟩))
  unfold f_K_refresh f_M_refresh
  refine l_of st_rv (m_of st_rv (m_p2 (x_MF b a) (fun w S2 p => ?_)))
  refine l_bx (fun v' S' e => ?_) (fun v' S' e => ?_)
  · rcases x_fF b a _ e with ⟨f, f1, ea, e2⟩ | ⟨no, e2⟩
    · cases e2
      rcases p with ⟨-, p2⟩ | ⟨p1, -⟩
      · cases p2
        have f60 : nF m ≤ 60 := (zF b).1
        have ai : a.toNatClampNeg = f := by rw [ea]; exact oc (by omega)
        obtain ⟨q7, q8, q9⟩ := h.Num f f1
        have gd := (h.God.2 f f1).1
        obtain ⟨cc, c1, ec, c99, c98, -⟩ := h.Fam.2 f f1
        obtain ⟨-, ⟨s, s1, ks, m93⟩, -⟩ := h.Cod.2 cc c1
        rw [← ec] at ks
        have c60 : cc < 60 := by
          have := (zC b).1
          unfold nC at c1
          omega
        have s60 : s < 60 := by
          have := (zS b).1
          unfold nS at s1
          omega
        have lv := (h.Liv.1 s s1).1
        refine l_of (st_gIe q7) (l_of (st_b2 (q_win S c 0 _)) (m_of (st_F one0) (m_of (st_gRe (hmf 48 100 rfl)) (m_of (st_aIe (v := sI m 100 f) ai rfl) (m_of (st_b2 (q_isIn m c 0 _)) ?_)))))
        by_cases d0 : 0 ≤ c ∧ c ≤ sI m 100 f
        · rw [if_pos d0]
          refine l_of (st_bx (rA1 S)) (l_of (st_gIe gd) (m_of (st_F one0) ?_))
          unfold f_M_refresh_B29 f_M_refresh_B67
          refine m_of (st_F one0) (m_of (st_gRe (hmf 51 103 rfl)) (m_of (st_aIe (v := sI m 103 f) ai rfl) ?_))
          by_cases d1 : sI m 103 f = 0
          · exact l_of (st_T d1) (m_of (st_T d1) dead)
          · refine l_of (st_F d1) (m_of (st_F d1) (l_of (st_gRe ks) (l_of (st_gIe lv) ?_)))
            refine m_of (st_gRe (hmf 35 89 rfl)) (m_of (st_gRe (hmf 40 93 rfl)) (m_of (st_gRe (hmf 47 99 rfl)) (m_of (st_aIe (v := Int32.ofNat cc) ai c99) (m_of (st_aIe (v := Int32.ofNat s) (oc (by omega)) m93) (m_of (st_aIe (v := sI m 89 s) (oc (by omega)) rfl) ?_)))))
            by_cases d2 : sI m 89 s = 0
            · exact l_of (st_T d2) (m_of (st_T d2) dead)
            · refine l_of (st_F d2) (m_of (st_F d2) (l_of (st_gIe q7) ?_))
              unfold f_M_refresh_B68
              refine m_of (st_F one0) (m_of (st_F one0) (m_of (st_gRe (hmf 48 100 rfl)) (m_of (st_aIe (v := sI m 100 f) ai rfl) ?_)))
              have zT' := zT b
              have n200 : nT m ≤ 200 := zT'.1
              by_cases d3 : c = sI m 100 f
              · refine l_of (st_T d3) (m_of (st_T d3) (l_of (st_gRe (k4.1 14 24 rfl)) (l_of st_rv (l_of st_size ?_))))
                rw [zT'.2.2, show sI m 57 52 = Int32.ofNat (nT m) from zT'.2.1]
                unfold f_M_refresh_B95
                refine m_of (st_F one0) (m_of (st_gIe (v := Int32.ofNat (nT m)) zT'.2.1) ?_)
                by_cases d4 : (200 : Int32) ≤ Int32.ofNat (nT m)
                · refine l_of (st_T d4) (m_of (st_T d4) ?_)
                  unfold f_K_refresh_B63 f_M_refresh_B121
                  refine l_of (st_bxe (rS0 S)) (m_of st_rv (m_p2 p_mayA (fun w m' e => ?_)))
                  rw [if_neg one0, if_neg one0, if_pos rfl] at e
                  cases e
                  exact m_of (st_T rfl) (h2_ret ⟨AN_e 2 rfl (ti_sI_eq _ _ _ _), FR_ref (FR_X hT (TI_t hm 3) (FR_t hT hm h 3))⟩)
                · refine l_of (st_F d4) (m_of (st_F d4) ?_)
                  unfold f_M_refresh_B116 f_M_refresh_B121
                  refine m_of st_rv (m_p2 p_mayA (fun w m' e => ?_))
                  rw [if_neg one0, if_neg one0, if_neg one0] at e
                  cases e
                  have enT : nT (wI m 57 82 0) = nT m := by
                    unfold nT
                    rw [lv0 m (by omega) 0]
                  have enF : nF (wI m 57 82 0) = nF m := by
                    unfold nF
                    rw [lv0 m (by omega) 0]
                  refine m_of (st_F one0) (m_of (st_F one0) (m_of (st_F one0) ?_))
                  rw [ea]
                  exact rot_go hT (TI_t hm 0) h0 (ti_sI_eq _ _ _ _) (by rw [enF]; exact f1) (by rw [enT]; exact Nat.not_le.mp (fun q => d4 ((ole (a := 200) (by decide) (by omega)).mpr q)))
              · refine l_of (st_F d3) (m_of (st_F d3) (l_of (st_gIe q7) ?_))
                unfold f_M_refresh_B94 f_M_refresh_B95 f_M_refresh_B116 f_M_refresh_B121
                refine m_of (st_T rfl) (m_of st_rv (m_p2 p_mayA (fun w m' e => ?_)))
                rw [if_neg one0, if_neg one0, if_neg one0] at e
                cases e
                have enF : nF (wI m 57 82 0) = nF m := by
                  unfold nF
                  rw [lv0 m (by omega) 0]
                have ends := ef_go hT (TI_t hm 0) h0 (ti_sI_eq _ _ _ _) (f := f) (by rw [enF]; exact f1)
                rw [← ea] at ends
                refine m_of (st_F one0) (m_of (st_F one0) (m_of (st_T rfl) (m_of (st_gRe (hmf0 48 100 rfl)) (m_of (st_aIe (v := sI m 100 f) ai (lv0 m (by omega) 0)) ?_))))
                by_cases d5 : c = sI m 100 f - 1
                · refine l_of (st_T d5) (m_of (st_T d5) (l_of (st_gIe h.NW.1) ?_))
                  have ne : sI m 100 f ≠ 0 := fun z => by
                    rw [z] at d5
                    rw [d5] at d0
                    exact absurd d0.1 (by decide)
                  refine l_of (st_gIe (q8 ne)) (m_of (st_gIe (v := sI m 57 0) (lv0 m (by omega) 0)) (m_of (st_gRe (hmf0 49 101 rfl)) (m_of (st_aIe (v := sI m 101 f) ai (lv0 m (by omega) 0)) ?_)))
                  by_cases d6 : (1 : Int32) < sI m 57 0 - sI m 101 f
                  · exact l_of (st_T d6) (m_of (st_T d6) ends)
                  · exact l_of (st_F d6) (m_of (st_F d6) (l_of (st_gIe q7) (m_of (st_gRe (hmf0 48 100 rfl)) (m_of (st_aIe (v := sI m 100 f) ai (lv0 m (by omega) 0)) (h2_ret ⟨AN_v (ti_sI_eq _ _ _ _), FR_ref h0⟩)))))
                · exact l_of (st_F d5) (m_of (st_F d5) ends)
        · rw [if_neg d0]
          refine l_of (st_bxe (rA0 S)) (m_of (st_T rfl) ?_)
          unfold f_M_refresh_B28 f_M_refresh_B29 f_M_refresh_B67
          refine m_of (st_F one0) (m_of (st_gRe (hmf 51 103 rfl)) (m_of st_aI (m_if (fun _ => no2 0) (fun _ => ?_))))
          exact m_of (st_gRe (hmf 35 89 rfl)) (m_of (st_gRe (hmf 40 93 rfl)) (m_of (st_gRe (hmf 47 99 rfl)) (m_of st_aI (m_of st_aI (m_of st_aI (m_if (fun _ => no2 0) (fun _ => no2 1)))))))
      · exact absurd ⟨f, f1, ea⟩ p1
    · cases e2
  · rcases x_fF b a _ e with ⟨f, f1, ea, e2⟩ | ⟨no, e2⟩
    · cases e2
    · cases e2
      rcases p with ⟨p1, -⟩ | ⟨-, p2⟩
      · exact absurd p1 no
      · cases p2
        exact m_of (st_T rfl) no1
end
end
section
/-! ===== an element at a list's end: lengths; an entry: no new place ===== -/
theorem p_and {α : Type} {x : Option α} {P Q : α → Prop} (h : Hp x P) (g : Hp x Q) : Hp x (fun a => P a ∧ Q a) := fun a ha => ⟨h a ha, g a ha⟩
theorem sN_wI (S : AS) (k j : Nat) (v : Int32) : sN (wI S k j v) = sN S := rfl
theorem sL_wI (S : AS) (k j : Nat) (v : Int32) : sL (wI S k j v) = sL S := rfl
theorem bR_len {S S' : AS} {κ lo hi k a : Nat} {i : Int32} (h : bR S κ lo hi (some k) i (some a) = some S') : i.toInt < (sL S k : Int) := by
  unfold bR at h
  rw [Option.bind_some, Option.bind_some] at h
  by_cases c : sK S k = κ ∧ (0 ≤ i.toInt ∧ i.toInt < (sL S k : Int)) ∧ (lo ≤ sK S a ∧ sK S a ≤ hi)
  · exact c.2.1.2
  · rw [if_neg c] at h
    cases h
def AGR (S S' : AS) (l d n : Nat) : Prop := sN S ≤ sN S' ∧ (∀ k, k < sN S → sL S' k = sL S k) ∧ ∃ d', sR S' l 1 = some d' ∧ ((d' = d ∧ n < sL S d) ∨ sN S ≤ d') ∧ d' < sN S'
theorem p_addL {S : AS} {l d x n : Nat} (hr : sR S l 1 = some d) (hs : sI S l 2 = Int32.ofNat n) (hn : n < 201) (hL : sL S d ≤ 400) (hd : d < sN S) (hl : l < sN S) (hne : d ≠ l) : Hp (f_AL_add1 S (some l) (some x)) (fun q => AGR S q.2 l d n) := by
  unfold f_AL_add1
  refine p_of st_gI (p_of st_pI (p_of (st_gRe (v := some d) hr) (p_of (st_gIe (v := Int32.ofNat n) ((ti_sI_ne (by omega)).trans hs)) (p_of st_rv ?_))))
  refine p_bd (P := fun S' => AGR S S' l d n) ?_ (fun S' p => p_ret p)
  obtain ⟨S2, e2⟩ : ∃ S2, S2 = wI S l 0 (sI S l 0 + 1) := ⟨_, rfl⟩
  rw [← e2]
  have rS : sR S2 = sR S := by rw [e2, sR_wI]
  have nS : sN S2 = sN S := by
    rw [e2]
    rfl
  have lS : sL S2 = sL S := by
    rw [e2]
    rfl
  have s2 : sI S2 l 2 = Int32.ofNat n := by
    rw [e2]
    exact (ti_sI_ne (by omega)).trans hs
  unfold f_AL_add2
  refine p_of st_aN ?_
  rw [lS]
  refine p_if (fun c => ?_) (fun c => ?_)
  · have eL : sL S2 d = n := by
      rw [lS]
      have := congrArg Int32.toInt c
      rw [oi4 (by omega), oi4 (by omega)] at this
      omega
    refine p_of st_rv (p_b2 (p_grow (S := S2) (by rw [rS]; exact hr) s2 hn eL (by rw [nS]; exact hd)) (fun v S3 p => ?_))
    obtain ⟨m, p1, p2⟩ := p
    have p1 : v = some (sN S2) := p1
    rw [p1]
    unfold f_AL_add2_B11
    refine p_of st_bR (p_of st_pI (p_ret ?_))
    have N3 : sN S3 = sN S + 1 := by
      rcases p2 with p2 | ⟨-, p2⟩
      · have p2 : S3 = _ := p2
        rw [p2, ← nS]
        rfl
      · have p2 : S3 = _ := p2
        rw [p2, ← nS]
        rfl
    have r1 : sR S3 l 1 = some (sN S2) := by
      rcases p2 with p2 | ⟨-, p2⟩
      · have p2 : S3 = _ := p2
        rw [p2, ti_sR_eq]
      · have p2 : S3 = _ := p2
        rw [p2, ti_sR_eq]
    refine ⟨?_, fun k hk => ?_, sN S2, ?_, Or.inr (Nat.le_of_eq nS.symm), ?_⟩
    · show sN S ≤ sN S3
      rw [N3]
      omega
    · show sL S3 k = _
      rcases p2 with p2 | ⟨-, p2⟩
      · have p2 : S3 = _ := p2
        rw [p2]
        show sL (wN S2 43 m m) k = _
        rw [(ti_wN (by omega)).2.1, lS]
      · have p2 : S3 = _ := p2
        rw [p2]
        show sL (wN S2 43 m m) k = _
        rw [(ti_wN (by omega)).2.1, lS]
    · rw [sR_wI, ti_sR_ne (by omega)]
      exact r1
    · show sN S2 < sN S3
      rw [N3, nS]
      omega
  · unfold f_AL_add2_B11
    intro S' hS
    cases e : bR S2 43 10 23 (some d) (Int32.ofNat n) (some x) with
    | none =>
      rw [e] at hS
      cases hS
    | some S3 =>
      have bl := bR_len e
      rw [lS, oi (by omega)] at bl
      refine p_of (st_bR (F := fun S1 => (pI S1 10 2 (some l) (Int32.ofNat n + 1)).bind fun S2 => some S2)) (p_of st_pI (p_ret (Q := fun S' => AGR S S' l d n) ?_)) S' hS
      refine ⟨Nat.le_of_eq nS.symm, fun k _ => ?_, d, ?_, Or.inl ⟨rfl, by omega⟩, ?_⟩
      · show sL S2 k = _
        rw [lS]
      · rw [sR_wI, ti_sR_ne (by omega), rS]
        exact hr
      · show d < sN S2
        rw [nS]
        exact hd
theorem p_awN {S : AS} {k nu mi : Int32} (h0 : sR S 5 0 = some 6) (h1 : sR S 5 1 = some 7) : Hp (f_Audit_write S (some 5) k nu mi) (fun S' => sN S' = sN S) := by
  unfold f_Audit_write
  refine p_of st_gI (p_if (fun c => p_ret rfl) (fun c => p_of st_gI (p_if (fun c2 => ?_) (fun c2 => p_ret rfl))))
  refine p_of (st_gRe h0) (p_of st_gI (p_of st_bI ?_))
  refine p_of (st_gRe h1) (p_of st_gI (p_of st_bI ?_))
  refine p_of st_gI (p_of st_gI (p_of st_rv ?_))
  refine p_b2 p_tw (fun v S' e => ?_)
  have e : S' = _ := e
  rw [e]
  exact p_of st_pI (p_of st_gI (p_of st_pI (p_ret rfl)))
end
section
/-! ===== a code becomes a family: the class ===== -/
theorem m_bZ {α β : Type} {S : AS} {k : Nat} {i v : Int32} {F : AS → Option β} {x : Option α} {Q : α → β → Prop} (h : 0 ≤ i.toInt → i.toInt < (sL S k : Int) → H2 x (F (wI S k i.toNatClampNeg v)) Q) : H2 x ((bZ S (some k) i v).bind F) Q := fun a b ha hb => by
  obtain ⟨c, e⟩ := bind_cut hb
  exact h c.2.1.1 c.2.1.2 a b ha e
theorem lrow {T : Nat → Nat} {S : AS} (hT : TI T S) {q i : Nat} (hq : q < 7) (hi : (i : Int) < (sI S (lp q) 2).toInt) : ∃ e, sR S (lp q) 1 = some e ∧ T e = 30 + q := by
  obtain ⟨l1, e, l2, l3, l4, l5, l6⟩ := hT.t6 q hq
  refine ⟨e, l2, ?_⟩
  rcases l3 with l3 | l3
  · exact l3
  · rw [l3, hT.t8.2.2.2.2.2.1] at l4
    omega
def P_red (S m : AS) : Prop := cCod S m ∧ cFre S m ∧ cFam S m ∧ cNum S m ∧ cGod S m ∧ cTok S m ∧ cAud S m ∧ cAU S m
theorem FR_red {S m : AS} (h : FR S m) : P_red S m := ⟨h.Cod, h.Fre, h.Fam, h.Num, h.God, h.Tok, h.Aud, h.AU⟩
/-- what making a family leaves in the class, the token not yet there -/
def MFK (S S' : AS) (g d nf : Nat) : Prop :=
  (sN S ≤ sN S' ∧ (∀ k, k < sN S → sL S' k = sL S k) ∧ ∃ d', sR S' 23 1 = some d' ∧ ((d' = d ∧ nf < sL S d) ∨ sN S ≤ d') ∧ d' < sN S') ∧
  (∀ k j, k < sN S → ¬ (k = 23 ∧ (j = 0 ∨ j = 2)) → ¬ (k = g ∧ (j = 5 ∨ j = 6)) → k ≠ 5 → k ≠ 6 → k ≠ 7 → sI S' k j = sI S k j) ∧
  (∀ k j, k < sN S → ¬ (k = 23 ∧ j = 1) → ¬ (k = d ∧ j = nf) → sR S' k j = sR S k j) ∧
  (sI S' g 5 = Int32.ofNat nf ∧ sI S' g 6 = 1 ∧ sI S' 23 2 = Int32.ofNat (nf + 1)) ∧
  ((∀ i, i < nf → lel S' 23 i = lel S 23 i) ∧ lel S' 23 nf = g) ∧
  ∃ Sa, sI Sa 5 2 = sI S 5 2 ∧ sI Sa 6 = sI S 6 ∧ AWK Sa S' (Int32.ofNat 2) (Int32.ofNat nf)
theorem p_mf {S : AS} {g d nf d2 nt to : Nat} {frm sc key now : Int32} (k4 : K4F S) (n4 : 4 < sN S) (n5 : 5 < sN S) (n25 : 25 < sN S) (n23 : 23 < sN S) (n24 : 24 < sN S) (hg : g < sN S) (g4 : g ≠ 4) (gA : g ≠ 5 ∧ g ≠ 6 ∧ g ≠ 7) (g23 : g ≠ 23) (g24 : g ≠ 24) (g25 : g ≠ 25)
    (hs : sI S 23 2 = Int32.ofNat nf) (hr : sR S 23 1 = some d) (hn : nf < 201) (hL : sL S d ≤ 400) (hd : d < sN S) (dn : d ≠ 23 ∧ d ≠ 4 ∧ d ≠ 5 ∧ d ≠ 24 ∧ d ≠ 25)
    (hs2 : sI S 24 2 = Int32.ofNat nt) (hr2 : sR S 24 1 = some d2) (hn2 : nt < 201) (hL2 : sL S d2 ≤ 400) (hd2 : d2 < sN S) (dn2 : d2 ≠ 24 ∧ d2 ≠ 4)
    (e1 : sI S g 1 = frm) (e2 : sI S g 2 = Int32.ofNat to) (e3 : sI S g 3 = sc) (ek : sI S 25 1 = key) (en : sI S 4 0 = now) :
    Hp (f_K_makeFamily S (some 4) (some g)) (fun S' => ∃ S1, MFK S S1 g d nf ∧ TKK S1 S' g d2 nt to frm sc 0 key (now + 10)) := by
  have r4 := k4.1 13 23 rfl
  unfold f_K_makeFamily
  refine p_of (st_gRe r4) (p_of st_rv (p_of st_size ?_))
  rw [hs]
  refine p_of st_pI (p_of st_pZ ?_)
  obtain ⟨S6, e6⟩ : ∃ S6, S6 = wI (wI S g 5 (Int32.ofNat nf)) g 6 1 := ⟨_, rfl⟩
  rw [← e6]
  have r6 : sR S6 = sR S := by rw [e6, sR_wI, sR_wI]
  have N6 : sN S6 = sN S := by rw [e6]; rfl
  have L6 : sL S6 = sL S := by rw [e6]; rfl
  have o6 : ∀ {k j : Nat}, ¬ (k = g ∧ (j = 5 ∨ j = 6)) → sI S6 k j = sI S k j := fun z => by
    rw [e6, ti_sI_ne (by omega), ti_sI_ne (by omega)]
  have g65 : sI S6 g 5 = Int32.ofNat nf := by rw [e6, ti_sI_ne (by omega), ti_sI_eq]
  have g66 : sI S6 g 6 = 1 := by rw [e6, ti_sI_eq]
  refine p_of (st_gRe (v := some 23) (by rw [r6]; exact r4)) (p_of st_rv (p_b2 (p_and (p_add (S := S6) (l := 23) (d := d) (x := g) (n := nf) (by rw [r6]; exact hr) ((o6 (by omega)).trans hs) hn (by rw [L6]; exact hL) (by rw [N6]; exact n23) (by rw [N6]; exact hd) dn.1) (p_addL (S := S6) (l := 23) (d := d) (x := g) (n := nf) (by rw [r6]; exact hr) ((o6 (by omega)).trans hs) hn (by rw [L6]; exact hL) (by rw [N6]; exact hd) (by rw [N6]; exact n23) dn.1)) (fun v S9 p => ?_)))
  obtain ⟨⟨p1, p2, p3, p4, p5⟩, q1, q2, d', q3, q4, q5⟩ := p
  have q1 : sN S6 ≤ sN S9 := q1
  have q2 : ∀ k, k < sN S6 → sL S9 k = sL S6 k := q2
  have q3 : sR S9 23 1 = some d' := q3
  have q5 : d' < sN S9 := q5
  have p2 : sI S9 23 2 = Int32.ofNat (nf + 1) := p2
  rw [N6] at q1 q2 q4
  rw [L6] at q2 q4
  have I9 : ∀ k j, k < sN S → ¬ (k = 23 ∧ (j = 0 ∨ j = 2)) → sI S9 k j = sI S6 k j := fun k j hk z => p1 k j (by rw [N6]; exact hk) z
  have R9 : ∀ k j, k < sN S → ¬ (k = 23 ∧ j = 1) → ¬ (k = d ∧ j = nf) → sR S9 k j = sR S k j := fun k j hk z1 z2 => (p3 k j (by rw [N6]; exact hk) z1 z2).trans (by rw [r6])
  refine p_of (st_gRe (v := some 5) ((R9 4 1 n4 (by omega) (by omega)).trans (k4.1 1 5 rfl))) (p_of (st_gIe (v := Int32.ofNat nf) ((I9 g 5 hg (by omega)).trans g65)) (p_of st_gI (p_of st_rv ?_)))
  have h50 : sR S9 5 0 = some 6 := (R9 5 0 n5 (by omega) (by omega)).trans k4.2.1
  have h51 : sR S9 5 1 = some 7 := (R9 5 1 n5 (by omega) (by omega)).trans k4.2.2.1
  refine p_bd (p_and (p_aw (k := Int32.ofNat 2) h50 h51) (p_awN h50 h51)) (fun S15 p => p_of st_rv ?_)
  obtain ⟨a, N15⟩ := p
  have N15 : sN S15 = sN S9 := N15
  have r15 : sR S15 = sR S9 := a.1.1
  have l15 : sL S15 = sL S9 := a.1.2.1
  have a' := a.1.2.2
  have I15 : ∀ k j, k < sN S → ¬ (k = 23 ∧ (j = 0 ∨ j = 2)) → ¬ (k = g ∧ (j = 5 ∨ j = 6)) → k ≠ 5 → k ≠ 6 → k ≠ 7 → sI S15 k j = sI S k j := fun k j hk z1 z2 z5 z6 z7 => (a' k j z5 z6 z7).trans ((I9 k j hk z1).trans (o6 z2))
  have R15 : ∀ k j, k < sN S → ¬ (k = 23 ∧ j = 1) → ¬ (k = d ∧ j = nf) → sR S15 k j = sR S k j := fun k j hk z1 z2 => by
    rw [r15]
    exact R9 k j hk z1 z2
  have mf : MFK S S15 g d nf := by
    refine ⟨⟨by rw [N15]; exact q1, fun k hk => by rw [l15]; exact q2 k hk, d', by rw [r15]; exact q3, q4, by rw [N15]; exact q5⟩, I15, R15, ⟨?_, ?_, ?_⟩, ⟨fun i hi => ?_, ?_⟩, S9, ?_, funext fun j => ?_, a⟩
    · rw [a' _ _ gA.1 gA.2.1 gA.2.2, I9 g 5 hg (by omega)]
      exact g65
    · rw [a' _ _ gA.1 gA.2.1 gA.2.2, I9 g 6 hg (by omega)]
      exact g66
    · rw [a' _ _ (by omega) (by omega) (by omega)]
      exact p2
    · have e : sR S9 ((sR S9 23 1).getD 0) i = sR S6 d i := p4 i hi
      unfold lel
      rw [r15, e, r6, hr]
      rfl
    · have e : sR S9 ((sR S9 23 1).getD 0) nf = some g := p5
      unfold lel
      rw [r15, e]
      rfl
    · rw [I9 5 2 n5 (by omega)]
      exact o6 (by omega)
    · rw [I9 6 j (by omega) (by omega)]
      exact o6 (by omega)
  have k15 : K4F S15 := by
    refine ⟨fun j p q => ?_, ?_, ?_, ?_⟩
    · rw [R15 4 j n4 (by omega) (by omega)]
      exact k4.1 j p q
    · rw [R15 5 0 n5 (by omega) (by omega)]
      exact k4.2.1
    · rw [R15 5 1 n5 (by omega) (by omega)]
      exact k4.2.2.1
    · rw [R15 25 5 n25 (by omega) (by omega)]
      exact k4.2.2.2
  have le : sN S ≤ sN S15 := by
    rw [N15]
    exact q1
  refine p_bd (p_fht (S := S15) (g := g) (d := d2) (n := nt) (to := to) (frm := frm) (sc := sc) (key := key) (now := now) k15 ((I15 24 2 n24 (by omega) (by omega) (by omega) (by omega) (by omega)).trans hs2) ((R15 24 1 n24 (by omega) (by omega)).trans hr2) hn2 (by rw [l15, q2 d2 hd2]; exact hL2) (by omega) (by omega) (by omega) (by omega) dn2.1 dn2.2 (by omega) g24
    ((I15 g 1 hg (by omega) (by omega) gA.1 gA.2.1 gA.2.2).trans e1) ((I15 g 2 hg (by omega) (by omega) gA.1 gA.2.1 gA.2.2).trans e2) ((I15 g 3 hg (by omega) (by omega) gA.1 gA.2.1 gA.2.2).trans e3) ((I15 25 1 n25 (by omega) (by omega) (by omega) (by omega) (by omega)).trans ek) ((I15 4 0 n4 (by omega) (by omega) (by omega) (by omega) (by omega)).trans en)) (fun S17 p => p_ret ⟨S15, mf, p⟩)
/-- and the reference -/
def MFM (m m' : AS) (c nf : Nat) : Prop :=
  (sR m' = sR m ∧ sL m' = sL m ∧ ∀ q j, ¬ ((q = 99 ∨ q = 100 ∨ q = 101 ∨ q = 103) ∧ j = nf) → ¬ (q = 98 ∧ j = c) → ¬ (q = 57 ∧ (j = 46 ∨ j = 77 ∨ j = 81)) → q ≠ 123 → q ≠ 124 → q ≠ 125 → sI m' q j = sI m q j) ∧
  (sI m' 99 nf = Int32.ofNat c ∧ sI m' 100 nf = 0 ∧ sI m' 103 nf = 1 ∧ sI m' 98 c = Int32.ofNat nf ∧ sI m' 57 46 = Int32.ofNat (nf + 1)) ∧
  ∃ ma, sI ma 57 77 = sI m 57 77 ∧ sI ma 123 = sI m 123 ∧ sI ma 124 = sI m 124 ∧ sL ma = sL m ∧ AWM ma m' (Int32.ofNat 2) (Int32.ofNat nf)
theorem m_mf {m : AS} {c nf nt to : Nat} {frm sc : Int32} {β : Type} {x : Option β} {Q : β → Int32 × AS → Prop} (hmf : MF m) (hc : c < 60) (l99 : sL m 99 = 60) (h46 : sI m 57 46 = Int32.ofNat nf) (hn : nf < 201) (nt200 : nt < 200) (h52 : sI m 57 52 = Int32.ofNat nt) (e94 : sI m 94 c = frm) (e95 : sI m 95 c = Int32.ofNat to) (e96 : sI m 96 c = sc)
    (H : nf < 60 → ∀ m1 m2, MFM m m1 c nf → TKM m1 m2 nf nt to frm sc 0 (sI m 57 0 + 10) → H2 x (some (Int32.ofNat nf, m2)) Q) :
    H2 x ((gI m 23 46 (some 57)).bind fun v10 => (gR m 23 47 (some 57)).bind fun v11 => (bI m v11 v10 (Int32.ofNat c)).bind fun S12 => (gR S12 23 48 (some 57)).bind fun v13 => (bI S12 v13 v10 (0 : Int32)).bind fun S14 => (gR S14 23 49 (some 57)).bind fun v15 => (gI S14 23 0 (some 57)).bind fun v16 => (bI S14 v15 v10 v16).bind fun S17 => (gR S17 23 51 (some 57)).bind fun v18 => (bZ S17 v18 v10 (1 : Int32)).bind fun S19 => (gR S19 23 45 (some 57)).bind fun v20 => (bI S19 v20 (Int32.ofNat c) v10).bind fun S21 => (gI S21 23 46 (some 57)).bind fun v22 => (pI S21 23 46 (some 57) (v22 + (1 : Int32))).bind fun S23 => (kr_rv S23 23 (some 57)).bind fun u24 => (f_M_write S23 (some 57) (2 : Int32) v10).bind fun S25 => (kr_rv S25 23 (some 57)).bind fun u26 => (f_M_firstToken S25 (some 57) v10).bind fun S27 => some (v10, S27)) Q := by
  have on : (Int32.ofNat nf).toNatClampNeg = nf := oc (by omega)
  refine m_of (st_gIe h46) (m_of (st_gRe (hmf 47 99 rfl)) (m_bI (fun _ b1 => ?_)))
  rw [l99, oi (by omega)] at b1
  have n60 : nf < 60 := by omega
  rw [on]
  refine m_of (st_gRe (v := some 100) (hmf 48 100 rfl)) (m_of (st_bIe on) (m_of (st_gRe (v := some 101) (hmf 49 101 rfl)) (m_of (st_gIe (v := sI m 57 0) ((ti_sI_ne (by omega)).trans (ti_sI_ne (by omega)))) (m_of (st_bIe on) ?_))))
  refine m_of (st_gRe (v := some 103) (hmf 51 103 rfl)) (m_of (st_bZe on) (m_of (st_gRe (v := some 98) (hmf 45 98 rfl)) (m_of (st_bIe (oc (by omega))) ?_)))
  obtain ⟨m0, e0⟩ : ∃ m0, m0 = wI (wI (wI (wI (wI m 99 nf (Int32.ofNat c)) 100 nf 0) 101 nf (sI m 57 0)) 103 nf 1) 98 c (Int32.ofNat nf) := ⟨_, rfl⟩
  rw [← e0]
  have r0 : sR m0 = sR m := by rw [e0]; rfl
  have l0 : sL m0 = sL m := by rw [e0]; rfl
  have o0 : ∀ q j, ¬ ((q = 99 ∨ q = 100 ∨ q = 101 ∨ q = 103) ∧ j = nf) → ¬ (q = 98 ∧ j = c) → sI m0 q j = sI m q j := fun q j z1 z2 => by
    rw [e0, ti_sI_ne (by omega), ti_sI_ne (by omega), ti_sI_ne (by omega), ti_sI_ne (by omega), ti_sI_ne (by omega)]
  refine m_of (st_gIe (v := Int32.ofNat nf) ((o0 _ _ (by omega) (by omega)).trans h46)) (m_of st_pI (m_of st_rv ?_))
  refine m_pd (p_mw (m := wI m0 57 46 (Int32.ofNat nf + 1)) (k := Int32.ofNat 2) (nu := Int32.ofNat nf) (MF_e hmf r0)) (fun m1 b => m_of st_rv ?_)
  have b' := b.1.2.2
  have o1' : ∀ q j, ¬ ((q = 99 ∨ q = 100 ∨ q = 101 ∨ q = 103) ∧ j = nf) → ¬ (q = 98 ∧ j = c) → ¬ (q = 57 ∧ (j = 46 ∨ j = 77 ∨ j = 81)) → q ≠ 123 → q ≠ 124 → q ≠ 125 → sI m1 q j = sI m q j := fun q j z1 z2 z3 z4 z5 z6 => by
    rw [b' q j z4 z5 z6 (by omega), ti_sI_ne (by omega), o0 q j z1 z2]
  have y99 : sI m1 99 nf = Int32.ofNat c := by
    rw [b' _ _ (by omega) (by omega) (by omega) (by omega), ti_sI_ne (by omega), e0, ti_sI_ne (by omega), ti_sI_ne (by omega), ti_sI_ne (by omega), ti_sI_ne (by omega), ti_sI_eq]
  have mm : MFM m m1 c nf := by
    refine ⟨⟨b.1.1.trans r0, b.1.2.1.trans l0, o1'⟩, ⟨y99, ?_, ?_, ?_, ?_⟩, wI m0 57 46 (Int32.ofNat nf + 1), ?_, funext fun j => ?_, funext fun j => ?_, l0, b⟩
    · rw [b' _ _ (by omega) (by omega) (by omega) (by omega), ti_sI_ne (by omega), e0, ti_sI_ne (by omega), ti_sI_ne (by omega), ti_sI_ne (by omega), ti_sI_eq]
    · rw [b' _ _ (by omega) (by omega) (by omega) (by omega), ti_sI_ne (by omega), e0, ti_sI_ne (by omega), ti_sI_eq]
    · rw [b' _ _ (by omega) (by omega) (by omega) (by omega), ti_sI_ne (by omega), e0, ti_sI_eq]
    · rw [b' _ _ (by omega) (by omega) (by omega) (by omega), ti_sI_eq, o1]
    · exact (ti_sI_ne (by omega)).trans (o0 _ _ (by omega) (by omega))
    · exact (ti_sI_ne (by omega)).trans (o0 _ _ (by omega) (by omega))
    · exact (ti_sI_ne (by omega)).trans (o0 _ _ (by omega) (by omega))
  refine m_pd (p_ftM (m := m1) (f := nf) (c := c) (n := nt) (to := to) (frm := frm) (sc := sc) (MF_e hmf (b.1.1.trans r0)) nt200 n60 hc ((o1' _ _ (by omega) (by omega) (by omega) (by omega) (by omega) (by omega)).trans h52) y99 ((o1' _ _ (by omega) (by omega) (by omega) (by omega) (by omega) (by omega)).trans e94) ((o1' _ _ (by omega) (by omega) (by omega) (by omega) (by omega) (by omega)).trans e95) ((o1' _ _ (by omega) (by omega) (by omega) (by omega) (by omega) (by omega)).trans e96)) (fun m2 tm => ?_)
  rw [o1' 57 0 (by omega) (by omega) (by omega) (by omega) (by omega) (by omega)] at tm
  exact H n60 m1 m2 mm tm
end
section
/-! ===== redeem ===== -/
section
variable {T Tm : Nat → Nat} {S m : AS}
theorem EE_rest2 (hT : TV T S) (hm : TI Tm m) (h : FR S m) {S' m' : AS} {d : Nat} (he : EE d T S m (nS m) (nF m) S' m') : cCod S' m' ∧ cFam S' m' := by
  have b := FR_BB hT hm h
  have r : sR S' = sR S := he.1.1
  have el : ∀ l i, lel S' l i = lel S l i := fun l i => by
    unfold lel
    rw [r]
  have oK : ∀ {k τ : Nat} (j : Nat), T k = τ → τ ≠ 0 → KW τ j = false → sI S' k j = sI S k j := fun j hk h0 hw => KE_ty he.1 hk h0 hw
  have oM : ∀ {p j : Nat}, MW p j = false → sI m' p j = sI m p j := fun q => he.2.1.2.2 _ _ q
  have e1 : nS m' = nS m := by
    unfold nS
    rw [oM (by rfl)]
  have e2 : nF m' = nF m := by
    unfold nF
    rw [oM (by rfl)]
  have e3 : nC m' = nC m := by
    unfold nC
    rw [oM (by rfl)]
  have t22 : T 22 = 23 := (hT.1.t6 3 (by decide)).1
  have t23 : T 23 = 24 := (hT.1.t6 4 (by decide)).1
  refine ⟨⟨⟨?_, ?_, ?_⟩, fun c hc => ?_⟩, ⟨⟨?_, ?_, ?_⟩, fun f hf => ?_⟩⟩
  · rw [oM (by rfl)]
    exact (zC b).1
  · rw [oM (by rfl)]
    exact (zC b).2.1
  · rw [oM (by rfl), oK 2 t22 (by decide) (by rfl)]
    exact (zC b).2.2
  · rw [e3] at hc
    have tc := tyC b hc
    obtain ⟨w1, ⟨s, w2, w3, w4⟩, w⟩ := h.Cod.2 c hc
    rw [e3, e1, e2, el, r, oK 1 tc (by decide) (by rfl), oK 2 tc (by decide) (by rfl), oK 3 tc (by decide) (by rfl), oK 4 tc (by decide) (by rfl), oK 5 tc (by decide) (by rfl), oM (p := 93) (by rfl), oM (p := 94) (by rfl), oM (p := 95) (by rfl), oM (p := 96) (by rfl), oM (p := 97) (by rfl), oM (p := 98) (by rfl)]
    exact ⟨fun x hx e => w1 x hx (by rw [← el]; exact e), ⟨s, w2, by rw [el]; exact w3, w4⟩, w⟩
  · rw [oM (by rfl)]
    exact (zF b).1
  · rw [oM (by rfl)]
    exact (zF b).2.1
  · rw [oM (by rfl), oK 2 t23 (by decide) (by rfl)]
    exact (zF b).2.2
  · rw [e2] at hf
    obtain ⟨c, c1, c2, c3, c4, c5⟩ := h.Fam.2 f hf
    exact ⟨c, by rw [e3]; exact c1, by rw [el, el]; exact c2, (oM (by rfl)).trans c3, (oM (by rfl)).trans c4, fun x hx e => c5 x (by rw [← e3]; exact hx) ((oM (p := 98) (by rfl)).symm.trans e)⟩
theorem ef_red (hT : TV T S) (hm : TI Tm m) (h : FR S m) (e82 : sI m 57 82 = 0) {f : Nat} (f1 : f < nF m) : H2 (kr_bx (f_K_endFamily S (some 4) (some (lel S 23 f))) fun z28 S27 => some (.inl (-1 : Int32), S27)) ((f_M_endFamily m (some 57) (Int32.ofNat f)).bind fun S9 => some ((-1 : Int32), S9)) (fun x y => AN [eX, eS] x.1 y.1 (sI y.2 57 82) ∧ P_red x.2 y.2) := by
  have both : H2 (f_K_endFamily S (some 4) (some (lel S 23 f))) (f_M_endFamily m (some 57) (Int32.ofNat f)) (fun a m' => (∃ S', a = (.inl (), S') ∧ EE 0 T S m (nS m) (nF m) S' m' ∧ sI m' 103 f = 0 ∧ (∀ x, x ≠ f → sI m' 103 x = sI m 103 x) ∧ sI m' 89 = sI m 89 ∧ sI S' 4 9 = sI S 4 9) ∧ FK T S a.2) := fun a m' ha hb => ⟨h_eF (ST_of hT hm h) (EE_of h) f1 a m' ha hb, FK_eF (BF_of hT.1) (FK_rf T S) ⟨f, SZ_lt (zF (FR_BB hT hm h)) (by decide) f1, rfl⟩ a ha⟩
  refine h2_xd both (fun v S' m' p => ?_) (fun v S' m' p => ?_)
  · obtain ⟨⟨S2, e, he, -⟩, fk⟩ := p
    cases e
    have fk : FK T S S' := fk
    obtain ⟨x1, x2, x3, x4⟩ := EE_rest hT hm h he
    obtain ⟨u1, u2⟩ := EE_rest2 hT hm h he
    obtain ⟨-, y2, y3⟩ := EE_P he
    have oM : ∀ {p j : Nat}, MW p j = false → sI m' p j = sI m p j := fun q => he.2.1.2.2 _ _ q
    have e3 : nC m' = nC m := by
      unfold nC
      rw [oM (by rfl)]
    exact h2_ret ⟨AN_v ((oM (by rfl)).trans e82), u1, Fre_of hT hm h fk e3 (fun c => oM (by rfl)), u2, x2, y2, x3, x4, y3⟩
  · obtain ⟨⟨S2, e, -⟩, -⟩ := p
    cases e
theorem mf_go (hT : TV T S) (hm : TI Tm m) (h : FR S m) (e82 : sI m 57 82 = 0) {c : Nat} (c1 : c < nC m) (h98 : sI m 98 c = -1) (n200 : nT m < 200) :
    H2 (f_K_redeem_B81 S (some 4) (some (lel S 22 c)) 1) ((gI m 23 46 (some 57)).bind fun v10 => (gR m 23 47 (some 57)).bind fun v11 => (bI m v11 v10 (Int32.ofNat c)).bind fun S12 => (gR S12 23 48 (some 57)).bind fun v13 => (bI S12 v13 v10 (0 : Int32)).bind fun S14 => (gR S14 23 49 (some 57)).bind fun v15 => (gI S14 23 0 (some 57)).bind fun v16 => (bI S14 v15 v10 v16).bind fun S17 => (gR S17 23 51 (some 57)).bind fun v18 => (bZ S17 v18 v10 (1 : Int32)).bind fun S19 => (gR S19 23 45 (some 57)).bind fun v20 => (bI S19 v20 (Int32.ofNat c) v10).bind fun S21 => (gI S21 23 46 (some 57)).bind fun v22 => (pI S21 23 46 (some 57) (v22 + (1 : Int32))).bind fun S23 => (kr_rv S23 23 (some 57)).bind fun u24 => (f_M_write S23 (some 57) (2 : Int32) v10).bind fun S25 => (kr_rv S25 23 (some 57)).bind fun u26 => (f_M_firstToken S25 (some 57) v10).bind fun S27 => some (v10, S27)) (fun x y => AN [eX, eS] x.1 y.1 (sI y.2 57 82) ∧ P_red x.2 y.2) := by
  have b := FR_BB hT hm h
  have k4 := K4F_of hT.1
  have hmf := MF_of hm
  obtain ⟨zT1, zT2, zT3⟩ := zT b
  obtain ⟨zF1, zF2, zF3⟩ := zF b
  obtain ⟨zC1, zC2, zC3⟩ := zC b
  have nT200 : nT m ≤ 200 := zT1
  have nF60 : nF m ≤ 60 := zF1
  have nC60 : nC m ≤ 60 := zC1
  have nS60 : nS m ≤ 60 := (zS b).1
  have m52 : sI m 57 52 = Int32.ofNat (nT m) := zT2
  have m46 : sI m 57 46 = Int32.ofNat (nF m) := zF2
  have s24 : sI S 24 2 = Int32.ofNat (nT m) := zT3.trans zT2
  have s23 : sI S 23 2 = Int32.ofNat (nF m) := zF3.trans zF2
  obtain ⟨d2, a1, a2, a3, a4, a5, a6⟩ := LO_add hT.1 (q := 5) (by decide) s24 (by omega)
  obtain ⟨d, d1, d2', d3, d4, d5, d6⟩ := LO_add hT.1 (q := 4) (by decide) s23 (by omega)
  have a1 : sR S 24 1 = some d2 := a1
  have a3 : 24 < sN S := a3
  have a5 : d2 ≠ 24 := a5
  have d1 : sR S 23 1 = some d := d1
  have d3 : 23 < sN S := d3
  have d5 : d ≠ 23 := d5
  obtain ⟨t4, t5, t6, t7, -, -, -, -, -, t25, -⟩ := kt4 hT.1
  have lt : ∀ {k τ : Nat}, T k = τ → τ ≠ 0 → k < sN S := fun hk h0 => (hT.1.t1 _ (by rw [hk]; exact h0)).1
  have t22 : T 22 = 23 := (hT.1.t6 3 (by decide)).1
  have t23 : T 23 = 24 := (hT.1.t6 4 (by decide)).1
  have t24 : T 24 = 25 := (hT.1.t6 5 (by decide)).1
  have dne : ∀ {k τ : Nat}, T k = τ → τ ≠ 0 → kd τ ≠ 1 → τ ≠ 34 → k ≠ d := fun hk h0 h1 h2 => d6 _ (by rw [hk]; exact h0) (by rw [hk]; exact h1) (by rw [hk]; exact h2)
  have ane : ∀ {k τ : Nat}, T k = τ → τ ≠ 0 → kd τ ≠ 1 → τ ≠ 35 → k ≠ d2 := fun hk h0 h1 h2 => a6 _ (by rw [hk]; exact h0) (by rw [hk]; exact h1) (by rw [hk]; exact h2)
  have gT := tyC b c1
  have gne : ∀ {x τ : Nat}, T x = τ → τ ≠ 44 → lel S 22 c ≠ x := fun hx ht z => by
    rw [z, hx] at gT
    exact ht gT
  obtain ⟨ci, ⟨s, s1, ks, m93⟩, ⟨vf, vf4, g1, e94⟩, ⟨to, to4, g2, e95⟩, g3, g4, g5, -⟩ := h.Cod.2 c c1
  obtain ⟨f6, f7, f10, f11⟩ := h.Fre c c1 h98
  obtain ⟨kc, kg, kb, ka1, ka2, -⟩ := h.Key
  obtain ⟨nw0, nw1, nw2⟩ := h.NW
  have n4 := lt t4 (by decide)
  have gl := lt gT (by decide)
  have l99 : sL m 99 = 60 := by
    obtain ⟨-, t, -⟩ := md_at hm (j := 47) (p := 99) rfl rfl
    exact (hm.t1 99 (by rw [t]; decide)).2.2.2 60 (by rw [t]; rfl)
  have hL : sL m 123 = 1200 := by
    obtain ⟨-, t, -⟩ := md_at hm (j := 78) (p := 123) rfl rfl
    exact (hm.t1 123 (by rw [t]; decide)).2.2.2 1200 (by rw [t]; rfl)
  unfold f_K_redeem_B81
  refine l_of (st_bx (rS1 S)) (l_of st_rv (l_pd (p_mf (S := S) (g := lel S 22 c) (d := d) (nf := nF m) (d2 := d2) (nt := nT m) (to := to) (frm := Int32.ofNat vf) (sc := sI m 96 c) (key := sI m 57 61) (now := sI m 57 0) k4 n4 (lt t5 (by decide)) (lt t25 (by decide)) d3 a3 gl (gne t4 (by decide)) ⟨gne t5 (by decide), gne t6 (by decide), gne t7 (by decide)⟩ (gne t23 (by decide)) (gne t24 (by decide)) (gne t25 (by decide))
    s23 d1 (by omega) d2' d4 ⟨d5, (dne t4 (by decide) (by decide) (by decide)).symm, (dne t5 (by decide) (by decide) (by decide)).symm, (dne t24 (by decide) (by decide) (by decide)).symm, (dne t25 (by decide) (by decide) (by decide)).symm⟩
    s24 a1 (by omega) a2 a4 ⟨a5, (ane t4 (by decide) (by decide) (by decide)).symm⟩ g1 g2 g3 ka2.2.1 nw0) (fun S17 p => ?_)))
  obtain ⟨S15, mf, tk⟩ := p
  refine m_mf hmf (by omega) l99 m46 (by omega) n200 m52 e94 e95 rfl (fun n60 m1 m2 mm tm => ?_)
  obtain ⟨⟨N15, L15, d', q3, q4, q5⟩, I15, R15, ⟨z5, z6, z23⟩, ⟨el1, el2⟩, Sa, sa1, sa2, aw⟩ := mf
  obtain ⟨⟨mr, ml, o1'⟩, ⟨y99, y100, y103, y98, y46⟩, ma, ma1, ma2, ma3, ma4, mw⟩ := mm
  have gA : lel S 22 c ≠ 5 ∧ lel S 22 c ≠ 6 ∧ lel S 22 c ≠ 7 := ⟨gne t5 (by decide), gne t6 (by decide), gne t7 (by decide)⟩
  have g23 := gne t23 (by decide)
  have g24 := gne t24 (by decide)
  -- the state before the token, its last field as the reference has it
  obtain ⟨S', e'⟩ : ∃ S', S' = wI S15 (lel S 22 c) 9 (sI m1 102 (nF m)) := ⟨_, rfl⟩
  have r' : sR S' = sR S15 := by rw [e', sR_wI]
  have N' : sN S' = sN S15 := by rw [e']; rfl
  have el' : ∀ l i, lel S' l i = lel S15 l i := fun l i => by
    unfold lel
    rw [r']
  have o' : ∀ {k j : Nat}, ¬ (k = lel S 22 c ∧ j = 9) → sI S' k j = sI S15 k j := fun z => by
    rw [e']
    exact ti_sI_ne z
  have s9 : sI S' (lel S 22 c) 9 = sI m1 102 (nF m) := by rw [e', ti_sI_eq]
  obtain ⟨k1, k2, k3, ⟨k41, k42⟩, k5, k6, k7⟩ := tk
  have tk' : TKK S' S17 (lel S 22 c) d2 (nT m) to (Int32.ofNat vf) (sI m 96 c) 0 (sI m 57 61) (sI m 57 0 + 10) := by
    refine ⟨fun k j hk z1 z2 => ?_, fun k j hk z1 z2 => ?_, k3, ⟨fun i hi => ?_, ?_⟩, ?_, k6, ?_⟩
    · rw [o' (by omega)]
      exact k1 k j (by rw [← N']; exact hk) z1 z2
    · rw [r']
      exact k2 k j (by rw [← N']; exact hk) z1 z2
    · rw [el']
      exact k41 i hi
    · rw [N']
      exact k42
    · rw [N']
      exact k5
    · rw [o' (by omega)]
      exact k7
  -- frames
  have oW : ∀ {k τ : Nat} (j : Nat), T k = τ → τ ≠ 0 → τ ≠ 24 → τ ≠ 2 → τ ≠ 3 → τ ≠ 4 → ¬ (k = lel S 22 c ∧ (j = 5 ∨ j = 6 ∨ j = 9)) → sI S' k j = sI S k j := fun {k τ} j hk h0 h1 h2 h3 h4 z => by
    rw [o' (by omega)]
    exact I15 k j (lt hk h0) (fun q => h1 (by rw [← hk, q.1, t23])) (by omega) (fun q => h2 (by rw [← hk, q, t5])) (fun q => h3 (by rw [← hk, q, t6])) (fun q => h4 (by rw [← hk, q, t7]))
  have oF : ∀ {k τ : Nat} (j : Nat), T k = τ → τ ≠ 0 → τ ≠ 24 → τ ≠ 25 → τ ≠ 2 → τ ≠ 3 → τ ≠ 4 → ¬ (k = lel S 22 c ∧ (j = 5 ∨ j = 6 ∨ j = 9 ∨ j = 10)) → sI S17 k j = sI S k j := fun {k τ} j hk h0 h1 h1' h2 h3 h4 z => by
    have := lt hk h0
    rw [tk'.1 k j (by omega) (fun q => h1' (by rw [← hk, q.1, t24])) (by omega)]
    exact oW j hk h0 h1 h2 h3 h4 (by omega)
  have rF : ∀ {k τ : Nat} (j : Nat), T k = τ → τ ≠ 0 → kd τ ≠ 1 → τ ≠ 24 → τ ≠ 25 → τ ≠ 34 → τ ≠ 35 → sR S17 k j = sR S k j := fun {k τ} j hk h0 h1 h2 h3 h4 h5 => by
    have := lt hk h0
    have x1 := dne hk h0 h1 h4
    have x2 := ane hk h0 h1 h5
    rw [k2 k j (by omega) (fun q => h3 (by rw [← hk, q.1, t24])) (fun q => x2 q.1)]
    exact R15 k j this (fun q => h2 (by rw [← hk, q.1, t23])) (fun q => x1 q.1)
  have w1 : ∀ {q j : Nat}, ¬ ((q = 99 ∨ q = 100 ∨ q = 101 ∨ q = 103) ∧ j = nF m) → ¬ (q = 98 ∧ j = c) → ¬ (q = 57 ∧ (j = 46 ∨ j = 77 ∨ j = 81)) → q ≠ 123 → q ≠ 124 → q ≠ 125 → sI m1 q j = sI m q j := fun x1 x2 x3 x4 x5 x6 => o1' _ _ x1 x2 x3 x4 x5 x6
  have w2 := tm.1.2.2
  have enT : nT m1 = nT m := by
    unfold nT
    rw [w1 (by omega) (by omega) (by omega) (by omega) (by omega) (by omega)]
  have enC : nC m1 = nC m := by
    unfold nC
    rw [w1 (by omega) (by omega) (by omega) (by omega) (by omega) (by omega)]
  have enF : nF m1 = nF m + 1 := by
    have : nn (sI m1 57 46) = nF m + 1 := by
      rw [y46]
      exact nn_o (by omega)
    exact this
  have e2F : nF m2 = nF m + 1 := by
    rw [← enF]
    unfold nF
    rw [w2 _ _ (by omega) (by omega) (by omega)]
  have e2C : nC m2 = nC m := by
    rw [← enC]
    unfold nC
    rw [w2 _ _ (by omega) (by omega) (by omega)]
  have e2S : nS m2 = nS m := by
    unfold nS
    rw [w2 _ _ (by omega) (by omega) (by omega), w1 (by omega) (by omega) (by omega) (by omega) (by omega) (by omega)]
  -- lists
  have tF := fun q (hq : q < nF m) => tyF b hq
  have tn : ∀ q, q < nT m → T (lel S 24 q) = 45 := fun q hq => tyT b hq
  have fne : ∀ f, f < nF m → lel S 23 f ≠ lel S 22 c := fun f hf z => by
    obtain ⟨x, x1, x2, x3, x4, -⟩ := h.Fam.2 f hf
    have := ci x x1 (by rw [← x2]; exact z)
    rw [this, h98] at x4
    exact ofNat_ne (by omega) x4
  have cne : ∀ x, x < nC m → x ≠ c → lel S 22 x ≠ lel S 22 c := fun x hx z y => z (ci x hx y)
  have l15C : ∀ q, q < nC m → lel S15 22 q = lel S 22 q := fun q hq => lel_othG hT.1 (q := 3) (q0 := 4) (by decide) (by decide) (by decide) d6 R15 (SZ_lt (zC b) (by decide) hq)
  have l15T : ∀ q, q < nT m → lel S15 24 q = lel S 24 q := fun q hq => lel_othG hT.1 (q := 5) (q0 := 4) (by decide) (by decide) (by decide) d6 R15 (SZ_lt (zT b) (by decide) hq)
  have l15S : ∀ q, q < nS m → lel S15 19 q = lel S 19 q := fun q hq => lel_othG hT.1 (q := 2) (q0 := 4) (by decide) (by decide) (by decide) d6 R15 (SZ_lt (zS b) (by decide) hq)
  have l17 : ∀ l e i, sR S15 l 1 = some e → l < sN S15 → e < sN S15 → l ≠ 24 → l ≠ d2 → e ≠ 24 → e ≠ d2 → lel S17 l i = lel S15 l i := fun l e i he h1 h2 h3 h4 h5 h6 => by
    unfold lel
    rw [k2 l 1 h1 (by omega) (by omega), he]
    show (sR S17 e i).getD 0 = (sR S15 e i).getD 0
    rw [k2 e i h2 (by omega) (by omega)]
  have l17C : ∀ q, q < nC m → lel S17 22 q = lel S15 22 q := fun q hq => by
    obtain ⟨e, e1, e2⟩ := lrow hT.1 (q := 3) (by decide) (SZ_lt (zC b) (by decide) hq)
    have e1 : sR S 22 1 = some e := e1
    have x1 := lt e2 (by decide)
    have x2 := lt t22 (by decide)
    have x3 := dne t22 (by decide) (by decide) (by decide)
    exact l17 22 e q ((R15 22 1 x2 (by omega) (by omega)).trans e1) (by omega) (by omega) (by decide) (ane t22 (by decide) (by decide) (by decide)) (fun z => by
      rw [z, t24] at e2
      exact absurd e2 (by decide)) (ane e2 (by decide) (by decide) (by decide))
  have l17S : ∀ q, q < nS m → lel S17 19 q = lel S15 19 q := fun q hq => by
    obtain ⟨e, e1, e2⟩ := lrow hT.1 (q := 2) (by decide) (SZ_lt (zS b) (by decide) hq)
    have e1 : sR S 19 1 = some e := e1
    have t19 : T 19 = 22 := (hT.1.t6 2 (by decide)).1
    have x1 := lt e2 (by decide)
    have x2 := lt t19 (by decide)
    have x3 := dne t19 (by decide) (by decide) (by decide)
    exact l17 19 e q ((R15 19 1 x2 (by omega) (by omega)).trans e1) (by omega) (by omega) (by decide) (ane t19 (by decide) (by decide) (by decide)) (fun z => by
      rw [z, t24] at e2
      exact absurd e2 (by decide)) (ane e2 (by decide) (by decide) (by decide))
  have d'n : d' ≠ 24 ∧ d' ≠ d2 := by
    rcases q4 with ⟨x1, x2⟩ | x1
    · rw [x1]
      refine ⟨(dne t24 (by decide) (by decide) (by decide)).symm, ?_⟩
      obtain ⟨y1, e, y2, y3, -⟩ := hT.1.t6 4 (by decide)
      have y2 : sR S 23 1 = some e := y2
      rw [d1] at y2
      cases y2
      rcases y3 with y3 | y3
      · exact ane y3 (by decide) (by decide) (by decide)
      · rw [y3, hT.1.t8.2.2.2.2.2.1] at x2
        omega
    · omega
  have l17F : ∀ q, lel S17 23 q = lel S15 23 q := fun q => l17 23 d' q q3 (by omega) q5 (by decide) (ane t23 (by decide) (by decide) (by decide)) d'n.1 d'n.2
  -- what holds before the token
  have tok7 : cTok S' m1 := by
    refine ⟨⟨?_, ?_, ?_⟩, fun t ht => ?_⟩
    · rw [w1 (by omega) (by omega) (by omega) (by omega) (by omega) (by omega)]
      exact zT1
    · rw [w1 (by omega) (by omega) (by omega) (by omega) (by omega) (by omega)]
      exact zT2
    · rw [w1 (by omega) (by omega) (by omega) (by omega) (by omega) (by omega), oW 2 t24 (by decide) (by decide) (by decide) (by decide) (by decide) (by omega)]
      exact zT3
    · rw [enT] at ht
      have tt := tn t ht
      have tg : lel S 24 t ≠ lel S 22 c := fun z => by
        rw [z, gT] at tt
        exact absurd tt (by decide)
      have oT : ∀ j, sI S' (lel S 24 t) j = sI S (lel S 24 t) j := fun j => oW j tt (by decide) (by decide) (by decide) (by decide) (by decide) (fun q => tg q.1)
      have oM : ∀ a, (a = 104 ∨ a = 105 ∨ a = 106 ∨ a = 107 ∨ a = 108 ∨ a = 109 ∨ a = 110) → sI m1 a t = sI m a t := fun a ha => w1 (by omega) (by omega) (by omega) (by omega) (by omega) (by omega)
      obtain ⟨⟨f, x1, x2, x3⟩, x4⟩ := h.Tok.2 t ht
      rw [el', l15T t ht, enF, oT, oT, oT, oT, oT, oT, oM 104 (by omega), oM 105 (by omega), oM 106 (by omega), oM 107 (by omega), oM 108 (by omega), oM 109 (by omega), oM 110 (by omega)]
      refine ⟨⟨f, by omega, ?_, x3⟩, x4⟩
      rw [r', R15 _ 0 (lt tt (by decide)) (fun z => by
        rw [z.1, t23] at tt
        exact absurd tt (by decide)) (fun z => dne tt (by decide) (by decide) (by decide) z.1), el', el1 f x1]
      exact x2
  have num7 : cNum S' m1 := fun q hq => by
    rw [enF] at hq
    rw [el']
    by_cases z : q = nF m
    · subst z
      rw [el2, oW 7 gT (by decide) (by decide) (by decide) (by decide) (by decide) (by omega), y100]
      exact ⟨f7, fun x => absurd rfl x, s9⟩
    · have hq : q < nF m := by omega
      have tq := tF q hq
      have nq := fne q hq
      rw [el1 q hq, oW 7 tq (by decide) (by decide) (by decide) (by decide) (by decide) (by omega), oW 8 tq (by decide) (by decide) (by decide) (by decide) (by decide) (by omega), oW 9 tq (by decide) (by decide) (by decide) (by decide) (by decide) (by omega), w1 (q := 100) (by omega) (by omega) (by omega) (by omega) (by omega) (by omega), w1 (q := 101) (by omega) (by omega) (by omega) (by omega) (by omega) (by omega), w1 (q := 102) (by omega) (by omega) (by omega) (by omega) (by omega) (by omega)]
      exact h.Num q hq
  have bt0 : ∀ v, ¬ bt 0 v = true := fun v z => by
    unfold bt at z
    simp at z
  have aud7 : cAud S' m1 := fun q hq v hv => by
    rw [enF] at hq
    rw [el', enT]
    have mT : ∀ t, sI m1 108 t = sI m 108 t ∧ sI m1 105 t = sI m 105 t := fun t => ⟨w1 (by omega) (by omega) (by omega) (by omega) (by omega) (by omega), w1 (by omega) (by omega) (by omega) (by omega) (by omega) (by omega)⟩
    have ex : ∀ q, (∃ t, t < nT m ∧ sI m1 108 t = Int32.ofNat q ∧ sI m1 105 t = Int32.ofNat v) ↔ (∃ t, t < nT m ∧ sI m 108 t = Int32.ofNat q ∧ sI m 105 t = Int32.ofNat v) := fun q => by
      constructor
      · rintro ⟨t, x1, x2, x3⟩
        exact ⟨t, x1, (mT t).1.symm.trans x2, (mT t).2.symm.trans x3⟩
      · rintro ⟨t, x1, x2, x3⟩
        exact ⟨t, x1, (mT t).1.trans x2, (mT t).2.trans x3⟩
    rw [ex]
    by_cases z : q = nF m
    · subst z
      rw [el2, oW 10 gT (by decide) (by decide) (by decide) (by decide) (by decide) (by omega), f10]
      refine ⟨fun x => absurd x (bt0 v), ?_⟩
      rintro ⟨t, x1, x2, -⟩
      obtain ⟨⟨f, y1, -, y3⟩, -⟩ := h.Tok.2 t x1
      rw [y3] at x2
      have := oinj (by omega) (by omega) x2
      omega
    · have hq : q < nF m := by omega
      have nq := fne q hq
      rw [el1 q hq, oW 10 (tF q hq) (by decide) (by decide) (by decide) (by decide) (by decide) (by omega)]
      exact h.Aud q hq v hv
  have n98 : ∀ q, q ≠ c → sI m1 98 q = sI m 98 q := fun q hq => w1 (by omega) (by omega) (by omega) (by omega) (by omega) (by omega)
  have notc : ∀ q, sI m1 98 q = -1 → q ≠ c := fun q hq z => by
    rw [z, y98] at hq
    exact ofNat_ne (by omega) hq.symm
  have fre7 : cFre S' m1 := fun q hq x98 => by
    rw [enC] at hq
    have z := notc q x98
    rw [n98 q z] at x98
    have tq := tyC b hq
    have nq := cne q hq z
    rw [el', l15C q hq, oW 6 tq (by decide) (by decide) (by decide) (by decide) (by decide) (by omega), oW 7 tq (by decide) (by decide) (by decide) (by decide) (by decide) (by omega), oW 10 tq (by decide) (by decide) (by decide) (by decide) (by decide) (by omega), oW 11 tq (by decide) (by decide) (by decide) (by decide) (by decide) (by omega)]
    exact h.Fre q hq x98
  have tkT := tk'
  have tmT := tm
  rw [← enT] at tkT tmT
  have u10 : (sI m 57 0 + 10).toInt = (sI m 57 0).toInt + 10 := by
    rw [Int32.toInt_add, show (10 : Int32).toInt = 10 from by decide, bm (by omega) (by omega)]
  have lF15 : ∀ q, q < nF m + 1 → lel S15 23 q = if q = nF m then lel S 22 c else lel S 23 q := fun q hq => by
    by_cases z : q = nF m
    · rw [if_pos z, z]
      exact el2
    · rw [if_neg z]
      exact el1 q (by omega)
  have tF15 : ∀ q, q < nF m + 1 → T (lel S15 23 q) = 44 := fun q hq => by
    rw [lF15 q hq]
    by_cases z : q = nF m
    · rw [if_pos z]
      exact gT
    · rw [if_neg z]
      exact tF q (by omega)
  obtain ⟨x1, x2, x3, x4⟩ := TK_fin tkT tmT tok7 num7 aud7 fre7 (by rw [enF]; omega) (by rw [enF]; omega) ((el' 23 _).trans el2).symm to4 (by rw [enT]; exact n200) (w1 (by omega) (by omega) (by omega) (by omega) (by omega) (by omega)) ⟨kg, by omega, ka1.2⟩ (by omega) (by omega)
    (fun q _ => by rw [el']; exact l17F q) (fun q hq => by rw [el']; exact l17C q (by rw [← enC]; exact hq))
    (fun q hq => by
      rw [enF] at hq
      rw [el', N']
      have y := tF15 q hq
      have y1 := lt y (by decide)
      exact ⟨by omega, fun z => by
        rw [z, t24] at y
        exact absurd y (by decide)⟩)
    (fun p q hp hq e => by
      rw [enF] at hp hq
      rw [el', el', lF15 p hp, lF15 q hq] at e
      by_cases z1 : p = nF m
      · by_cases z2 : q = nF m
        · omega
        · rw [if_pos z1, if_neg z2] at e
          exact absurd e.symm (fne q (by omega))
      · by_cases z2 : q = nF m
        · rw [if_neg z1, if_pos z2] at e
          exact absurd e (fne p (by omega))
        · rw [if_neg z1, if_neg z2] at e
          exact ST_fi (ST_of hT hm h) (by omega) (by omega) e)
    (fun t ht => by
      rw [enT] at ht
      rw [el', l15T t ht, N']
      have y := tn t ht
      have y1 := lt y (by decide)
      refine ⟨by omega, fun z => by
        rw [z, t24] at y
        exact absurd y (by decide), ane y (by decide) (by decide) (by decide), fun q hq z => ?_⟩
      rw [enF] at hq
      rw [el'] at z
      have := tF15 q hq
      rw [← z, y] at this
      exact absurd this (by decide))
    (fun q hq x98 => by
      rw [enC] at hq
      have z := notc q x98
      rw [el', l15C q hq, N']
      have y := tyC b hq
      have y1 := lt y (by decide)
      exact ⟨by omega, fun z => by
        rw [z, t24] at y
        exact absurd y (by decide), cne q hq z⟩)
  -- the rest
  have m2o : ∀ {q j : Nat}, ¬ ((q = 104 ∨ q = 105 ∨ q = 106 ∨ q = 107 ∨ q = 108 ∨ q = 109 ∨ q = 110) ∧ j = nT m) → ¬ (q = 102 ∧ j = nF m) → ¬ (q = 57 ∧ j = 52) → sI m2 q j = sI m1 q j := fun y1 y2 y3 => w2 _ _ y1 y2 y3
  have g55 : sI S17 (lel S 22 c) 5 = Int32.ofNat (nF m) := (k1 _ 5 (by omega) (by omega) (by omega)).trans z5
  have g66 : sI S17 (lel S 22 c) 6 = 1 := (k1 _ 6 (by omega) (by omega) (by omega)).trans z6
  have mC : ∀ {q j : Nat}, (q = 93 ∨ q = 94 ∨ q = 95 ∨ q = 96 ∨ q = 97) → sI m2 q j = sI m q j := fun y => (m2o (by omega) (by omega) (by omega)).trans (w1 (by omega) (by omega) (by omega) (by omega) (by omega) (by omega))
  have m116 : ∀ j, sI m2 116 j = sI m 116 j := fun j => (m2o (by omega) (by omega) (by omega)).trans (w1 (by omega) (by omega) (by omega) (by omega) (by omega) (by omega))
  refine l_of (st_gIe g55) (h2_ret ⟨AN_v ?_, ⟨⟨?_, ?_, ?_⟩, fun k hk => ?_⟩, x4, ⟨⟨?_, ?_, ?_⟩, fun f hf => ?_⟩, x2, ⟨fun x hx hx2 v hv => ?_, fun f hf => ?_⟩, x1, x3, ?_⟩)
  · exact (m2o (by omega) (by omega) (by omega)).trans ((w1 (by omega) (by omega) (by omega) (by omega) (by omega) (by omega)).trans e82)
  · show nn (sI m2 57 39) ≤ 60
    rw [m2o (by omega) (by omega) (by omega), w1 (by omega) (by omega) (by omega) (by omega) (by omega) (by omega)]
    exact zC1
  · show sI m2 57 39 = Int32.ofNat (nn (sI m2 57 39))
    rw [m2o (by omega) (by omega) (by omega), w1 (by omega) (by omega) (by omega) (by omega) (by omega) (by omega)]
    exact zC2
  · show sI S17 22 2 = sI m2 57 39
    rw [m2o (by omega) (by omega) (by omega), w1 (by omega) (by omega) (by omega) (by omega) (by omega) (by omega), oF 2 t22 (by decide) (by decide) (by decide) (by decide) (by decide) (by decide) (by omega)]
    exact zC3
  · rw [e2C] at hk
    have tk := tyC b hk
    obtain ⟨v1, ⟨s', v2, v3, v4⟩, ⟨p, p1, p2, p3⟩, ⟨q, r1, r2, r3⟩, v5, v6, v7, v8⟩ := h.Cod.2 k hk
    show (∀ x, x < nC m2 → lel S17 22 x = lel S17 22 k → x = k) ∧ (∃ s, s < nS m2 ∧ sR S17 (lel S17 22 k) 0 = some (lel S17 19 s) ∧ sI m2 93 k = Int32.ofNat s) ∧ (∃ v, v < 4 ∧ sI S17 (lel S17 22 k) 1 = Int32.ofNat v ∧ sI m2 94 k = Int32.ofNat v) ∧ (∃ v, v < 4 ∧ sI S17 (lel S17 22 k) 2 = Int32.ofNat v ∧ sI m2 95 k = Int32.ofNat v) ∧ sI S17 (lel S17 22 k) 3 = sI m2 96 k ∧ sI S17 (lel S17 22 k) 4 = sI m2 97 k ∧ sI S17 (lel S17 22 k) 5 = sI m2 98 k ∧ (sI m2 98 k = -1 ∨ ∃ f, f < nF m2 ∧ sI m2 98 k = Int32.ofNat f)
    rw [e2C, e2S, e2F, l17C k hk, l15C k hk, mC (q := 93) (by omega), mC (q := 94) (by omega), mC (q := 95) (by omega), mC (q := 96) (by omega), mC (q := 97) (by omega), oF 1 tk (by decide) (by decide) (by decide) (by decide) (by decide) (by decide) (by omega), oF 2 tk (by decide) (by decide) (by decide) (by decide) (by decide) (by decide) (by omega), oF 3 tk (by decide) (by decide) (by decide) (by decide) (by decide) (by decide) (by omega), oF 4 tk (by decide) (by decide) (by decide) (by decide) (by decide) (by decide) (by omega)]
    refine ⟨fun x hx e => ?_, ⟨s', v2, ?_, v4⟩, ⟨p, p1, p2, p3⟩, ⟨q, r1, r2, r3⟩, v5, v6, ?_, ?_⟩
    · rw [l17C x hx, l15C x hx] at e
      exact v1 x hx e
    · rw [rF 0 tk (by decide) (by decide) (by decide) (by decide) (by decide) (by decide), l17S s' v2, l15S s' v2]
      exact v3
    · by_cases z : k = c
      · subst z
        rw [g55, m2o (by omega) (by omega) (by omega), y98]
      · have nk := cne k hk z
        rw [oF 5 tk (by decide) (by decide) (by decide) (by decide) (by decide) (by decide) (by omega), m2o (by omega) (by omega) (by omega), n98 k z]
        exact v7
    · by_cases z : k = c
      · subst z
        exact Or.inr ⟨nF m, by omega, by rw [m2o (by omega) (by omega) (by omega), y98]⟩
      · rw [m2o (by omega) (by omega) (by omega), n98 k z]
        rcases v8 with v8 | ⟨f, f1, f2⟩
        · exact Or.inl v8
        · exact Or.inr ⟨f, by omega, f2⟩
  · show nn (sI m2 57 46) ≤ 60
    rw [m2o (by omega) (by omega) (by omega), y46, nn_o (by omega)]
    omega
  · show sI m2 57 46 = Int32.ofNat (nn (sI m2 57 46))
    rw [m2o (by omega) (by omega) (by omega), y46, nn_o (by omega)]
  · show sI S17 23 2 = sI m2 57 46
    rw [m2o (by omega) (by omega) (by omega), y46, k1 23 2 (by omega) (by omega) (by omega)]
    exact z23
  · rw [e2F] at hf
    show ∃ x, x < nC m2 ∧ lel S17 23 f = lel S17 22 x ∧ sI m2 99 f = Int32.ofNat x ∧ sI m2 98 x = Int32.ofNat f ∧ ∀ y, y < nC m2 → sI m2 98 y = Int32.ofNat f → y = x
    have m98 : ∀ q, q ≠ c → sI m2 98 q = sI m 98 q := fun q hq => (m2o (by omega) (by omega) (by omega)).trans (n98 q hq)
    have m98c : sI m2 98 c = Int32.ofNat (nF m) := (m2o (by omega) (by omega) (by omega)).trans y98
    rw [l17F, e2C]
    by_cases z : f = nF m
    · subst z
      refine ⟨c, c1, by rw [el2, l17C c c1, l15C c c1], (m2o (by omega) (by omega) (by omega)).trans y99, m98c, fun y hy e => ?_⟩
      by_cases z2 : y = c
      · exact z2
      · rw [m98 y z2] at e
        rcases (h.Cod.2 y hy).2.2.2.2.2.2.2 with v | ⟨f, f1, f2⟩
        · rw [v] at e
          exact absurd e (ofNat_ne (by omega))
        · rw [f2] at e
          have := oinj (by omega) (by omega) e
          omega
    · have hf : f < nF m := by omega
      obtain ⟨x, v1, v2, v3, v4, v5⟩ := h.Fam.2 f hf
      have xc : x ≠ c := fun y => by
        rw [y, h98] at v4
        exact ofNat_ne (by omega) v4
      refine ⟨x, v1, by rw [el1 f hf, l17C x v1, l15C x v1]; exact v2, (m2o (by omega) (by omega) (by omega)).trans ((w1 (by omega) (by omega) (by omega) (by omega) (by omega) (by omega)).trans v3), (m98 x xc).trans v4, fun y hy e => ?_⟩
      by_cases z2 : y = c
      · rw [z2, m98c] at e
        have := oinj (by omega) (by omega) e
        omega
      · rw [m98 y z2] at e
        exact v5 y hy e
  · rw [e2F] at hx
    show sI m2 116 (60 * v + x) = 0
    rw [m116]
    exact h.God.1 x (by omega) hx2 v hv
  · rw [e2F] at hf
    show sI S17 (lel S17 23 f) 6 = sI m2 103 f ∧ (∀ v, v < 4 → (bt (sI S17 (lel S17 23 f) 11) v = true ↔ sI m2 116 (60 * v + f) = 1)) ∧ (sI m2 103 f ≠ 0 → ∀ v, v < 4 → sI m2 116 (60 * v + f) = 0)
    rw [l17F]
    by_cases z : f = nF m
    · subst z
      have z116 : ∀ v, v < 4 → sI m2 116 (60 * v + nF m) = 0 := fun v hv => (m116 _).trans (h.God.1 _ (Nat.le_refl _) n60 v hv)
      rw [el2, g66, m2o (by omega) (by omega) (by omega), y103, oF 11 gT (by decide) (by decide) (by decide) (by decide) (by decide) (by decide) (by omega), f11]
      refine ⟨rfl, fun v hv => ⟨fun x => absurd x (bt0 v), fun x => ?_⟩, fun _ v hv => z116 v hv⟩
      rw [z116 v hv] at x
      exact absurd x (by decide)
    · have hf : f < nF m := by omega
      have tf := tF f hf
      have nf := fne f hf
      obtain ⟨v1, v2, v3⟩ := h.God.2 f hf
      rw [el1 f hf, oF 6 tf (by decide) (by decide) (by decide) (by decide) (by decide) (by decide) (by omega), oF 11 tf (by decide) (by decide) (by decide) (by decide) (by decide) (by decide) (by omega), m2o (q := 103) (by omega) (by omega) (by omega), w1 (q := 103) (by omega) (by omega) (by omega) (by omega) (by omega) (by omega)]
      exact ⟨v1, fun v hv => by rw [m116]; exact v2 v hv, fun q v hv => by rw [m116]; exact v3 q v hv⟩
  · have a15 : AU 0 (sI m 89) (nS m) S15 m1 := AU_w (lv := sI m 89) (n := nS m) (AU_cong h.AU sa1 sa2 ma1 ma2 ma3 rfl) (by rw [ma4]; exact hL) nS60 nS60 (by decide) (by omega) aw mw (fun s _ => by omega) (fun s _ => ⟨Or.inl, fun q => q.elim id (fun z => absurd z.1 (by decide))⟩) (fun s h => Or.inl ⟨rfl, h, Or.inl (by omega)⟩)
    unfold cAU
    rw [e2S]
    have l5 := lt t5 (by decide)
    have l6 := lt t6 (by decide)
    exact AU_cong a15 (k1 5 2 (by omega) (by omega) (by omega)) (funext fun j => k1 6 j (by omega) (by omega) (by omega)) (m2o (by omega) (by omega) (by omega)) (funext fun j => m2o (by omega) (by omega) (by omega)) (funext fun j => m2o (by omega) (by omega) (by omega)) (funext fun j => (m2o (by omega) (by omega) (by omega)).trans (w1 (by omega) (by omega) (by omega) (by omega) (by omega) (by omega)))
end
end
section
section
variable {T Tm : Nat → Nat} {S m : AS}
theorem h_redeem (hT : TV T S) (hm : TI Tm m) (h : FR S m) (a : Int32) : H2 (f_K_redeem S (some 4) a) (f_M_redeem m (some 57) a) (fun x y => AN [eX, eS] x.1 y.1 (sI y.2 57 82) ∧ P_red x.2 y.2) := by
  have b := FR_BB hT hm h
  have hmf := MF_of hm
  have hmf0 := MF_of (TI_t hm 0)
  have k4 := K4F_of hT.1
  have h0 := FR_t hT hm h 0
  obtain ⟨zC1, zC2, zC3⟩ := zC b
  have nC60 : nC m ≤ 60 := zC1
  have nT200 : nT m ≤ 200 := (zT b).1
  have nF60 : nF m ≤ 60 := (zF b).1
  have nS60 : nS m ≤ 60 := (zS b).1
  have r22 := k4.1 12 22 rfl
  have sC : sI S 22 2 = Int32.ofNat (nC m) := zC3.trans zC2
  have enC : nC (wI m 57 82 0) = nC m := by
    unfold nC
    rw [lv0 m (by omega) 0]
  have enT : nT (wI m 57 82 0) = nT m := by
    unfold nT
    rw [lv0 m (by omega) 0]
  have enF : nF (wI m 57 82 0) = nF m := by
    unfold nF
    rw [lv0 m (by omega) 0]
  have no1 : ∀ c, H2 (some ((Sum.inr eX : Int32 ⊕ String), wX S)) (f_M_redeem_B59 m (some 57) c 0) (fun x y => AN [eX, eS] x.1 y.1 (sI y.2 57 82) ∧ P_red x.2 y.2) := fun c => by
    unfold f_M_redeem_B59 f_M_redeem_B60 f_M_redeem_B77 f_M_redeem_B82
    refine m_of (st_T rfl) (m_of st_rv (m_p2 p_mayB (fun v m' e => ?_)))
    rw [if_pos rfl] at e
    cases e
    exact m_of (st_T rfl) (h2_ret ⟨AN_e 0 rfl (ti_sI_eq _ _ _ _), FR_red (FR_X hT (TI_t hm 1) (FR_t hT hm h 1))⟩)
  unfold f_K_redeem f_M_redeem
  refine l_of (st_gRe r22) (l_of st_rv (l_of st_size ?_))
  rw [sC]
  refine m_of (st_gIe (v := Int32.ofNat (nC m)) zC2) (m_of (st_b2 (q_isIn m a 0 _)) ?_)
  refine l_bx (fun v' S' e => ?_) (fun v' S' e => ?_)
  · rcases p_rI _ e with ⟨h1, h2, e2⟩ | ⟨-, e2⟩
    · cases e2
      rw [oi (by omega)] at h2
      obtain ⟨c, c1, rfl⟩ := (IX_iff (n := nC m) (by omega)).mpr ⟨h1, h2⟩
      rw [if_pos ((IX_sub (n := nC m) (by omega)).mpr ⟨c, c1, rfl⟩)]
      have ci : (Int32.ofNat c).toNatClampNeg = c := oc (by omega)
      obtain ⟨-, ⟨s, s1, ks, m93⟩, -, -, -, g4, g5, g6⟩ := h.Cod.2 c c1
      have lv := (h.Liv.1 s s1).1
      refine m_of (st_F one0) (m_of (st_gRe (hmf 45 98 rfl)) (m_of (st_aIe (v := sI m 98 c) ci rfl) ?_))
      refine l_of (st_gRe r22) (l_of st_rv (l_of (st_get ci (atC b c1)) (l_of st_cc (l_of (st_gIe g5) ?_))))
      by_cases d0 : sI m 98 c = -1
      · have dead : H2 (some ((Sum.inl (-1) : Int32 ⊕ String), S)) (f_M_redeem_B59 m (some 57) (Int32.ofNat c) 1) (fun x y => AN [eX, eS] x.1 y.1 (sI y.2 57 82) ∧ P_red x.2 y.2) := by
          unfold f_M_redeem_B59 f_M_redeem_B60 f_M_redeem_B77 f_M_redeem_B82
          refine m_of (st_T rfl) (m_of st_rv (m_p2 p_mayB (fun v m' e => ?_)))
          rw [if_neg one0, if_neg one0] at e
          cases e
          exact m_of (st_F one0) (m_of (st_T rfl) (m_of (st_gRe (hmf0 45 98 rfl)) (m_of (st_aIe (v := -1) ci ((lv0 m (by omega) 0).trans d0)) (m_of (st_T rfl) (h2_ret ⟨AN_v (ti_sI_eq _ _ _ _), FR_red h0⟩)))))
        refine l_of (st_T d0) (m_of (st_T d0) (l_of (st_gRe ks) (l_of (st_gIe lv) ?_)))
        refine m_of (st_gIe (v := sI m 57 0) rfl) (m_of (st_gRe (hmf 44 97 rfl)) (m_of (st_aIe (v := sI m 97 c) ci rfl) ?_))
        by_cases d1 : sI m 89 s = 0
        · refine l_of (st_T d1) (m_if (fun _ => dead) (fun _ => ?_))
          exact m_of (st_gRe (hmf 35 89 rfl)) (m_of (st_gRe (hmf 40 93 rfl)) (m_of (st_aIe (v := Int32.ofNat s) ci m93) (m_of (st_aIe (v := sI m 89 s) (oc (by omega)) rfl) (m_of (st_T d1) dead))))
        · refine l_of (st_F d1) (l_of (st_gIe h.NW.1) (l_of (st_gIe g4) ?_))
          by_cases d2 : (5 : Int32) < sI m 57 0 - sI m 97 c
          · exact l_of (st_F (Int32.not_le.mpr d2)) (m_of (st_T d2) dead)
          · refine l_of (st_T (Int32.not_lt.mp d2)) (m_of (st_F d2) ?_)
            refine m_of (st_gRe (hmf 35 89 rfl)) (m_of (st_gRe (hmf 40 93 rfl)) (m_of (st_aIe (v := Int32.ofNat s) ci m93) (m_of (st_aIe (v := sI m 89 s) (oc (by omega)) rfl) (m_of (st_F d1) ?_))))
            refine l_of (st_gRe (k4.1 14 24 rfl)) (l_of st_rv (l_of st_size ?_))
            rw [(zT b).2.2, show sI m 57 52 = Int32.ofNat (nT m) from (zT b).2.1]
            unfold f_M_redeem_B60
            refine m_of (st_F one0) (m_of (st_gIe (v := Int32.ofNat (nT m)) (zT b).2.1) ?_)
            by_cases d4 : (200 : Int32) ≤ Int32.ofNat (nT m)
            · refine l_of (st_T d4) (m_of (st_T d4) ?_)
              unfold f_K_redeem_B81 f_M_redeem_B82
              refine l_of (st_bxe (rS0 S)) (m_of st_rv (m_p2 p_mayB (fun w m' e => ?_)))
              rw [if_neg one0, if_pos rfl] at e
              cases e
              exact m_of (st_T rfl) (h2_ret ⟨AN_e 1 rfl (ti_sI_eq _ _ _ _), FR_red (FR_X hT (TI_t hm 2) (FR_t hT hm h 2))⟩)
            · refine l_of (st_F d4) (m_of (st_F d4) ?_)
              unfold f_M_redeem_B77 f_M_redeem_B82
              refine m_of st_rv (m_p2 p_mayB (fun w m' e => ?_))
              rw [if_neg one0, if_neg one0] at e
              cases e
              refine m_of (st_F one0) (m_of (st_F one0) ?_)
              exact mf_go hT (TI_t hm 0) h0 (ti_sI_eq _ _ _ _) (by rw [enC]; exact c1) ((lv0 m (by omega) 0).trans d0) (by rw [enT]; exact Nat.not_le.mp (fun q => d4 ((ole (a := 200) (by decide) (by omega)).mpr q)))
      · refine l_of (st_F d0) (m_of (st_F d0) (l_of st_rv ?_))
        rcases g6 with g6 | ⟨f, f1, g6⟩
        · exact absurd g6 d0
        · obtain ⟨c', c1', c2, c3, c4, c5⟩ := h.Fam.2 f f1
          have := c5 c c1 g6
          subst this
          rw [← c2]
          unfold f_M_redeem_B59 f_M_redeem_B60 f_M_redeem_B77 f_M_redeem_B82
          refine m_of (st_T rfl) (m_of st_rv (m_p2 p_mayB (fun v m' e => ?_)))
          rw [if_neg one0, if_neg one0] at e
          cases e
          have x98 : sI (wI m 57 82 0) 98 c = Int32.ofNat f := (lv0 m (by omega) 0).trans g6
          refine m_of (st_F one0) (m_of (st_T rfl) (m_of (st_gRe (hmf0 45 98 rfl)) (m_of (st_aIe (v := Int32.ofNat f) ci x98) (m_of (st_F (fun q => d0 (g6.trans q))) (m_of (st_gRe (hmf0 45 98 rfl)) (m_of (st_aIe (v := Int32.ofNat f) ci x98) (m_of st_rv ?_)))))))
          exact ef_red hT (TI_t hm 0) h0 (ti_sI_eq _ _ _ _) (by rw [enF]; exact f1)
    · cases e2
  · rcases p_rI _ e with ⟨h1, h2, e2⟩ | ⟨h1, e2⟩
    · cases e2
    · cases e2
      rw [oi (by omega)] at h1
      rw [if_neg (fun q => h1 ((IX_iff (n := nC m) (by omega)).mp ((IX_sub (n := nC m) (by omega)).mp q)))]
      exact m_of (st_T rfl) (no1 a)
end
end
section
/-! ===== a flow's steps are read; what a test holds ===== -/
theorem m_z {α β : Type} {x : Option α} {v : Int32} {F : Unit → Option β} {Q : α → β → Prop} (h : v = 0 ∨ v = 1 → H2 x (F ()) Q) : H2 x ((kr_z v).bind F) Q := fun a b ha hb => by
  obtain ⟨c, e⟩ := bind_cut hb
  exact h c a b ha e
theorem q_isT (S : AS) (a : Int32) : f_M_isTest S a = some (if 1 ≤ a ∧ a ≤ 4 then 1 else 0, S) := by
  unfold f_M_isTest
  by_cases c1 : a < 1
  · rw [if_pos c1, if_neg (fun q => absurd q.1 (Int32.not_le.mpr c1))]
  · by_cases c2 : 4 < a
    · rw [if_neg c1, if_pos c2, if_neg (fun q => absurd q.2 (Int32.not_le.mpr c2))]
    · rw [if_neg c1, if_neg c2, if_pos ⟨Int32.not_lt.mp c1, Int32.not_lt.mp c2⟩]
/-- the flow p of the class is the version v of the reference, of n steps -/
def FLR (S m : AS) (p v n : Nat) : Prop := (1 ≤ n ∧ n ≤ 12) ∧ v < 8 ∧ sI S p 5 = Int32.ofNat n ∧ ∀ j k, j < 5 → k < n → sI S (fa S p j) k = sI m (67 + j) (12 * v + k)
section
variable {S m : AS}
theorem p_thN {p : Nat} : Hp (f_Flow_isThere S (some p) (-1)) (fun q => q = (0, S)) := by
  unfold f_Flow_isThere
  exact p_of (st_T (by decide)) (p_ret rfl)
theorem p_kind {p v n k : Nat} (f : FLR S m p v n) (hk : k < n) : Hp (f_Flow_kindOf S (some p) (Int32.ofNat k)) (fun q => q = (sI m 67 (12 * v + k), S)) := by
  have h12 := f.1.2
  unfold f_Flow_kindOf
  refine p_of st_rv (p_b2 (p_there f.2.2.1 h12 hk) (fun u S' q => ?_))
  cases q
  exact p_of (st_F one0) (p_of (st_row (oc (by omega)) (f.2.2.2 0 k (by omega) hk)) (p_ret rfl))
theorem p_kindN {p : Nat} : Hp (f_Flow_kindOf S (some p) (-1)) (fun q => q = (6, S)) := by
  unfold f_Flow_kindOf
  refine p_of st_rv (p_b2 p_thN (fun u S' q => ?_))
  cases q
  exact p_of (st_T rfl) (p_ret rfl)
theorem p_first {p v n k : Nat} (f : FLR S m p v n) (hk : k < n) : Hp (f_Flow_firstOf S (some p) (Int32.ofNat k)) (fun q => q = (sI m 68 (12 * v + k), S)) := by
  have h12 := f.1.2
  unfold f_Flow_firstOf
  refine p_of st_rv (p_b2 (p_there f.2.2.1 h12 hk) (fun u S' q => ?_))
  cases q
  exact p_of (st_F one0) (p_of (st_row (oc (by omega)) (f.2.2.2 1 k (by omega) hk)) (p_ret rfl))
theorem p_second {p v n k : Nat} (f : FLR S m p v n) (hk : k < n) : Hp (f_Flow_secondOf S (some p) (Int32.ofNat k)) (fun q => q = (sI m 69 (12 * v + k), S)) := by
  have h12 := f.1.2
  unfold f_Flow_secondOf
  refine p_of st_rv (p_b2 (p_there f.2.2.1 h12 hk) (fun u S' q => ?_))
  cases q
  exact p_of (st_F one0) (p_of (st_row (oc (by omega)) (f.2.2.2 2 k (by omega) hk)) (p_ret rfl))
theorem p_next {p v n k : Nat} (f : FLR S m p v n) (hk : k < n) (c : Int32) : Hp (f_Flow_nextOf S (some p) (Int32.ofNat k) c) (fun q => q = (if c = 0 then sI m 71 (12 * v + k) else sI m 70 (12 * v + k), S)) := by
  have h12 := f.1.2
  unfold f_Flow_nextOf
  refine p_of st_rv (p_b2 (p_there f.2.2.1 h12 hk) (fun u S' q => ?_))
  cases q
  refine p_of (st_F one0) ?_
  by_cases c0 : c = 0
  · rw [if_pos c0, if_pos c0]
    exact p_of (st_row (oc (by omega)) (f.2.2.2 4 k (by omega) hk)) (p_ret rfl)
  · rw [if_neg c0, if_neg c0]
    exact p_of (st_row (oc (by omega)) (f.2.2.2 3 k (by omega) hk)) (p_ret rfl)
theorem p_test {p v n k : Nat} (f : FLR S m p v n) (hk : k < n) : Hp (f_Flow_isTest S (some p) (Int32.ofNat k)) (fun q => q = (if 1 ≤ sI m 67 (12 * v + k) ∧ sI m 67 (12 * v + k) ≤ 4 then 1 else 0, S)) := by
  unfold f_Flow_isTest
  refine p_of st_rv (p_b2 (p_kind f hk) (fun u S' q => ?_))
  cases q
  exact p_of (st_b2 (q_win S _ 1 4)) (p_of st_z (p_ret rfl))
theorem p_testN {p : Nat} : Hp (f_Flow_isTest S (some p) (-1)) (fun q => q = (0, S)) := by
  unfold f_Flow_isTest
  refine p_of st_rv (p_b2 p_kindN (fun u S' q => ?_))
  cases q
  exact p_of (st_b2 (q_win S _ 1 4)) (p_of st_z (p_ret rfl))
/-- the level of all that an attempt has shown -/
theorem h_shn_L (hw : cWgt S m) (hmf : MF m) {x p a : Nat} (hx : sR S x 0 = some p) (ha : a < 60) (hr : ∀ f, f < 3 → sI S p f = sI m 84 (3 * a + f) ∧ mok (sI m 84 (3 * a + f))) :
    ∀ (k j fu fu' u : Nat), j + k = 3 → u < 2 ^ j → H2 (f_Shown_levelSince_L4 fu S (some x) 0 (lv8 u) (Int32.ofNat j)) (f_M_shownIn_L4 fu' m (some 57) (Int32.ofNat a) (Int32.ofNat u) (Int32.ofNat j)) (fun a b => ∃ w, w < 8 ∧ a = (lv8 w, S) ∧ b = (Int32.ofNat w, m))
  | _, _, 0, _, _, _, _ => h2_l0
  | _, _, _ + 1, 0, _, _, _ => h2_m0
  | 0, j, fu + 1, fu' + 1, u, hk, hu => by
    unfold f_Shown_levelSince_L4 f_Shown_levelSince_C4 f_M_shownIn_L4 f_M_shownIn_C4
    have e : j = 3 := by omega
    subst e
    refine l_of (st_T (by decide)) (m_of (st_T (by decide)) (h2_ret ⟨u, by simpa using hu, rfl, rfl⟩))
  | k + 1, j, fu + 1, fu' + 1, u, hk, hu => by
    unfold f_Shown_levelSince_L4 f_Shown_levelSince_C4 f_M_shownIn_L4 f_M_shownIn_C4
    have nj : ¬ (3 : Int32) ≤ Int32.ofNat j := fun q => by
      have := (ole (a := 3) (b := j) (by decide) (by omega)).mp q
      omega
    obtain ⟨r1, r2⟩ := hr j (by omega)
    obtain ⟨z1, z2, z3⟩ := lv8_st j (by omega) u hu
    refine l_of (st_F nj) (m_of (st_F nj) (l_of (st_gRe hx) (l_of (st_aIe (oc (by omega)) r1) (m_of (st_gRe (hmf 29 84 rfl)) (m_of (st_aIe (v := sI m 84 (3 * a + j)) (ix3 a ha j (by omega)) rfl) ?_)))))
    by_cases c1 : sI m 84 (3 * a + j) = -1
    · refine l_of (st_T c1) (m_of (st_T c1) ?_)
      unfold f_Shown_levelSince_B36 f_M_shownIn_B31
      refine l_of st_val (m_of st_val (m_of st_val ?_))
      rw [o1, Int32.or_zero]
      exact h_shn_L hw hmf hx ha hr k (j + 1) fu fu' u (by omega) (by omega)
    · refine l_of (st_F c1) (m_of (st_F c1) (l_of (st_gRe hx) (l_of (st_aIe (oc (by omega)) r1) ?_)))
      have c3 : ¬ sI m 84 (3 * a + j) < 0 := fun q => by
        have := lt0.mp q
        rcases r2 with r2 | r2
        · exact c1 r2
        · omega
      refine l_of (st_F c3) (l_p2 (p_wgt hw (by omega)) (fun v S' q => ?_))
      cases q
      unfold f_Shown_levelSince_B36 f_M_shownIn_B31
      refine l_of st_val (l_of st_val (m_of st_val (m_of st_val ?_)))
      rw [o1, z1, z2]
      exact h_shn_L hw hmf hx ha hr k (j + 1) fu fu' _ (by omega) z3
/-- all that the way through a flow rests on -/
def GB (S m : AS) (x a p v n : Nat) : Prop := (K4F S ∧ MF m ∧ cNW S m ∧ cPts S m ∧ cWrg S m ∧ cKn S m ∧ cWgt S m ∧ cFac S m ∧ PF S) ∧ a < 60 ∧ RKa S m x a ∧ sR S x 3 = some p ∧ sI m 78 a = Int32.ofNat v ∧ FLR S m p v n ∧
  (∃ y q, sR S x 4 = some y ∧ sR S y 0 = some q ∧ ∀ f, f < 3 → sI S q f = sI m 84 (3 * a + f) ∧ mok (sI m 84 (3 * a + f))) ∧ SR m
theorem h_holds {x a p v n k : Nat} (g : GB S m x a p v n) (hk : k < n) (ht : 1 ≤ sI m 67 (12 * v + k) ∧ sI m 67 (12 * v + k) ≤ 4) : H2 (f_K_holds S (some 4) (some x) (Int32.ofNat k)) (f_M_holds m (some 57) (Int32.ofNat a) (Int32.ofNat (12 * v + k))) (fun p q => ∃ w, (w = 0 ∨ w = 1) ∧ p = (w, S) ∧ q = (w, m)) := by
  obtain ⟨⟨k4, hmf, nw, pt, wr, kn, hw, fc, pf⟩, a60, rk, r3, m78, f, ⟨y, q, r4, ry, hs⟩, sr⟩ := g
  have rka := rk
  obtain ⟨i, d1, d2, ⟨i6, l1, l2⟩, ⟨r0, r1, r2⟩, ⟨s0, s1, s2⟩⟩ := rk
  obtain ⟨⟨n1, n12⟩, v8, n5, nr⟩ := f
  have f : FLR S m p v n := ⟨⟨n1, n12⟩, v8, n5, nr⟩
  have ix : (Int32.ofNat (12 * v + k)).toNatClampNeg = 12 * v + k := oc (by omega)
  have ai : (Int32.ofNat a).toNatClampNeg = a := oc (by omega)
  unfold f_K_holds f_M_holds
  refine l_of (st_gRe r3) (l_of st_rv (l_p2 (p_first f hk) (fun u S' e => ?_)))
  cases e
  refine l_of (st_gRe r3) (l_of st_rv (l_p2 (p_kind f hk) (fun u S' e => ?_)))
  cases e
  refine m_of (st_gRe (hmf 20 75 rfl)) (m_of (st_aIe ai s0) (m_of (st_gRe (hmf 11 67 rfl)) (m_of (st_aIe (v := sI m 67 (12 * v + k)) ix rfl) ?_)))
  by_cases c1 : sI m 67 (12 * v + k) = 1
  · refine l_of (st_T c1) (l_of (st_gIe r1) (l_of (st_gRe r0) (l_of st_gI (l_of (st_b2 (bt_is (by omega) S)) ?_))))
    refine m_of (st_T c1) (m_of (st_gRe (hmf 5 62 rfl)) (m_of (st_gRe (hmf 21 76 rfl)) (m_of (st_aIe ai s1) (m_of (st_aIe (v := sI m 62 (6 * i + d1)) (ix6 i i6 d1 l1) rfl) (m_z (fun z => l_of st_z ?_))))))
    have k1 := (kn i i6 d1 l1).1
    by_cases b : bt (sI S (29 + 4 * i) 7) d1 = true
    · rw [if_pos b]
      exact h2_ret ⟨1, Or.inr rfl, rfl, by rw [z.elim (fun q => absurd q (k1.mp b)) id]⟩
    · rw [if_neg b]
      exact h2_ret ⟨0, Or.inl rfl, rfl, by rw [show sI m 62 (6 * i + d1) = 0 from Decidable.not_not.mp (fun q => b (k1.mpr q))]⟩
  · refine l_of (st_F c1) (m_of (st_F c1) (m_of (st_gRe (hmf 11 67 rfl)) (m_of (st_aIe (v := sI m 67 (12 * v + k)) ix rfl) ?_)))
    by_cases c2 : sI m 67 (12 * v + k) = 2
    · refine l_of (st_T c2) (m_of (st_T c2) (l_of st_rv (m_of st_rv (h2_22 (h_riskOf k4 hmf nw pt wr kn a60 rka 0) (fun u S' u' m' e => ?_)))))
      obtain ⟨w, w1, w2⟩ := e
      cases w1
      cases w2
      refine m_of (st_gRe (hmf 12 68 rfl)) (m_of (st_aIe (v := sI m 68 (12 * v + k)) ix rfl) ?_)
      by_cases c : u < sI m 68 (12 * v + k)
      · exact l_of (st_T c) (m_of (st_T c) (h2_ret ⟨0, Or.inl rfl, rfl, rfl⟩))
      · exact l_of (st_F c) (m_of (st_F c) (h2_ret ⟨1, Or.inr rfl, rfl, rfl⟩))
    · refine l_of (st_F c2) (m_of (st_F c2) (m_of (st_gRe (hmf 11 67 rfl)) (m_of (st_aIe (v := sI m 67 (12 * v + k)) ix rfl) ?_)))
      by_cases c3 : sI m 67 (12 * v + k) = 3
      · obtain ⟨g0, g2⟩ := (sr (12 * v + k) (by omega)).1 (Or.inr c3)
        obtain ⟨ff, f3, ef⟩ := ofNat_In (n := 2) (v := sI m 68 (12 * v + k)) ⟨g0, g2⟩
        refine l_of (st_T c3) (m_of (st_T c3) (l_of (st_gRe r0) (l_of st_rv ?_)))
        rw [ef]
        refine l_p2 (p_stateOf pf i6 (by omega)) (fun u S' e => ?_)
        cases e
        obtain ⟨e1, -⟩ := (fc i i6).1 ff (by omega)
        refine m_of (st_gRe (hmf 1 58 rfl)) (m_of (st_gRe (hmf 12 68 rfl)) (m_of (st_aIe ix ef) (m_of (st_aIe (v := sI m 58 (3 * i + ff)) (ix3 i (by omega) ff (by omega)) rfl) ?_)))
        rw [e1]
        by_cases c : sI m 58 (3 * i + ff) = 1
        · exact l_of (st_T c) (m_of (st_T c) (h2_ret ⟨1, Or.inr rfl, rfl, rfl⟩))
        · exact l_of (st_F c) (m_of (st_F c) (h2_ret ⟨0, Or.inl rfl, rfl, rfl⟩))
      · have c4 : sI m 67 (12 * v + k) = 4 := by
          have h1 := Int32.le_iff_toInt_le.mp ht.1
          have h2 := Int32.le_iff_toInt_le.mp ht.2
          rw [show (1 : Int32).toInt = 1 from by decide] at h1
          rw [show (4 : Int32).toInt = 4 from by decide] at h2
          have n1' : (sI m 67 (12 * v + k)).toInt ≠ 1 := fun z => c1 (Int32.toInt_inj.mp (by rw [z]; decide))
          have n2' : (sI m 67 (12 * v + k)).toInt ≠ 2 := fun z => c2 (Int32.toInt_inj.mp (by rw [z]; decide))
          have n3' : (sI m 67 (12 * v + k)).toInt ≠ 3 := fun z => c3 (Int32.toInt_inj.mp (by rw [z]; decide))
          exact Int32.toInt_inj.mp (by rw [show (4 : Int32).toInt = 4 from by decide]; omega)
        refine l_of (st_F c3) (l_of (st_T c4) (m_of (st_F c3) (l_of (st_gRe r4) (l_of st_rv (m_of st_rv ?_)))))
        have key := h_shn_L hw hmf ry a60 hs 3 0 kr_FU kr_FU 0 rfl (by decide)
        rw [show lv8 0 = 0 by decide +kernel] at key
        unfold f_Shown_levelSince f_M_shownIn
        refine h2_22 key (fun u S' u' m' e => ?_)
        obtain ⟨w, w8, w1, w2⟩ := e
        cases w1
        cases w2
        unfold f_M_levelOf
        refine m_of (st_b2 rfl) (m_of (st_gRe (hmf 12 68 rfl)) (m_of (st_aIe (v := sI m 68 (12 * v + k)) ix rfl) ?_))
        show H2 _ (if lv8 w < sI m 68 (12 * v + k) then _ else _) _
        by_cases c : lv8 w < sI m 68 (12 * v + k)
        · exact l_of (st_T c) (m_of (st_T c) (h2_ret ⟨0, Or.inl rfl, rfl, rfl⟩))
        · exact l_of (st_F c) (m_of (st_F c) (h2_ret ⟨1, Or.inr rfl, rfl, rfl⟩))
end
end
section
/-! ===== the way through tests, both side by side ===== -/
theorem te_iff {S : AS} {b k : Nat} : te S b k ↔ (1 ≤ sI S 67 (b + k) ∧ sI S 67 (b + k) ≤ 4) := (In_iff (lo := 1) (hi := 4)).symm
theorem rank12 {S : AS} {b n : Nat} {ρ : Nat → Nat} (h : rnk S b n ρ) (hn : n ≤ 12) (hx : nxin S b n) : ∃ r : Nat → Nat, (∀ k, k < 12 → r k ≤ 11) ∧ ∀ k, k < n → te S b k → ∀ t, nx S b k t → te S b t → r t < r k := by
  refine ⟨fun k => cb (fun t => decide (ρ t < ρ k)) 12, fun k hk => ?_, fun k hk hk2 t ht ht2 => ?_⟩
  · have l1 : cb (fun t => decide (ρ t < ρ k)) 12 < cb (fun _ => true) 12 := cb_lt (fun _ _ => rfl) (i := k) (by simp) rfl hk
    have l2 := cb_le (fun _ => true) 12
    show cb (fun t => decide (ρ t < ρ k)) 12 ≤ 11
    omega
  · have lt := h.2 k hk hk2 t ht ht2
    have k5 : (sI S 67 (b + k)).toInt < 5 := by
      have := hk2.2
      omega
    have tn := nxin_t hx hk k5 ht
    exact cb_lt (f := fun j => decide (ρ j < ρ t)) (g := fun j => decide (ρ j < ρ k)) (i := t) (fun j hj => by
      have := of_decide_eq_true hj
      exact decide_eq_true (by omega)) (by simp) (decide_eq_true lt) (by omega)
end
section
section
variable {S m : AS}
/-- a step, or none: what the reference has of it -/
def STP2 (m : AS) (v n : Nat) (st at' : Int32) : Prop := st = -1 ∨ ∃ k, k < n ∧ st = Int32.ofNat k ∧ at' = Int32.ofNat (12 * v + k) ∧ ¬ (1 ≤ sI m 67 (12 * v + k) ∧ sI m 67 (12 * v + k) ≤ 4)
theorem h_go_L {x a p v n : Nat} (g : GB S m x a p v n) (hnx : nxin m (12 * v) n) {r : Nat → Nat} (hr : ∀ k, k < n → te m (12 * v) k → ∀ t, nx m (12 * v) k t → te m (12 * v) t → r t < r k) {Q : AS → AS → Prop}
    (fin : ∀ st at', STP2 m v n st at' → H2 (f_K_goOn_B44 S (some 4) (some x) st) (f_M_go_B77 m (some 57) (Int32.ofNat a) st at') Q) :
    ∀ (fu fu' i : Nat) (st at' : Int32), i ≤ 12 → (st = -1 ∨ ∃ k, k < n ∧ st = Int32.ofNat k ∧ at' = Int32.ofNat (12 * v + k) ∧ (te m (12 * v) k → i + r k ≤ 11)) → H2 (f_K_goOn_L5 fu S (some 4) (some x) st (Int32.ofNat i)) (f_M_go_L15 fu' m (some 57) (Int32.ofNat a) st at') Q
  | 0, _, _, _, _, _, _ => h2_l0
  | _ + 1, 0, _, _, _, _, _ => h2_m0
  | fu + 1, fu' + 1, i, st, at', hi, hst => by
    have gg := g
    obtain ⟨⟨k4, hmf, -, -, -, -, -, -, -⟩, a60, -, r3, m78, f, -, sr⟩ := gg
    have f12 := f.1.2
    have v8 := f.2.1
    have ai : (Int32.ofNat a).toNatClampNeg = a := oc (by omega)
    unfold f_K_goOn_L5 f_K_goOn_C5 f_M_go_L15 f_M_go_C15
    rcases hst with rfl | ⟨k, hk, rfl, rfl, hte⟩
    · refine m_of (st_T rfl) (l_if (fun _ => fin _ _ (Or.inl rfl)) (fun _ => ?_))
      refine l_of (st_gRe r3) (l_of st_rv (l_p2 p_testN (fun u S' e => ?_)))
      cases e
      exact l_of (st_T rfl) (fin _ _ (Or.inl rfl))
    · have ix : (Int32.ofNat (12 * v + k)).toNatClampNeg = 12 * v + k := oc (by omega)
      refine m_of (st_F (fun q => ofNat_ne (o := k) (by omega) q.symm)) (m_of (st_gRe (hmf 11 67 rfl)) (m_of (st_aIe (v := sI m 67 (12 * v + k)) ix rfl) (m_of (st_b2 (q_isT m _)) ?_)))
      by_cases t : 1 ≤ sI m 67 (12 * v + k) ∧ sI m 67 (12 * v + k) ≤ 4
      · have tk : te m (12 * v) k := te_iff.mpr t
        have ri := hte tk
        rw [if_pos t]
        refine m_of (st_F one0) (m_of st_rv (l_of (st_F (fun q => by
          have := (ole (a := 12) (b := i) (by decide) (by omega)).mp q
          omega)) (l_of (st_gRe r3) (l_of st_rv (l_p2 (p_test f hk) (fun u S' e => ?_))))))
        cases e
        rw [if_pos t]
        refine l_of (st_F one0) (l_of (st_gRe r3) (l_of st_rv (h2_22 (h_holds g hk t) (fun u S' u' m' e => ?_))))
        obtain ⟨w, w01, e1, e2⟩ := e
        cases e1
        cases e2
        have k5 : (sI m 67 (12 * v + k)).toInt < 5 := by
          have := tk.2
          show (sI m 67 (12 * v + k)).toInt < 5
          omega
        have go : ∀ y : Int32, In (-1) 11 y → (∀ t : Nat, y.toInt = (t : Int) → nx m (12 * v) k t) → H2 (f_K_goOn_L5 fu S (some 4) (some x) y (Int32.ofNat i + 1)) (f_M_go_B60 (f_M_go_L15 fu') m (some 57) (Int32.ofNat a) y) Q := fun y hy hyt => by
          unfold f_M_go_B60
          refine m_of (st_gRe (hmf 23 78 rfl)) (m_of (st_aIe ai m78) (m_of st_val ?_))
          rw [o1]
          refine h_go_L g hnx hr fin fu fu' (i + 1) y _ (by omega) ?_
          by_cases c : y.toInt < 0
          · exact Or.inl (Int32.toInt_inj.mp (by rw [show (-1 : Int32).toInt = -1 from by decide]; have := hy.1; omega))
          · obtain ⟨t', ht', rfl⟩ := ofNat_In (n := 11) (v := y) ⟨by omega, hy.2⟩
            have hxt := hyt t' (oi (by omega))
            have tn := nxin_t hnx hk k5 hxt
            refine Or.inr ⟨t', tn, rfl, mulv v v8 t' (by omega), fun h2 => ?_⟩
            have := hr k hk tk t' hxt h2
            omega
        obtain ⟨y0, y1⟩ := (sr (12 * v + k) (by omega)).2 k5
        refine l_of st_rv (l_p2 (p_next f hk u) (fun u S' e => ?_))
        cases e
        refine l_of st_val ?_
        by_cases c : u = 0
        · rw [if_pos c]
          refine m_of (st_T c) (m_of (st_gRe (hmf 15 71 rfl)) (m_of (st_aIe (v := sI m 71 (12 * v + k)) ix rfl) (go _ y1 (fun t ht => Or.inr ht))))
        · rw [if_neg c]
          refine m_of (st_F c) (m_of (st_gRe (hmf 14 70 rfl)) (m_of (st_aIe (v := sI m 70 (12 * v + k)) ix rfl) (go _ y0 (fun t ht => Or.inl ht))))
      · rw [if_neg t]
        refine m_of (st_T rfl) (l_if (fun _ => fin _ _ (Or.inr ⟨k, hk, rfl, rfl, t⟩)) (fun _ => ?_))
        refine l_of (st_gRe r3) (l_of st_rv (l_p2 (p_test f hk) (fun u S' e => ?_)))
        cases e
        rw [if_neg t]
        exact l_of (st_T rfl) (fin _ _ (Or.inr ⟨k, hk, rfl, rfl, t⟩))
end
end
section
section
variable {S m : AS}
/-- from a step on -/
theorem h_goOn0 {x a p v n : Nat} (g : GB S m x a p v n) (hac : AC m) (hv : v < nV m) (h9 : sI m 57 9 = Int32.ofNat (nV m)) (n8 : nV m ≤ 8) (h66 : sI m 66 v = Int32.ofNat n) {Q : AS → AS → Prop}
    (fin : ∀ st at', STP2 m v n st at' → H2 (f_K_goOn_B44 S (some 4) (some x) st) (f_M_go_B77 m (some 57) (Int32.ofNat a) st at') Q) {st : Int32} (hst : st = -1 ∨ ∃ k, k < n ∧ st = Int32.ofNat k) :
    H2 (f_K_goOn S (some 4) (some x) st) (f_M_go m (some 57) (Int32.ofNat a) st) Q := by
  have gg := g
  obtain ⟨⟨k4, hmf, -, -, -, -, -, -, -⟩, a60, -, r3, m78, f, -, sr⟩ := gg
  have f12 := f.1.2
  have v8 := f.2.1
  have ai : (Int32.ofNat a).toNatClampNeg = a := oc (by omega)
  have hV : (v : Int) < (sI m 57 9).toInt := by
    rw [h9, oi (by omega)]
    omega
  have hN : (sI m 66 v).toInt = (n : Int) := by rw [h66, oi (by omega)]
  obtain ⟨-, hnx, ρ, hρ⟩ := hac v n hV hN
  obtain ⟨r, r11, hr⟩ := rank12 hρ f12 hnx
  unfold f_K_goOn f_M_go
  refine m_of (st_gRe (hmf 23 78 rfl)) (m_of (st_aIe ai m78) (m_of st_val ?_))
  refine h_go_L g hnx hr fin kr_FU kr_FU 0 st _ (by omega) ?_
  rcases hst with q | ⟨k, hk, rfl⟩
  · exact Or.inl q
  · exact Or.inr ⟨k, hk, rfl, mulv v v8 k (by omega), fun _ => by have := r11 k (by omega); omega⟩
end
end
section
/-! ===== the full relation again, but for some components (wip/gen/mkasm.py) ===== -/
def ka_AST : List Nat := [100, 109, 202, 300, 600, 700, 800, 1000, 1001, 1002, 1003, 1004, 1100, 1200, 1300, 1303, 1304, 1305, 1306, 1307, 1308, 1310, 1311, 1400, 1500, 1600, 1700, 1701, 1702, 1703, 2002, 2102, 2202, 2302, 2402, 2502, 2602, 4005, 4100, 4201, 4202, 4300, 4304, 4305, 4306, 4401, 4402, 4403, 4404, 4405, 4406, 4407, 4408, 4409, 4410, 4411, 4501, 4502, 4503, 4504, 4505, 4506, 4601, 4602, 4603, 4604, 4800, 5200, 5201, 5202, 50105, 50500, 50900, 51301, 51302, 51309, 52001, 52101, 52201, 52301, 52401, 52501, 52601, 53000, 53100, 53200, 53300, 53400, 53500, 53600, 54000, 54001, 54002, 54003, 54004, 54200, 54203, 54204, 54301, 54302, 54303, 54400, 54500, 54600, 54700]
def ma_AST : List Nat := [10000, 10009, 10019, 10030, 10039, 10046, 10052, 10060, 10061, 10062, 10063, 10070, 10077, 10100, 10200, 10300, 10400, 10500, 10600, 10700, 10800, 11000, 11100, 11200, 11300, 11400, 11500, 11700, 11800, 12000, 12100, 12200, 12300, 12900, 13100, 13200, 13300, 13400, 13500, 13600, 13700, 13800, 14000, 14100, 14200, 14300, 14400, 14500, 14700, 14800, 14900, 15000, 15100, 15300, 15400, 15500, 15600, 15700, 15800, 15900, 16400, 16500, 16600, 16700, 16800, 16900, 17100, 17200, 17300, 17400, 17500, 17600, 17800, 17900]
theorem FA_AST {T T' Tm Tm' : Nat → Nat} {S S' m m' : AS} (hT : TV T S) (hm : TI Tm m) (h : FR S m) (k : Kp T T' ka_AST S S') (q : Kp Tm Tm' ma_AST m m') (xcAst : cAst S' m') : FR S' m' := by
  have b := FR_BB hT hm h
  have K : ∀ {ds : List Nat}, ds.all (fun z => ka_AST.contains z) = true → Kp T T' ds S S' := fun hs => Kp_sub k (fun z hz => List.contains_iff_mem.mp (List.all_eq_true.mp hs z hz))
  have Q : ∀ {ds : List Nat}, ds.all (fun z => ma_AST.contains z) = true → Kp Tm Tm' ds m m' := fun hs => Kp_sub q (fun z hz => List.contains_iff_mem.mp (List.all_eq_true.mp hs z hz))
  exact ⟨cNW_fr b h.NW (K (by decide +kernel)) (Q (by decide +kernel)), cPF_fr b h.PF (K (by decide +kernel)) (Q (by decide +kernel)), cWgt_fr b h.Wgt (K (by decide +kernel)) (Q (by decide +kernel)), cFac_fr b h.Fac (K (by decide +kernel)) (Q (by decide +kernel)), cWrg_fr b h.Wrg (K (by decide +kernel)) (Q (by decide +kernel)), cKn_fr b h.Kn (K (by decide +kernel)) (Q (by decide +kernel)), cCon_fr b h.Con (K (by decide +kernel)) (Q (by decide +kernel)), cHlp_fr b h.Hlp (K (by decide +kernel)) (Q (by decide +kernel)), cAwy_fr b h.Awy (K (by decide +kernel)) (Q (by decide +kernel)), cPts_fr b h.Pts (K (by decide +kernel)) (Q (by decide +kernel)), cLnk_fr b h.Lnk (K (by decide +kernel)) (Q (by decide +kernel)), cVer_fr b h.Ver (K (by decide +kernel)) (Q (by decide +kernel)), cDrB_fr b h.DrB (K (by decide +kernel)) (Q (by decide +kernel)), cAtt_fr b h.Att (K (by decide +kernel)) (Q (by decide +kernel)), xcAst, cAsh_fr b h.Ash (K (by decide +kernel)) (Q (by decide +kernel)), cSes_fr b h.Ses (K (by decide +kernel)) (Q (by decide +kernel)), cUsd_fr b h.Usd (K (by decide +kernel)) (Q (by decide +kernel)), cLiv_fr b h.Liv (K (by decide +kernel)) (Q (by decide +kernel)), cSsh_fr b h.Ssh (K (by decide +kernel)) (Q (by decide +kernel)), cMin_fr b h.Min (K (by decide +kernel)) (Q (by decide +kernel)), cCod_fr b h.Cod (K (by decide +kernel)) (Q (by decide +kernel)), cFre_fr b h.Fre (K (by decide +kernel)) (Q (by decide +kernel)), cFam_fr b h.Fam (K (by decide +kernel)) (Q (by decide +kernel)), cNum_fr b h.Num (K (by decide +kernel)) (Q (by decide +kernel)), cGod_fr b h.God (K (by decide +kernel)) (Q (by decide +kernel)), cTok_fr b h.Tok (K (by decide +kernel)) (Q (by decide +kernel)), cAud_fr b h.Aud (K (by decide +kernel)) (Q (by decide +kernel)), cSrv_fr b h.Srv (K (by decide +kernel)) (Q (by decide +kernel)), cNed_fr b h.Ned (K (by decide +kernel)) (Q (by decide +kernel)), cChe_fr b h.Che (K (by decide +kernel)) (Q (by decide +kernel)), cKey_fr b h.Key (K (by decide +kernel)) (Q (by decide +kernel)), cRec_fr b h.Rec (K (by decide +kernel)) (Q (by decide +kernel)), cAU_fr b h.AU (K (by decide +kernel)) (Q (by decide +kernel))⟩
def ka_AK : List Nat := [100, 109, 202, 300, 600, 700, 800, 1000, 1001, 1002, 1003, 1004, 1100, 1200, 1300, 1303, 1304, 1305, 1306, 1310, 1311, 1400, 1500, 1600, 1700, 1701, 1702, 1703, 2002, 2102, 2202, 2302, 2402, 2502, 2602, 4005, 4100, 4201, 4202, 4300, 4304, 4305, 4306, 4401, 4402, 4403, 4404, 4405, 4406, 4407, 4408, 4409, 4410, 4411, 4501, 4502, 4503, 4504, 4505, 4506, 4601, 4602, 4603, 4604, 4800, 5200, 5201, 5202, 50105, 50500, 50900, 51301, 51302, 51309, 52001, 52101, 52201, 52301, 52401, 52501, 52601, 53000, 53100, 53200, 53300, 53400, 53500, 53600, 54000, 54001, 54002, 54003, 54004, 54200, 54203, 54204, 54301, 54302, 54303, 54400, 54500, 54600, 54700]
def ma_AK : List Nat := [10000, 10009, 10019, 10030, 10039, 10046, 10052, 10060, 10061, 10062, 10063, 10070, 10077, 10100, 10200, 10300, 10400, 10700, 10800, 11000, 11100, 11200, 11300, 11400, 11500, 11700, 11800, 12000, 12100, 12200, 12300, 12900, 13100, 13200, 13300, 13400, 13500, 13600, 13700, 13800, 14000, 14100, 14200, 14300, 14400, 14500, 14700, 14800, 14900, 15000, 15100, 15300, 15400, 15500, 15600, 15700, 15800, 15900, 16400, 16500, 16600, 16700, 16800, 16900, 17100, 17200, 17300, 17400, 17500, 17600, 17800, 17900]
theorem FA_AK {T T' Tm Tm' : Nat → Nat} {S S' m m' : AS} (hT : TV T S) (hm : TI Tm m) (h : FR S m) (k : Kp T T' ka_AK S S') (q : Kp Tm Tm' ma_AK m m') (xcKn : cKn S' m') (xcAst : cAst S' m') : FR S' m' := by
  have b := FR_BB hT hm h
  have K : ∀ {ds : List Nat}, ds.all (fun z => ka_AK.contains z) = true → Kp T T' ds S S' := fun hs => Kp_sub k (fun z hz => List.contains_iff_mem.mp (List.all_eq_true.mp hs z hz))
  have Q : ∀ {ds : List Nat}, ds.all (fun z => ma_AK.contains z) = true → Kp Tm Tm' ds m m' := fun hs => Kp_sub q (fun z hz => List.contains_iff_mem.mp (List.all_eq_true.mp hs z hz))
  exact ⟨cNW_fr b h.NW (K (by decide +kernel)) (Q (by decide +kernel)), cPF_fr b h.PF (K (by decide +kernel)) (Q (by decide +kernel)), cWgt_fr b h.Wgt (K (by decide +kernel)) (Q (by decide +kernel)), cFac_fr b h.Fac (K (by decide +kernel)) (Q (by decide +kernel)), cWrg_fr b h.Wrg (K (by decide +kernel)) (Q (by decide +kernel)), xcKn, cCon_fr b h.Con (K (by decide +kernel)) (Q (by decide +kernel)), cHlp_fr b h.Hlp (K (by decide +kernel)) (Q (by decide +kernel)), cAwy_fr b h.Awy (K (by decide +kernel)) (Q (by decide +kernel)), cPts_fr b h.Pts (K (by decide +kernel)) (Q (by decide +kernel)), cLnk_fr b h.Lnk (K (by decide +kernel)) (Q (by decide +kernel)), cVer_fr b h.Ver (K (by decide +kernel)) (Q (by decide +kernel)), cDrB_fr b h.DrB (K (by decide +kernel)) (Q (by decide +kernel)), cAtt_fr b h.Att (K (by decide +kernel)) (Q (by decide +kernel)), xcAst, cAsh_fr b h.Ash (K (by decide +kernel)) (Q (by decide +kernel)), cSes_fr b h.Ses (K (by decide +kernel)) (Q (by decide +kernel)), cUsd_fr b h.Usd (K (by decide +kernel)) (Q (by decide +kernel)), cLiv_fr b h.Liv (K (by decide +kernel)) (Q (by decide +kernel)), cSsh_fr b h.Ssh (K (by decide +kernel)) (Q (by decide +kernel)), cMin_fr b h.Min (K (by decide +kernel)) (Q (by decide +kernel)), cCod_fr b h.Cod (K (by decide +kernel)) (Q (by decide +kernel)), cFre_fr b h.Fre (K (by decide +kernel)) (Q (by decide +kernel)), cFam_fr b h.Fam (K (by decide +kernel)) (Q (by decide +kernel)), cNum_fr b h.Num (K (by decide +kernel)) (Q (by decide +kernel)), cGod_fr b h.God (K (by decide +kernel)) (Q (by decide +kernel)), cTok_fr b h.Tok (K (by decide +kernel)) (Q (by decide +kernel)), cAud_fr b h.Aud (K (by decide +kernel)) (Q (by decide +kernel)), cSrv_fr b h.Srv (K (by decide +kernel)) (Q (by decide +kernel)), cNed_fr b h.Ned (K (by decide +kernel)) (Q (by decide +kernel)), cChe_fr b h.Che (K (by decide +kernel)) (Q (by decide +kernel)), cKey_fr b h.Key (K (by decide +kernel)) (Q (by decide +kernel)), cRec_fr b h.Rec (K (by decide +kernel)) (Q (by decide +kernel)), cAU_fr b h.AU (K (by decide +kernel)) (Q (by decide +kernel))⟩
def ka_BEG : List Nat := [100, 109, 202, 300, 600, 700, 800, 1000, 1001, 1002, 1003, 1004, 1100, 1200, 1300, 1303, 1304, 1305, 1306, 1307, 1308, 1310, 1311, 1400, 1500, 1600, 1700, 1701, 1702, 1703, 2002, 2202, 2302, 2402, 2502, 2602, 4005, 4100, 4300, 4304, 4305, 4306, 4401, 4402, 4403, 4404, 4405, 4406, 4407, 4408, 4409, 4410, 4411, 4501, 4502, 4503, 4504, 4505, 4506, 4601, 4602, 4603, 4604, 4800, 5200, 5201, 5202, 50105, 50500, 50900, 51301, 51302, 51309, 52001, 52201, 52301, 52401, 52501, 52601, 53000, 53200, 53300, 53400, 53500, 53600, 54000, 54001, 54002, 54003, 54004, 54301, 54302, 54303, 54400, 54500, 54600, 54700]
def ma_BEG : List Nat := [10000, 10009, 10030, 10039, 10046, 10052, 10060, 10061, 10062, 10063, 10070, 10077, 10100, 10200, 10300, 10400, 10500, 10600, 10700, 10800, 11000, 11100, 11200, 11300, 11400, 11500, 11700, 11800, 13100, 13200, 13300, 13400, 13500, 13600, 13700, 13800, 14000, 14100, 14200, 14300, 14400, 14500, 14700, 14800, 14900, 15000, 15100, 15300, 15400, 15500, 15600, 15700, 15800, 15900, 16400, 16500, 16600, 16700, 16800, 16900, 17100, 17200, 17300, 17400, 17500, 17600, 17800, 17900]
theorem FA_BEG {T T' Tm Tm' : Nat → Nat} {S S' m m' : AS} (hT : TV T S) (hm : TI Tm m) (h : FR S m) (k : Kp T T' ka_BEG S S') (q : Kp Tm Tm' ma_BEG m m') (xcAtt : cAtt S' m') (xcAst : cAst S' m') (xcAsh : cAsh S' m') (xcMin : cMin S' m') : FR S' m' := by
  have b := FR_BB hT hm h
  have K : ∀ {ds : List Nat}, ds.all (fun z => ka_BEG.contains z) = true → Kp T T' ds S S' := fun hs => Kp_sub k (fun z hz => List.contains_iff_mem.mp (List.all_eq_true.mp hs z hz))
  have Q : ∀ {ds : List Nat}, ds.all (fun z => ma_BEG.contains z) = true → Kp Tm Tm' ds m m' := fun hs => Kp_sub q (fun z hz => List.contains_iff_mem.mp (List.all_eq_true.mp hs z hz))
  exact ⟨cNW_fr b h.NW (K (by decide +kernel)) (Q (by decide +kernel)), cPF_fr b h.PF (K (by decide +kernel)) (Q (by decide +kernel)), cWgt_fr b h.Wgt (K (by decide +kernel)) (Q (by decide +kernel)), cFac_fr b h.Fac (K (by decide +kernel)) (Q (by decide +kernel)), cWrg_fr b h.Wrg (K (by decide +kernel)) (Q (by decide +kernel)), cKn_fr b h.Kn (K (by decide +kernel)) (Q (by decide +kernel)), cCon_fr b h.Con (K (by decide +kernel)) (Q (by decide +kernel)), cHlp_fr b h.Hlp (K (by decide +kernel)) (Q (by decide +kernel)), cAwy_fr b h.Awy (K (by decide +kernel)) (Q (by decide +kernel)), cPts_fr b h.Pts (K (by decide +kernel)) (Q (by decide +kernel)), cLnk_fr b h.Lnk (K (by decide +kernel)) (Q (by decide +kernel)), cVer_fr b h.Ver (K (by decide +kernel)) (Q (by decide +kernel)), cDrB_fr b h.DrB (K (by decide +kernel)) (Q (by decide +kernel)), xcAtt, xcAst, xcAsh, cSes_fr b h.Ses (K (by decide +kernel)) (Q (by decide +kernel)), cUsd_fr b h.Usd (K (by decide +kernel)) (Q (by decide +kernel)), cLiv_fr b h.Liv (K (by decide +kernel)) (Q (by decide +kernel)), cSsh_fr b h.Ssh (K (by decide +kernel)) (Q (by decide +kernel)), xcMin, cCod_fr b h.Cod (K (by decide +kernel)) (Q (by decide +kernel)), cFre_fr b h.Fre (K (by decide +kernel)) (Q (by decide +kernel)), cFam_fr b h.Fam (K (by decide +kernel)) (Q (by decide +kernel)), cNum_fr b h.Num (K (by decide +kernel)) (Q (by decide +kernel)), cGod_fr b h.God (K (by decide +kernel)) (Q (by decide +kernel)), cTok_fr b h.Tok (K (by decide +kernel)) (Q (by decide +kernel)), cAud_fr b h.Aud (K (by decide +kernel)) (Q (by decide +kernel)), cSrv_fr b h.Srv (K (by decide +kernel)) (Q (by decide +kernel)), cNed_fr b h.Ned (K (by decide +kernel)) (Q (by decide +kernel)), cChe_fr b h.Che (K (by decide +kernel)) (Q (by decide +kernel)), cKey_fr b h.Key (K (by decide +kernel)) (Q (by decide +kernel)), cRec_fr b h.Rec (K (by decide +kernel)) (Q (by decide +kernel)), cAU_fr b h.AU (K (by decide +kernel)) (Q (by decide +kernel))⟩
def ka_ANS : List Nat := [100, 109, 600, 700, 800, 1000, 1001, 1002, 1003, 1004, 1100, 1200, 1300, 1307, 1308, 1310, 1311, 1600, 1700, 1701, 1702, 1703, 2002, 2102, 2202, 2302, 2402, 2502, 2602, 4005, 4100, 4201, 4202, 4300, 4304, 4305, 4306, 4401, 4402, 4403, 4404, 4405, 4406, 4407, 4408, 4409, 4410, 4411, 4501, 4502, 4503, 4504, 4505, 4506, 4601, 4602, 4603, 4604, 5200, 5201, 5202, 50105, 50500, 50900, 51301, 51302, 51309, 52001, 52101, 52201, 52301, 52401, 52501, 52601, 53000, 53100, 53200, 53300, 53400, 53500, 53600, 54000, 54001, 54002, 54003, 54004, 54200, 54203, 54204, 54301, 54302, 54303, 54400, 54500, 54600, 54700]
def ma_ANS : List Nat := [10000, 10009, 10019, 10030, 10039, 10046, 10052, 10060, 10061, 10062, 10063, 10070, 10500, 10600, 10700, 10800, 11000, 11100, 11200, 11300, 11400, 11500, 11700, 11800, 12000, 12100, 12200, 12300, 13100, 13200, 13300, 13400, 13500, 13700, 13800, 14000, 14100, 14200, 14300, 14400, 14500, 14700, 14800, 14900, 15000, 15100, 15300, 15400, 15500, 15600, 15700, 15800, 15900, 16400, 16500, 16600, 16700, 16800, 16900, 17100, 17200, 17300, 17400, 17500, 17600]
theorem FA_ANS {T T' Tm Tm' : Nat → Nat} {S S' m m' : AS} (hT : TV T S) (hm : TI Tm m) (h : FR S m) (k : Kp T T' ka_ANS S S') (q : Kp Tm Tm' ma_ANS m m') (xcFac : cFac S' m') (xcWrg : cWrg S' m') (xcAst : cAst S' m') (xcAsh : cAsh S' m') (xcSsh : cSsh S' m') (xcAU : cAU S' m') : FR S' m' := by
  have b := FR_BB hT hm h
  have K : ∀ {ds : List Nat}, ds.all (fun z => ka_ANS.contains z) = true → Kp T T' ds S S' := fun hs => Kp_sub k (fun z hz => List.contains_iff_mem.mp (List.all_eq_true.mp hs z hz))
  have Q : ∀ {ds : List Nat}, ds.all (fun z => ma_ANS.contains z) = true → Kp Tm Tm' ds m m' := fun hs => Kp_sub q (fun z hz => List.contains_iff_mem.mp (List.all_eq_true.mp hs z hz))
  exact ⟨cNW_fr b h.NW (K (by decide +kernel)) (Q (by decide +kernel)), cPF_fr b h.PF (K (by decide +kernel)) (Q (by decide +kernel)), cWgt_fr b h.Wgt (K (by decide +kernel)) (Q (by decide +kernel)), xcFac, xcWrg, cKn_fr b h.Kn (K (by decide +kernel)) (Q (by decide +kernel)), cCon_fr b h.Con (K (by decide +kernel)) (Q (by decide +kernel)), cHlp_fr b h.Hlp (K (by decide +kernel)) (Q (by decide +kernel)), cAwy_fr b h.Awy (K (by decide +kernel)) (Q (by decide +kernel)), cPts_fr b h.Pts (K (by decide +kernel)) (Q (by decide +kernel)), cLnk_fr b h.Lnk (K (by decide +kernel)) (Q (by decide +kernel)), cVer_fr b h.Ver (K (by decide +kernel)) (Q (by decide +kernel)), cDrB_fr b h.DrB (K (by decide +kernel)) (Q (by decide +kernel)), cAtt_fr b h.Att (K (by decide +kernel)) (Q (by decide +kernel)), xcAst, xcAsh, cSes_fr b h.Ses (K (by decide +kernel)) (Q (by decide +kernel)), cUsd_fr b h.Usd (K (by decide +kernel)) (Q (by decide +kernel)), cLiv_fr b h.Liv (K (by decide +kernel)) (Q (by decide +kernel)), xcSsh, cMin_fr b h.Min (K (by decide +kernel)) (Q (by decide +kernel)), cCod_fr b h.Cod (K (by decide +kernel)) (Q (by decide +kernel)), cFre_fr b h.Fre (K (by decide +kernel)) (Q (by decide +kernel)), cFam_fr b h.Fam (K (by decide +kernel)) (Q (by decide +kernel)), cNum_fr b h.Num (K (by decide +kernel)) (Q (by decide +kernel)), cGod_fr b h.God (K (by decide +kernel)) (Q (by decide +kernel)), cTok_fr b h.Tok (K (by decide +kernel)) (Q (by decide +kernel)), cAud_fr b h.Aud (K (by decide +kernel)) (Q (by decide +kernel)), cSrv_fr b h.Srv (K (by decide +kernel)) (Q (by decide +kernel)), cNed_fr b h.Ned (K (by decide +kernel)) (Q (by decide +kernel)), cChe_fr b h.Che (K (by decide +kernel)) (Q (by decide +kernel)), cKey_fr b h.Key (K (by decide +kernel)) (Q (by decide +kernel)), cRec_fr b h.Rec (K (by decide +kernel)) (Q (by decide +kernel)), xcAU⟩
def ka_GO : List Nat := [100, 600, 700, 800, 1000, 1001, 1002, 1003, 1004, 1100, 1200, 1300, 1303, 1304, 1305, 1306, 1310, 1311, 1400, 1500, 1600, 1700, 1701, 1702, 1703, 2002, 2102, 2402, 2502, 2602, 4005, 4100, 4201, 4202, 4406, 4407, 4408, 4409, 4410, 4411, 4501, 4502, 4503, 4504, 4505, 4506, 4601, 4602, 4603, 4604, 5200, 5201, 5202, 50105, 50500, 50900, 51301, 51302, 51309, 52001, 52101, 52301, 52401, 52501, 52601, 53000, 53100, 53300, 53400, 53500, 53600, 54000, 54001, 54002, 54003, 54004, 54200, 54203, 54204, 54500, 54600]
def ma_GO : List Nat := [10000, 10009, 10019, 10039, 10046, 10052, 10060, 10061, 10062, 10063, 10070, 10100, 10200, 10300, 10400, 10700, 10800, 11000, 11100, 11200, 11300, 11400, 11500, 11700, 11800, 12000, 12100, 12200, 12300, 13700, 13800, 14500, 14700, 14800, 14900, 15000, 15100, 15300, 15400, 15500, 15600, 15700, 15800, 15900, 16400, 16500, 16600, 16700, 16800, 16900, 17100, 17200, 17300, 17400, 17500, 17600]
theorem FA_GO {T T' Tm Tm' : Nat → Nat} {S S' m m' : AS} (hT : TV T S) (hm : TI Tm m) (h : FR S m) (k : Kp T T' ka_GO S S') (q : Kp Tm Tm' ma_GO m m') (xcKn : cKn S' m') (xcAst : cAst S' m') (xcAsh : cAsh S' m') (xcSes : cSes S' m') (xcUsd : cUsd S' m') (xcLiv : cLiv S' m') (xcSsh : cSsh S' m') (xcMin : cMin S' m') (xcCod : cCod S' m') (xcAU : cAU S' m') : FR S' m' := by
  have b := FR_BB hT hm h
  have K : ∀ {ds : List Nat}, ds.all (fun z => ka_GO.contains z) = true → Kp T T' ds S S' := fun hs => Kp_sub k (fun z hz => List.contains_iff_mem.mp (List.all_eq_true.mp hs z hz))
  have Q : ∀ {ds : List Nat}, ds.all (fun z => ma_GO.contains z) = true → Kp Tm Tm' ds m m' := fun hs => Kp_sub q (fun z hz => List.contains_iff_mem.mp (List.all_eq_true.mp hs z hz))
  exact ⟨cNW_fr b h.NW (K (by decide +kernel)) (Q (by decide +kernel)), cPF_fr b h.PF (K (by decide +kernel)) (Q (by decide +kernel)), cWgt_fr b h.Wgt (K (by decide +kernel)) (Q (by decide +kernel)), cFac_fr b h.Fac (K (by decide +kernel)) (Q (by decide +kernel)), cWrg_fr b h.Wrg (K (by decide +kernel)) (Q (by decide +kernel)), xcKn, cCon_fr b h.Con (K (by decide +kernel)) (Q (by decide +kernel)), cHlp_fr b h.Hlp (K (by decide +kernel)) (Q (by decide +kernel)), cAwy_fr b h.Awy (K (by decide +kernel)) (Q (by decide +kernel)), cPts_fr b h.Pts (K (by decide +kernel)) (Q (by decide +kernel)), cLnk_fr b h.Lnk (K (by decide +kernel)) (Q (by decide +kernel)), cVer_fr b h.Ver (K (by decide +kernel)) (Q (by decide +kernel)), cDrB_fr b h.DrB (K (by decide +kernel)) (Q (by decide +kernel)), cAtt_fr b h.Att (K (by decide +kernel)) (Q (by decide +kernel)), xcAst, xcAsh, xcSes, xcUsd, xcLiv, xcSsh, xcMin, xcCod, cFre_fr b h.Fre (K (by decide +kernel)) (Q (by decide +kernel)), cFam_fr b h.Fam (K (by decide +kernel)) (Q (by decide +kernel)), cNum_fr b h.Num (K (by decide +kernel)) (Q (by decide +kernel)), cGod_fr b h.God (K (by decide +kernel)) (Q (by decide +kernel)), cTok_fr b h.Tok (K (by decide +kernel)) (Q (by decide +kernel)), cAud_fr b h.Aud (K (by decide +kernel)) (Q (by decide +kernel)), cSrv_fr b h.Srv (K (by decide +kernel)) (Q (by decide +kernel)), cNed_fr b h.Ned (K (by decide +kernel)) (Q (by decide +kernel)), cChe_fr b h.Che (K (by decide +kernel)) (Q (by decide +kernel)), cKey_fr b h.Key (K (by decide +kernel)) (Q (by decide +kernel)), cRec_fr b h.Rec (K (by decide +kernel)) (Q (by decide +kernel)), xcAU⟩
def kf_KS : List Nat := [109, 202, 300, 1307, 1308, 2202, 2302, 4300, 4304, 4305, 4306, 4401, 4402, 4403, 4404, 4405, 4800, 52101, 52201, 52301, 53100, 53200, 53300, 54204, 54301, 54302, 54303, 54400, 54700]
def mf_KS : List Nat := [10019, 10030, 10039, 10046, 10077, 10500, 10600, 12900, 13100, 13200, 13300, 13400, 13500, 13600, 14000, 14100, 14200, 14300, 14400, 14500, 17800, 17900]
theorem FP_KS {T T' Tm Tm' : Nat → Nat} {S S' m m' : AS} (b : BB T Tm S m) (h : cKn S m ∧ cAsh S m ∧ cSes S m ∧ cUsd S m ∧ cLiv S m ∧ cSsh S m ∧ cMin S m ∧ cCod S m ∧ cAU S m) (k : Kp T T' kf_KS S S') (q : Kp Tm Tm' mf_KS m m') : cKn S' m' ∧ cAsh S' m' ∧ cSes S' m' ∧ cUsd S' m' ∧ cLiv S' m' ∧ cSsh S' m' ∧ cMin S' m' ∧ cCod S' m' ∧ cAU S' m' := by
  have K : ∀ {ds : List Nat}, ds.all (fun z => kf_KS.contains z) = true → Kp T T' ds S S' := fun hs => Kp_sub k (fun z hz => List.contains_iff_mem.mp (List.all_eq_true.mp hs z hz))
  have Q : ∀ {ds : List Nat}, ds.all (fun z => mf_KS.contains z) = true → Kp Tm Tm' ds m m' := fun hs => Kp_sub q (fun z hz => List.contains_iff_mem.mp (List.all_eq_true.mp hs z hz))
  exact ⟨cKn_fr b h.1 (K (by decide +kernel)) (Q (by decide +kernel)), cAsh_fr b h.2.1 (K (by decide +kernel)) (Q (by decide +kernel)), cSes_fr b h.2.2.1 (K (by decide +kernel)) (Q (by decide +kernel)), cUsd_fr b h.2.2.2.1 (K (by decide +kernel)) (Q (by decide +kernel)), cLiv_fr b h.2.2.2.2.1 (K (by decide +kernel)) (Q (by decide +kernel)), cSsh_fr b h.2.2.2.2.2.1 (K (by decide +kernel)) (Q (by decide +kernel)), cMin_fr b h.2.2.2.2.2.2.1 (K (by decide +kernel)) (Q (by decide +kernel)), cCod_fr b h.2.2.2.2.2.2.2.1 (K (by decide +kernel)) (Q (by decide +kernel)), cAU_fr b h.2.2.2.2.2.2.2.2 (K (by decide +kernel)) (Q (by decide +kernel))⟩
end
section
/-! ===== one cell's write, and the frames ===== -/
theorem Kp_wI {T : Nat → Nat} {cs : List Nat} {S : AS} {p j τ : Nat} (v : Int32) (hp : T p = τ) (hc : ¬ cl τ j ∈ cs) : Kp T T cs S (wI S p j v) := ⟨fun _ _ => rfl, fun k i h1 h2 => ti_sI_ne (fun q => by
  rw [q.1, q.2, hp] at h2
  exact hc h2), fun _ _ _ _ => rfl⟩
theorem Kp_tr {T T' T'' : Nat → Nat} {cs : List Nat} {S S' S'' : AS} (h : Kp T T' cs S S') (g : Kp T' T'' cs S' S'') : Kp T T'' cs S S'' :=
  ⟨fun k hk => (g.1 k (by rw [h.1 k hk]; exact hk)).trans (h.1 k hk), fun k j hk hc => (g.2.1 k j (by rw [h.1 k hk]; exact hk) (by rw [h.1 k hk]; exact hc)).trans (h.2.1 k j hk hc), fun k j hk hc => (g.2.2 k j (by rw [h.1 k hk]; exact hk) (by rw [h.1 k hk]; exact hc)).trans (h.2.2 k j hk hc)⟩
theorem sN_wI' (S : AS) (k j : Nat) (v : Int32) : sN (wI S k j v) = sN S := rfl
/-- a write ahead of a new session counts as one behind it -/
theorem AWK_w {S S' : AS} {k nu v : Int32} {p j : Nat} (h : AWK S S' k nu) (h5 : p ≠ 5) (h6 : p ≠ 6) (h7 : p ≠ 7) : AWK (wI S p j v) (wI S' p j v) k nu := by
  obtain ⟨⟨a1, a2, a3⟩, a4⟩ := h
  have e : ∀ x y i, x ≠ p → sI (wI y p j v) x i = sI y x i := fun x y i hx => ti_sI_ne (by omega)
  refine ⟨⟨a1, a2, fun q i q5 q6 q7 => ?_⟩, ?_⟩
  · by_cases c : q = p ∧ i = j
    · rw [c.1, c.2, ti_sI_eq, ti_sI_eq]
    · rw [ti_sI_ne c, ti_sI_ne c]
      exact a3 q i q5 q6 q7
  · rw [e 5 S 2 (by omega), e 5 S' 2 (by omega)]
    rcases a4 with ⟨b1, b2, b3, b4, b5⟩ | ⟨b1, b2, b3⟩
    · exact Or.inl ⟨b1, b2, b3, by rw [e 6 S' _ (by omega)]; exact b4, fun i hi => by rw [e 6 S' _ (by omega), e 6 S _ (by omega)]; exact b5 i hi⟩
    · exact Or.inr ⟨b1, b2, fun i => by rw [e 6 S' _ (by omega), e 6 S _ (by omega)]; exact b3 i⟩
theorem NSK_w {S S' : AS} {n d px x j : Nat} {p ow : Option Nat} {v : Int32} (h : NSK S S' n d px p ow) (hx : x < sN S) (n4 : x ≠ 4) (n5 : x ≠ 5) (n6 : x ≠ 6) (n7 : x ≠ 7) (n19 : x ≠ 19) (npx : x ≠ px) (h4 : 4 < sN S) : NSK (wI S x j v) (wI S' x j v) n d px p ow := by
  obtain ⟨k1, k2, ⟨k3, k4⟩, ⟨k5, k6⟩, ⟨z0, z1, z2, z3, z4, z5, z6⟩, ⟨k7, k8⟩, Sa, ka1, ka2, ka⟩ := h
  have e : ∀ y q i, q ≠ x → sI (wI y x j v) q i = sI y q i := fun y q i hq => ti_sI_ne (by omega)
  have el : ∀ y l i, lel (wI y x j v) l i = lel y l i := fun y l i => rfl
  refine ⟨fun k i hk q1 q2 q5 q6 q7 => ?_, k2, ⟨?_, ?_⟩, ⟨k5, k6⟩, ⟨?_, z1, z2, z3, ?_, ?_, ?_⟩, ⟨k7, fun f hf => ?_⟩, wI Sa x j v, ?_, funext fun i => ?_, AWK_w ka n5 n6 n7⟩
  · by_cases c : k = x ∧ i = j
    · rw [c.1, c.2, ti_sI_eq, ti_sI_eq]
    · rw [ti_sI_ne c, ti_sI_ne c]
      exact k1 k i hk q1 q2 q5 q6 q7
  · rw [e S' 19 2 (by omega)]
    exact k3
  · rw [e S' 4 9 (by omega), e S 4 9 (by omega)]
    exact k4
  · rw [sN_wI', e S' _ 0 (by omega)]
    exact z0
  · rw [sN_wI', e S' _ 4 (by omega), e S 4 0 (by omega)]
    exact z4
  · rw [sN_wI', e S' _ 5 (by omega), e S 4 0 (by omega)]
    exact z5
  · rw [sN_wI', e S' _ 6 (by omega)]
    exact z6
  · rw [sN_wI', e S' _ f (by omega), e S px f (by omega)]
    exact k8 f hf
  · rw [e Sa 5 2 (by omega), e S 5 2 (by omega)]
    exact ka1
  · rw [e Sa 6 i (by omega), e S 6 i (by omega)]
    exact congrFun ka2 i
theorem AWM_w {m m' : AS} {k nu v : Int32} {p j : Nat} (h : AWM m m' k nu) (h1 : p ≠ 57) (h2 : p ≠ 123) (h3 : p ≠ 124) (h4 : p ≠ 125) : AWM (wI m p j v) (wI m' p j v) k nu := by
  obtain ⟨⟨a1, a2, a3⟩, b0, b1, b2, b3, b4, b5⟩ := h
  have e : ∀ y x i, x ≠ p → sI (wI y p j v) x i = sI y x i := fun y x i hx => ti_sI_ne (by omega)
  refine ⟨⟨a1, a2, fun q i q3 q4 q5 q6 => ?_⟩, ?_, ?_, ?_, ?_, ?_, fun i hi => ?_⟩
  · by_cases c : q = p ∧ i = j
    · rw [c.1, c.2, ti_sI_eq, ti_sI_eq]
    · rw [ti_sI_ne c, ti_sI_ne c]
      exact a3 q i q3 q4 q5 q6
  · rw [e m 57 77 (by omega)]
    exact b0
  · rw [e m 57 77 (by omega)]
    exact b1
  · rw [e m 57 77 (by omega), e m' 57 77 (by omega)]
    exact b2
  · rw [e m 57 77 (by omega), e m' 123 _ (by omega)]
    exact b3
  · rw [e m 57 77 (by omega), e m' 124 _ (by omega)]
    exact b4
  · rw [e m 57 77 (by omega)] at hi
    rw [e m' 123 _ (by omega), e m' 124 _ (by omega), e m 123 _ (by omega), e m 124 _ (by omega)]
    exact b5 i hi
theorem NSM_w {m m' : AS} {n x j : Nat} {p ow v : Int32} (h : NSM m m' n p ow) (n57 : x ≠ 57) (hx : x < 85 ∨ 125 < x) : NSM (wI m x j v) (wI m' x j v) n p ow := by
  obtain ⟨⟨l1, l0, m2⟩, ⟨y1, y2, y3, y4, y5, y6, y7⟩, ma, mb1, mb2, mb3, mb4, mb⟩ := h
  have e : ∀ y q i, q ≠ x → sI (wI y x j v) q i = sI y q i := fun y q i hq => ti_sI_ne (by omega)
  refine ⟨⟨l1, l0, fun q i q1 q2 q3 q4 q5 q6 => ?_⟩, ⟨?_, ?_, ?_, ?_, ?_, fun f hf => ?_, ?_⟩, wI ma x j v, ?_, funext fun i => ?_, funext fun i => ?_, mb4, AWM_w mb n57 (by omega) (by omega) (by omega)⟩
  · by_cases c : q = x ∧ i = j
    · rw [c.1, c.2, ti_sI_eq, ti_sI_eq]
    · rw [ti_sI_ne c, ti_sI_ne c]
      exact m2 q i q1 q2 q3 q4 q5 q6
  · rw [e m' 85 _ (by omega)]
    exact y1
  · rw [e m' 86 _ (by omega), e m 57 0 (by omega)]
    exact y2
  · rw [e m' 87 _ (by omega), e m 57 0 (by omega)]
    exact y3
  · rw [e m' 88 _ (by omega)]
    exact y4
  · rw [e m' 89 _ (by omega)]
    exact y5
  · rw [e m' 90 _ (by omega)]
    exact y6 f hf
  · rw [e m' 57 30 (by omega)]
    exact y7
  · rw [e ma 57 77 (by omega), e m 57 77 (by omega)]
    exact mb1
  · rw [e ma 123 i (by omega), e m 123 i (by omega)]
    exact congrFun mb2 i
  · rw [e ma 124 i (by omega), e m 124 i (by omega)]
    exact congrFun mb3 i
end
section
/-! ===== where the way ends: denied, asked, granted ===== -/
theorem Kp_wA {T : Nat → Nat} {cs : List Nat} {S : AS} {p j τ : Nat} (v : Int32) (hp : T p = τ) (hd : 40 ≤ kd τ) (hc : ¬ 100 * τ ∈ cs) : Kp T T cs S (wI S p j v) := Kp_wI v hp (by rw [show cl τ j = 100 * τ from if_neg (by omega)]; exact hc)
theorem Kp_rev {T : Nat → Nat} {cs : List Nat} {S S' : AS} (h : Kp T T cs S S') : Kp T T cs S' S := ⟨fun _ _ => rfl, fun k j h1 h2 => (h.2.1 k j h1 h2).symm, fun k j h1 h2 => (h.2.2 k j h1 h2).symm⟩
def cAsm (a : Nat) (S m : AS) : Prop := (∀ b, uA m ≤ b → b < 60 → sI m 82 b = 0) ∧ ∀ b, b < uA m → sI S (lel S 18 b) 5 = sI m 80 b ∧ sI S (lel S 18 b) 8 = sI m 82 b ∧ sI S (lel S 18 b) 9 = sI m 83 b ∧ (sI m 80 b = 0 → sI S (lel S 18 b) 6 = sI m 79 b ∧ sI S (lel S 18 b) 7 = sI m 81 b ∧ (b ≠ a → 0 ≤ (sI m 82 b).toInt ∧ (sI m 82 b).toInt ≤ 11) ∧ 0 ≤ (sI m 81 b).toInt ∧ (sI m 81 b).toInt < (sI m 69 (12 * nn (sI m 78 b) + nn (sI m 79 b))).toInt)
theorem Asm_of {S m : AS} {a : Nat} (h : cAst S m) : cAsm a S m := ⟨h.1, fun b hb => by
  obtain ⟨h1, h2, h3, h4⟩ := h.2 b hb
  exact ⟨h1, h2, h3, fun q => ⟨(h4 q).1, (h4 q).2.1, fun _ => (h4 q).2.2.1, (h4 q).2.2.2⟩⟩⟩
theorem Ast_of {S m : AS} {a : Nat} (h : cAsm a S m) (h82 : sI m 80 a = 0 → 0 ≤ (sI m 82 a).toInt ∧ (sI m 82 a).toInt ≤ 11) : cAst S m := ⟨h.1, fun b hb => by
  obtain ⟨h1, h2, h3, h4⟩ := h.2 b hb
  refine ⟨h1, h2, h3, fun q => ⟨(h4 q).1, (h4 q).2.1, ?_, (h4 q).2.2.2⟩⟩
  by_cases c : b = a
  · subst c
    exact h82 q
  · exact (h4 q).2.2.1 c⟩
/-- what of the reference is as it was -/
def GFm (m m' : AS) : Prop := ∀ q j, (q < 62 ∨ (63 < q ∧ q < 79) ∨ q = 82 ∨ q = 84) → ¬ (q = 57 ∧ (j = 30 ∨ j = 77 ∨ j = 81)) → sI m' q j = sI m q j
def P_go (a : Nat) (S m : AS) : Prop := cAsm a S m ∧ cKn S m ∧ P_ses S m
theorem FR_go {S m : AS} (a : Nat) (h : FR S m) : P_go a S m := ⟨Asm_of h.Ast, h.Kn, FR_ses h⟩
/-- the clause of the attempt itself -/
def ASO (S m : AS) (x a : Nat) : Prop := sI S x 5 = sI m 80 a ∧ sI S x 8 = sI m 82 a ∧ sI S x 9 = sI m 83 a ∧ (sI m 80 a = 0 → sI S x 6 = sI m 79 a ∧ sI S x 7 = sI m 81 a ∧ 0 ≤ (sI m 81 a).toInt ∧ (sI m 81 a).toInt < (sI m 69 (12 * nn (sI m 78 a) + nn (sI m 79 a))).toInt)
theorem asm_mk {S m S' m' : AS} {a : Nat} (hA : cAsm a S m) (en : uA m' = uA m) (ha : a < uA m) (el : ∀ b, b < uA m → lel S' 18 b = lel S 18 b) (oS : ∀ b j, b < uA m → b ≠ a → sI S' (lel S 18 b) j = sI S (lel S 18 b) j) (oM : ∀ q j, (q = 79 ∨ q = 80 ∨ q = 81 ∨ q = 82 ∨ q = 83) → j ≠ a → sI m' q j = sI m q j) (o78 : ∀ j, sI m' 78 j = sI m 78 j) (o69 : ∀ j, sI m' 69 j = sI m 69 j) (own : ASO S' m' (lel S 18 a) a) : cAsm a S' m' := by
  refine ⟨fun b hb hb2 => ?_, fun b hb => ?_⟩
  · rw [en] at hb
    rw [oM 82 b (by omega) (by omega)]
    exact hA.1 b hb hb2
  · rw [en] at hb
    rw [el b hb]
    by_cases c : b = a
    · subst c
      obtain ⟨o1, o2, o3, o4⟩ := own
      exact ⟨o1, o2, o3, fun q => ⟨(o4 q).1, (o4 q).2.1, fun z => absurd rfl z, (o4 q).2.2⟩⟩
    · rw [oS b 5 hb c, oS b 8 hb c, oS b 9 hb c, oS b 6 hb c, oS b 7 hb c, oM 80 b (by omega) c, oM 82 b (by omega) c, oM 83 b (by omega) c, oM 79 b (by omega) c, oM 81 b (by omega) c, o78, o69]
      exact hA.2 b hb
theorem ast_same {S m S' m' : AS} (hA : cAst S m) (en : uA m' = uA m) (el : ∀ b, b < uA m → lel S' 18 b = lel S 18 b) (oS : ∀ b j, b < uA m → sI S' (lel S 18 b) j = sI S (lel S 18 b) j) (oM : ∀ q j, (q = 79 ∨ q = 80 ∨ q = 81 ∨ q = 82 ∨ q = 83 ∨ q = 78 ∨ q = 69) → sI m' q j = sI m q j) : cAst S' m' := by
  refine ⟨fun b hb hb2 => ?_, fun b hb => ?_⟩
  · rw [en] at hb
    rw [oM 82 b (by omega)]
    exact hA.1 b hb hb2
  · rw [en] at hb
    rw [el b hb, oS b 5 hb, oS b 8 hb, oS b 9 hb, oS b 6 hb, oS b 7 hb, oM 80 b (by omega), oM 82 b (by omega), oM 83 b (by omega), oM 79 b (by omega), oM 81 b (by omega), oM 78 b (by omega), oM 69 _ (by omega)]
    exact hA.2 b hb
section
variable {T Tm : Nat → Nat} {S m : AS}
/-- the attempt's own cells are written (and what is known of persons, if so): the full relation again -/
theorem FR_own {S' m' : AS} {a : Nat} (hT : TV T S) (hm : TI Tm m) (hF : FR S m) (ha : a < uA m) (kS : Kp T T ka_AK S S') (kM : Kp Tm Tm ma_AK m m') (xKn : cKn S' m') (oS : ∀ j b, b < uA m → b ≠ a → sI S' (lel S 18 b) j = sI S (lel S 18 b) j) (oM : ∀ q j, (q = 79 ∨ q = 80 ∨ q = 81 ∨ q = 82 ∨ q = 83) → j ≠ a → sI m' q j = sI m q j) (own : ASO S' m' (lel S 18 a) a) (h82 : sI m' 80 a = 0 → 0 ≤ (sI m' 82 a).toInt ∧ (sI m' 82 a).toInt ≤ 11) : FR S' m' := by
  have b := FR_BB hT hm hF
  refine FA_AK hT hm hF kS kM xKn (Ast_of (a := a) (asm_mk (Asm_of hF.Ast) (enA b kM (by decide)) ha (fun x hx => lA b kS (by decide) (by decide) hx) (fun x j hx hxa => oS j x hx hxa) oM (fun j => kM.M hm (j := 23) (p := 78) rfl (by decide) (by decide) j) (fun j => kM.M hm (j := 13) (p := 69) rfl (by decide) (by decide) j) own) h82)
/-- the reference's loop: what was shown is the session's, device and place are known -/
theorem p_grM_L {m : AS} {a n i d1 d2 : Nat} (hmf : MF m) (ha : a < 60) (hn : n < 60) (hi : i < 6) (h1 : d1 < 6) (h2 : d2 < 6) (e83 : sI m 83 a = Int32.ofNat n) (e76 : sI m 76 a = Int32.ofNat d1) (e77 : sI m 77 a = Int32.ofNat d2) : ∀ (k j fu : Nat) (M : AS), j + k = 3 → sR M = sR m → (∀ q c, ¬ (q = 90 ∧ 3 * n ≤ c ∧ c < 3 * n + 3) → sI M q c = sI m q c) → (∀ f, f < j → sI M 90 (3 * n + f) = sI m 84 (3 * a + f)) →
    Hp (f_M_grant_L45 fu M (some 57) (Int32.ofNat a) (Int32.ofNat i) (Int32.ofNat j)) (fun q => ∃ M', (∀ q c, ¬ (q = 90 ∧ 3 * n ≤ c ∧ c < 3 * n + 3) → sI M' q c = sI m q c) ∧ (∀ f, f < 3 → sI M' 90 (3 * n + f) = sI m 84 (3 * a + f)) ∧ q = wI (wI M' 62 (6 * i + d1) 1) 63 (6 * i + d2) 1)
  | _, _, 0, _, _, _, _, _ => p_0
  | 0, j, fu + 1, M, hk, r1, r3, r4 => by
    unfold f_M_grant_L45 f_M_grant_C45
    have e : j = 3 := by omega
    subst e
    have hM := MF_e hmf r1
    have ai : (Int32.ofNat a).toNatClampNeg = a := oc (by omega)
    refine p_of (st_T (by decide)) (p_of (st_gRe (hM 5 62 rfl)) (p_of (st_gRe (hM 21 76 rfl)) (p_of (st_aIe ai ((r3 _ _ (by omega)).trans e76)) (p_of (st_bZe (ix6 i hi d1 h1)) (p_of (st_gRe (v := some 63) (hM 6 63 rfl)) (p_of (st_gRe (v := some 77) (hM 22 77 rfl)) (p_of (st_aIe (v := Int32.ofNat d2) ai ((ti_sI_ne (by omega)).trans ((r3 _ _ (by omega)).trans e77))) (p_of (st_bZe (ix6 i hi d2 h2)) (p_ret ⟨M, r3, r4, rfl⟩)))))))))
  | k + 1, j, fu + 1, M, hk, r1, r3, r4 => by
    unfold f_M_grant_L45 f_M_grant_C45
    have hM := MF_e hmf r1
    have ai : (Int32.ofNat a).toNatClampNeg = a := oc (by omega)
    refine p_of (st_F (fun q => by have := (ole (a := 3) (b := j) (by decide) (by omega)).mp q; omega)) (p_of (st_gRe (hM 36 90 rfl)) (p_of (st_gRe (hM 28 83 rfl)) (p_of (st_aIe ai ((r3 _ _ (by omega)).trans e83)) (p_of (st_gRe (hM 29 84 rfl)) (p_of (st_aIe (v := sI m 84 (3 * a + j)) (ix3 a ha j (by omega)) (r3 _ _ (by omega))) (p_of (st_bIe (ix3 n hn j (by omega))) (p_of st_val ?_)))))))
    rw [o1]
    refine p_grM_L hmf ha hn hi h1 h2 e83 e76 e77 k (j + 1) fu _ (by omega) r1 (fun q c z => ?_) (fun f hf => ?_)
    · rw [ti_sI_ne (by omega)]
      exact r3 q c z
    · by_cases z : f = j
      · subst z
        rw [ti_sI_eq]
      · rw [ti_sI_ne (by omega)]
        exact r4 f (by omega)
theorem h_gfin (hT : TV T S) (hm : TI Tm m) {a p v n : Nat} (ha : a < uA m) (hF : FR (wI S (lel S 18 a) 5 2) (wI m 80 a 2)) (e5 : sI S (lel S 18 a) 5 = 0) (e80 : sI m 80 a = 0) (m78 : sI m 78 a = Int32.ofNat v) (f : FLR S m p v n) (r3 : sR S (lel S 18 a) 3 = some p) (hB : ∀ k, k < n → sI m 67 (12 * v + k) = 0 → 1 ≤ (sI m 69 (12 * v + k)).toInt)
    {st at' : Int32} (hst : STP2 m v n st at') : H2 (f_K_goOn_B44 S (some 4) (some (lel S 18 a)) st) (f_M_go_B77 m (some 57) (Int32.ofNat a) st at') (fun S' m' => P_go a S' m' ∧ GFm m m') := by
  obtain ⟨x, ex⟩ : ∃ x, x = lel S 18 a := ⟨_, rfl⟩
  rw [← ex] at hF e5 r3 ⊢
  obtain ⟨St, est⟩ : ∃ St, St = wI S x 5 2 := ⟨_, rfl⟩
  obtain ⟨mt, emt⟩ : ∃ mt, mt = wI m 80 a 2 := ⟨_, rfl⟩
  rw [← est, ← emt] at hF
  have k4 := K4F_of hT.1
  have hmf := MF_of hm
  have f12 := f.1.2
  have v8 := f.2.1
  have oSt : ∀ {k j : Nat}, ¬ (k = x ∧ j = 5) → sI St k j = sI S k j := fun z => by
    rw [est]
    exact ti_sI_ne z
  have omt : ∀ {q j : Nat}, ¬ (q = 80 ∧ j = a) → sI mt q j = sI m q j := fun z => by
    rw [emt]
    exact ti_sI_ne z
  have rSt : sR St = sR S := by rw [est, sR_wI]
  have rmt : sR mt = sR m := by rw [emt, sR_wI]
  have elt : ∀ l i, lel St l i = lel S l i := fun l i => by
    unfold lel
    rw [rSt]
  have s5 : sI St x 5 = 2 := by rw [est, ti_sI_eq]
  have m80 : sI mt 80 a = 2 := by rw [emt, ti_sI_eq]
  have uAt : uA mt = uA m := by
    unfold uA
    rw [omt (by omega)]
  have nSt : nS mt = nS m := by
    unfold nS
    rw [omt (by omega)]
  have a60 : a < 60 := by
    have := hF.Att.1.1
    rw [omt (by omega)] at this
    unfold uA at ha
    omega
  have ai : (Int32.ofNat a).toNatClampNeg = a := oc (by omega)
  have s18 : sI S 18 2 = Int32.ofNat (uA m) := by
    obtain ⟨z1, z2, z3⟩ := hF.Att.1
    rw [oSt (by omega), omt (by omega)] at z3
    rw [omt (by omega)] at z2
    exact z3.trans z2
  have tx : T x = 42 := by
    have := (lel_at hT.1 (q := 1) (i := a) (by decide) (by
      show (a : Int) < (sI S 18 2).toInt
      have := hF.Att.1.1
      rw [omt (by omega)] at this
      have h60 : uA m ≤ 60 := this
      rw [s18, oi (by omega)]
      omega)).1
    rw [ex]
    exact this
  have hTt : TV T St := ⟨by
    rw [est]
    exact TIwI hT.1 tx (fun lo hi e => by cases e) (fun n lo hi e => by cases e) (by omega), hT.2⟩
  obtain ⟨-, t79, -⟩ := md_at hm (j := 24) (p := 79) rfl rfl
  obtain ⟨-, t80, -⟩ := md_at hm (j := 25) (p := 80) rfl rfl
  obtain ⟨-, t81, -⟩ := md_at hm (j := 26) (p := 81) rfl rfl
  obtain ⟨-, t83, -⟩ := md_at hm (j := 28) (p := 83) rfl rfl
  obtain ⟨-, t62, -⟩ := md_at hm (j := 5) (p := 62) rfl rfl
  obtain ⟨-, t63, -⟩ := md_at hm (j := 6) (p := 63) rfl rfl
  obtain ⟨-, t67, -⟩ := md_at hm (j := 11) (p := 67) rfl rfl
  have hmt : TI Tm mt := by
    rw [emt]
    exact TIwI hm t80 (fun lo hi e => by cases e) (fun n lo hi e => by cases e; decide) (by omega)
  have bt' := FR_BB hTt hmt hF
  obtain ⟨inj, ⟨i, i6, r0, e75⟩, ⟨d1, l1, r1, e76⟩, ⟨d2, l2, r2, e77⟩, -, -⟩ := hF.Att.2 a (by rw [uAt]; exact ha)
  rw [elt, ← ex, rSt] at r0
  rw [elt, ← ex, oSt (by omega)] at r1 r2
  rw [omt (by omega)] at e75 e76 e77
  obtain ⟨y, y1, y2, y3, y4⟩ := tyM (j := 4) hT.1 tx rfl
  have xb : ∀ b, b < uA m → b ≠ a → lel S 18 b ≠ x := fun b hb hba z => hba (inj b (by rw [uAt]; exact hb) (by rw [elt, elt, ← ex]; exact z))
  have rst : In (-1) 11 st := by
    rcases hst with rfl | ⟨k, k1, rfl, -⟩
    · decide
    · exact ⟨by rw [oi (by omega)]; omega, by rw [oi (by omega)]; omega⟩
  -- the reference's first two writes
  obtain ⟨m1, em1⟩ : ∃ m1, m1 = wI (wI m 79 a st) 81 a 0 := ⟨_, rfl⟩
  have om1 : ∀ {q j : Nat}, ¬ ((q = 79 ∨ q = 81) ∧ j = a) → sI m1 q j = sI m q j := fun z => by
    rw [em1, ti_sI_ne (by omega), ti_sI_ne (by omega)]
  have m179 : sI m1 79 a = st := by rw [em1, ti_sI_ne (by omega), ti_sI_eq]
  have m181 : sI m1 81 a = 0 := by rw [em1, ti_sI_eq]
  have rm1 : sR m1 = sR m := by rw [em1, sR_wI, sR_wI]
  have lm1 : sL m1 = sL m := by rw [em1]; rfl
  have hm1 : MF m1 := MF_e hmf rm1
  have tm1 : TI Tm m1 := by
    rw [em1]
    exact TIwI (TIwI hm t79 (fun lo hi e => by cases e) (fun n lo hi e => by cases e; exact rst) (by omega)) t81 (fun lo hi e => by cases e) (fun n lo hi e => by cases e) (by omega)
  have kMt : ∀ {cs : List Nat}, ¬ 12500 ∈ cs → Kp Tm Tm cs mt m := fun h => by
    rw [emt]
    exact Kp_rev (Kp_wA _ t80 (by decide) h)
  have kM1 : ∀ {cs : List Nat}, ¬ 12400 ∈ cs → ¬ 12600 ∈ cs → Kp Tm Tm cs m m1 := fun h1 h2 => by
    rw [em1]
    exact Kp_tr (Kp_wA _ t79 (by decide) h1) (Kp_wA _ t81 (by decide) h2)
  have kSt : ∀ {cs : List Nat}, ¬ 4205 ∈ cs → Kp T T cs St S := fun h => by
    rw [est]
    exact Kp_rev (Kp_wI _ tx (by rw [show cl 42 5 = 4205 by decide]; exact h))
  have o8 : sI S x 8 = sI m 82 a ∧ sI S x 9 = sI m 83 a := by
    obtain ⟨-, z2, z3, -⟩ := hF.Ast.2 a (by rw [uAt]; exact ha)
    rw [elt, ← ex, oSt (by omega), omt (by omega)] at z2 z3
    exact ⟨z2, z3⟩
  -- denied
  have deny : H2 (some (wI S x 5 2)) ((gR m1 23 25 (some 57)).bind fun v4 => (bI m1 v4 (Int32.ofNat a) (2 : Int32)).bind fun S5 => some S5) (fun S' m' => P_go a S' m' ∧ GFm m m') := by
    refine m_of (st_gRe (hm1 25 80 rfl)) (m_of (st_bIe ai) (h2_ret ⟨?_, fun q j z1 z2 => ?_⟩))
    · rw [← est]
      have kq : Kp Tm Tm ma_AK mt (wI m1 80 a 2) := Kp_tr (kMt (by decide)) (Kp_tr (kM1 (by decide) (by decide)) (Kp_wA _ t80 (by decide) (by decide)))
      refine FR_go a (FR_own (a := a) hTt hmt hF (by rw [uAt]; exact ha) (Kp_rf T _ St) kq (cKn_fr bt' hF.Kn (Kp_rf T _ St) (Kp_tr (kMt (by decide)) (Kp_tr (kM1 (by decide) (by decide)) (Kp_wA _ t80 (by decide) (by decide))))) (fun j b _ _ => rfl) (fun q j hq hj => ?_) ?_ (fun q => ?_))
      · rw [ti_sI_ne (by omega), om1 (by omega), omt (by omega)]
      · rw [elt, ← ex]
        refine ⟨s5.trans (ti_sI_eq _ _ _ _).symm, ?_, ?_, fun q => ?_⟩
        · rw [oSt (by omega), ti_sI_ne (by omega), om1 (by omega)]
          exact o8.1
        · rw [oSt (by omega), ti_sI_ne (by omega), om1 (by omega)]
          exact o8.2
        · rw [ti_sI_eq] at q
          exact absurd q (by decide)
      · rw [ti_sI_eq] at q
        exact absurd q (by decide)
    · rw [ti_sI_ne (by omega), om1 (by omega)]
  unfold f_K_goOn_B44 f_M_go_B77
  refine l_of (st_gRe r3) (l_of st_rv ?_)
  refine m_of (st_gRe (hmf 24 79 rfl)) (m_of (st_bIe ai) (m_of (st_gRe (v := some 81) (hmf 26 81 rfl)) (m_of (st_bIe ai) ?_)))
  rw [← em1]
  rcases hst with rfl | ⟨k, hk, rfl, rfl, hnt⟩
  · refine l_p2 p_kindN (fun u S' e => ?_)
    cases e
    refine l_of (st_F (by decide)) (l_of (st_F (by decide)) (l_of st_pI (m_of (st_T rfl) ?_)))
    unfold f_M_go_B108
    exact deny
  · have ix : (Int32.ofNat (12 * v + k)).toNatClampNeg = 12 * v + k := oc (by omega)
    refine l_p2 (p_kind f hk) (fun u S' e => ?_)
    cases e
    have k67 : In 0 6 (sI m 67 (12 * v + k)) := hm.t5 67 (12 * v + k) 108 0 6 (by rw [t67]; rfl) (by omega)
    have x67 : sI m1 67 (12 * v + k) = sI m 67 (12 * v + k) := om1 (by omega)
    refine m_of (st_F (fun q => ofNat_ne (o := k) (by omega) q.symm)) (m_of (st_gRe (hm1 11 67 rfl)) (m_of (st_aIe ix x67) ?_))
    by_cases c6 : sI m 67 (12 * v + k) = 6
    · rw [c6]
      refine l_of (st_F (by decide)) (l_of (st_F (by decide)) (l_of st_pI (m_of (st_T rfl) ?_)))
      unfold f_M_go_B108
      exact deny
    · refine m_of (st_F c6) (m_of (st_gRe (hm1 11 67 rfl)) (m_of (st_aIe ix x67) ?_))
      by_cases c5 : sI m 67 (12 * v + k) = 5
      · -- granted, if there is room
        refine l_of (st_F (by rw [c5]; decide)) (l_of (st_T c5) (m_of (st_T c5) ?_))
        obtain ⟨zS1, zS2, zS3⟩ := hF.Ses.1
        rw [omt (by omega)] at zS1 zS2
        rw [oSt (by omega), omt (by omega)] at zS3
        have N60 : nS m ≤ 60 := zS1
        have s19 : sI S 19 2 = Int32.ofNat (nS m) := zS3.trans zS2
        have m30 : sI m 57 30 = Int32.ofNat (nS m) := zS2
        have back : ∀ z : Option AS, (z.bind fun S15 => some S15) = z := fun z => by cases z <;> rfl
        refine l_of (st_gRe (k4.1 8 19 rfl)) (l_of st_rv (l_of st_size (m_of st_rv (m_of (st_eq (back _)) ?_))))
        rw [s19]
        unfold f_M_grant
        refine m_of (st_gIe (v := Int32.ofNat (nS m)) ((om1 (by omega)).trans m30)) ?_
        by_cases cN : nS m = 60
        · exact l_of (st_T (by rw [cN]; decide)) (l_of st_pI (m_of (st_T (by rw [cN]; decide)) deny))
        · have n60 : nS m < 60 := by omega
          refine l_of (st_F (fun q => by have := (ole (a := 60) (b := nS m) (by decide) (by omega)).mp q; omega)) (l_of st_rv (l_of (st_eq (back _)) (m_of (st_F (fun q => cN (oinj (by omega) (by decide) q))) ?_)))
          have PFS : PF S := by
            have := hF.PF
            unfold cPF PF at this
            rw [rSt] at this
            exact ⟨fun j hj => by
              obtain ⟨z1, z2, z3, z4, z5⟩ := this.1 j hj
              exact ⟨z1, z2, z3, z4, by rw [← z5]; exact (oSt (by omega)).symm⟩, this.2⟩
          have tPj : ∀ j, j < 6 → T (29 + 4 * j) = 13 := fun j hj => (kt_P hT.1 PFS hj).1
          have tP := tPj i i6
          have lt : ∀ {k τ : Nat}, T k = τ → τ ≠ 0 → k < sN S := fun hk h0 => (hT.1.t1 _ (by rw [hk]; exact h0)).1
          have t19 : T 19 = 22 := (hT.1.t6 2 (by decide)).1
          obtain ⟨t4, t5, t6, t7, -⟩ := kt4 hT.1
          have xne : ∀ {k τ : Nat}, T k = τ → τ ≠ 42 → x ≠ k := fun hk ht z => by
            rw [← z, tx] at hk
            exact ht hk.symm
          have xn := lt tx (by decide)
          have Pn := lt tP (by decide)
          have xP : x ≠ 29 + 4 * i := xne tP (by decide)
          have pxx : x ≠ mn S x 4 := xne y4 (by decide)
          have pxP : 29 + 4 * i ≠ mn S x 4 := fun z => by
            rw [← z, tP] at y4
            exact absurd y4 (by decide)
          obtain ⟨S1, eS1⟩ : ∃ S1, S1 = wI S x 5 1 := ⟨_, rfl⟩
          obtain ⟨u7, eu7⟩ : ∃ u7, u7 = sI S (29 + 4 * i) 7 ||| ((1 : Int32) <<< (Int32.ofNat d1 &&& 31)) := ⟨_, rfl⟩
          obtain ⟨u8, eu8⟩ : ∃ u8, u8 = sI S (29 + 4 * i) 8 ||| ((1 : Int32) <<< (Int32.ofNat d2 &&& 31)) := ⟨_, rfl⟩
          obtain ⟨S0, eS0⟩ : ∃ S0, S0 = wI (wI (wI S1 x 9 (Int32.ofNat (nS m))) (29 + 4 * i) 7 u7) (29 + 4 * i) 8 u8 := ⟨_, rfl⟩
          obtain ⟨m2, em2⟩ : ∃ m2, m2 = wI m1 80 a 1 := ⟨_, rfl⟩
          obtain ⟨m0, em0⟩ : ∃ m0, m0 = wI (wI (wI m2 83 a (Int32.ofNat (nS m))) 62 (6 * i + d1) 1) 63 (6 * i + d2) 1 := ⟨_, rfl⟩
          have oS1 : ∀ {k j : Nat}, ¬ (k = x ∧ j = 5) → sI S1 k j = sI S k j := fun z => by
            rw [eS1]
            exact ti_sI_ne z
          have oS0 : ∀ {k j : Nat}, ¬ (k = x ∧ (j = 5 ∨ j = 9)) → ¬ (k = 29 + 4 * i ∧ (j = 7 ∨ j = 8)) → sI S0 k j = sI S k j := fun z1 z2 => by
            rw [eS0, ti_sI_ne (by omega), ti_sI_ne (by omega), ti_sI_ne (by omega), oS1 (by omega)]
          have om2 : ∀ {q j : Nat}, ¬ ((q = 79 ∨ q = 80 ∨ q = 81) ∧ j = a) → sI m2 q j = sI m q j := fun z => by
            rw [em2, ti_sI_ne (by omega), om1 (by omega)]
          have om0 : ∀ {q j : Nat}, ¬ ((q = 79 ∨ q = 80 ∨ q = 81 ∨ q = 83) ∧ j = a) → ¬ (q = 62 ∧ j = 6 * i + d1) → ¬ (q = 63 ∧ j = 6 * i + d2) → sI m0 q j = sI m q j := fun z1 z2 z3 => by
            rw [em0, ti_sI_ne (by omega), ti_sI_ne (by omega), ti_sI_ne (by omega), om2 (by omega)]
          have r1' : sR S1 = sR S := by rw [eS1, sR_wI]
          have r0' : sR S0 = sR S := by rw [eS0, sR_wI, sR_wI, sR_wI, r1']
          have N1 : sN S1 = sN S := by rw [eS1]; rfl
          have N0 : sN S0 = sN S := by
            rw [eS0]
            exact N1
          have L1 : sL S1 = sL S := by rw [eS1]; rfl
          have L0 : sL S0 = sL S := by
            rw [eS0]
            exact L1
          have el0 : ∀ l j, lel S0 l j = lel S l j := fun l j => by
            unfold lel
            rw [r0']
          have m2r : sR m2 = sR m := by rw [em2, sR_wI, rm1]
          have hm2 : MF m2 := MF_e hmf m2r
          have x5 : sI S0 x 5 = 1 := by rw [eS0, ti_sI_ne (by omega), ti_sI_ne (by omega), ti_sI_ne (by omega), eS1, ti_sI_eq]
          have x9 : sI S0 x 9 = Int32.ofNat (nS m) := by rw [eS0, ti_sI_ne (by omega), ti_sI_ne (by omega), ti_sI_eq]
          have p7 : sI S0 (29 + 4 * i) 7 = u7 := by rw [eS0, ti_sI_ne (by omega), ti_sI_eq]
          have p8 : sI S0 (29 + 4 * i) 8 = u8 := by rw [eS0, ti_sI_eq]
          have y80 : sI m0 80 a = 1 := by rw [em0, ti_sI_ne (by omega), ti_sI_ne (by omega), ti_sI_ne (by omega), em2, ti_sI_eq]
          have y83 : sI m0 83 a = Int32.ofNat (nS m) := by rw [em0, ti_sI_ne (by omega), ti_sI_ne (by omega), ti_sI_eq]
          have y62 : sI m0 62 (6 * i + d1) = 1 := by rw [em0, ti_sI_ne (by omega), ti_sI_eq]
          have y63 : sI m0 63 (6 * i + d2) = 1 := by rw [em0, ti_sI_eq]
          have hT0 : TV T S0 := ⟨by
            rw [eS0, eS1]
            exact TIwI (TIwI (TIwI (TIwI hT.1 tx (fun lo hi e => by cases e) (fun n lo hi e => by cases e) (by omega)) tx (fun lo hi e => by cases e) (fun n lo hi e => by cases e) (by omega)) tP (fun lo hi e => by cases e) (fun n lo hi e => by cases e) (by omega)) tP (fun lo hi e => by cases e) (fun n lo hi e => by cases e) (by omega), hT.2⟩
          have hm0 : TI Tm m0 := by
            rw [em0, em2]
            have rN : In (-1) 59 (Int32.ofNat (nS m)) := ⟨by rw [oi (by omega)]; omega, by rw [oi (by omega)]; omega⟩
            refine TIwI (TIwI (TIwI (TIwI tm1 t80 (fun lo hi e => by cases e) (fun n lo hi e => by cases e; decide) (by omega)) t83 (fun lo hi e => by cases e) (fun n lo hi e => by cases e; exact rN) (by omega)) t62 (fun lo hi e => by cases e) (fun n lo hi e => by cases e; decide) (by omega)) t63 (fun lo hi e => by cases e) (fun n lo hi e => by cases e; decide) (by omega)
          have kS0 : Kp T T ka_AK St S0 := by
            rw [eS0, eS1]
            exact Kp_tr (kSt (by decide)) (Kp_tr (Kp_wI _ tx (by decide)) (Kp_tr (Kp_wI _ tx (by decide)) (Kp_tr (Kp_wI _ tP (by decide)) (Kp_wI _ tP (by decide)))))
          have kM0 : Kp Tm Tm ma_AK mt m0 := by
            rw [em0, em2]
            exact Kp_tr (kMt (by decide)) (Kp_tr (kM1 (by decide) (by decide)) (Kp_tr (Kp_wA _ t80 (by decide) (by decide)) (Kp_tr (Kp_wA _ t83 (by decide) (by decide)) (Kp_tr (Kp_wA _ t62 (by decide) (by decide)) (Kp_wA _ t63 (by decide) (by decide))))))
          have kn0 : cKn S0 m0 := fun j hj d hd => by
            have base := hF.Kn j hj d hd
            have njx : x ≠ 29 + 4 * j := xne (tPj j hj) (by decide)
            rw [oSt (by omega), oSt (by omega), omt (by omega), omt (by omega)] at base
            by_cases c : j = i
            · subst c
              rw [p7, p8, eu7, eu8, bt_sh _ (by omega), bt_sh _ (by omega), base.1, base.2]
              refine ⟨?_, ?_⟩
              · by_cases z : d = d1
                · subst z
                  rw [y62]
                  exact ⟨fun _ => by decide, fun _ => Or.inr rfl⟩
                · rw [om0 (by omega) (by omega) (by omega)]
                  exact ⟨fun q => q.elim id (fun q => absurd q z), Or.inl⟩
              · by_cases z : d = d2
                · subst z
                  rw [y63]
                  exact ⟨fun _ => by decide, fun _ => Or.inr rfl⟩
                · rw [om0 (by omega) (by omega) (by omega)]
                  exact ⟨fun q => q.elim id (fun q => absurd q z), Or.inl⟩
            · rw [oS0 (by omega) (by omega), oS0 (by omega) (by omega), om0 (by omega) (by omega) (by omega), om0 (by omega) (by omega) (by omega)]
              exact base
          have hF0 : FR S0 m0 := FR_own (a := a) hTt hmt hF (by rw [uAt]; exact ha) kS0 kM0 kn0 (fun j b hb hba => by
              rw [elt]
              have nb := xb b (by rw [← uAt]; exact hb) hba
              have tb : T (lel S 18 b) = 42 := by rw [← elt]; exact tyA bt' hb
              have nP : lel S 18 b ≠ 29 + 4 * i := fun z => by
                rw [z, tP] at tb
                exact absurd tb (by decide)
              rw [oS0 (by omega) (by omega), oSt (by omega)]) (fun q j hq hj => by rw [om0 (by omega) (by omega) (by omega), omt (by omega)]) (by
              rw [elt, ← ex]
              refine ⟨x5.trans y80.symm, ?_, x9.trans y83.symm, fun q => ?_⟩
              · rw [oS0 (by omega) (by omega), om0 (by omega) (by omega) (by omega)]
                exact o8.1
              · rw [y80] at q
                exact absurd q (by decide)) (fun q => by
              rw [y80] at q
              exact absurd q (by decide))
          have eN : nS m0 = nS m := by
            unfold nS
            rw [om0 (by omega) (by omega) (by omega)]
          obtain ⟨d, w1, w2, w3, w4, w5, w6, w7⟩ := LO19 hT0 hF0
          rw [eN] at w2
          have dne : ∀ {k τ : Nat}, T k = τ → τ ≠ 0 → kd τ ≠ 1 → τ ≠ 32 → k ≠ d := fun hk h0 h1 h2 => w7 _ (by rw [hk]; exact h0) (by rw [hk]; exact h1) (by rw [hk]; exact h2)
          have k41 : K4F S1 := by
            unfold K4F
            rw [r1']
            exact k4
          have x19 : x ≠ 19 := xne t19 (by decide)
          unfold f_K_grant
          refine l_of st_pI ?_
          rw [← eS1]
          refine l_of (st_gRe (v := some (29 + 4 * i)) (by rw [r1']; exact r0)) (l_of (st_gRe (v := some y) (by rw [r1']; exact y1)) (l_of st_rv ?_))
          refine l_p2 (p_newK (S := S1) (n := nS m) (d := d) (x := y) (px := mn S x 4) k41 ((oS1 (by omega)).trans s19) (by rw [r1', ← r0']; exact w1) (by rw [L1, ← L0]; exact w3) n60 (by rw [N1, ← N0]; exact w4) (by rw [N1, ← N0]; exact w5) w6 (dne t4 (by decide) (by decide) (by decide)).symm (dne t5 (by decide) (by decide) (by decide)).symm (by rw [N1]; exact lt y2 (by decide)) (by rw [r1']; exact y3) (by rw [N1]; exact lt y4 (by decide))) (fun u S5 q => ?_)
          obtain ⟨q1, nk⟩ := q
          have q1 : u = Int32.ofNat (nS m) := q1
          have nk : NSK S1 S5 (nS m) d (mn S x 4) (some (29 + 4 * i)) none := nk
          rw [q1]
          have i5 : ∀ {k τ : Nat} (j : Nat), T k = τ → τ ≠ 0 → τ ≠ 22 → τ ≠ 1 → τ ≠ 2 → τ ≠ 3 → τ ≠ 4 → sI S5 k j = sI S1 k j := fun {k τ} j hk h0 h1 h2 h3 h5 h6 => nk.1 k j (by rw [N1]; exact lt hk h0) (fun z => h1 (by rw [← hk, z.1, t19])) (fun z => h2 (by rw [← hk, z.1, t4])) (fun z => h3 (by rw [← hk, z, t5])) (fun z => h5 (by rw [← hk, z, t6])) (fun z => h6 (by rw [← hk, z, t7]))
          have rx5 : sR S5 x 0 = some (29 + 4 * i) := (nk.2.1 x 0 (by rw [N1]; exact xn) (by omega) (fun z => dne tx (by decide) (by decide) (by decide) z.1)).trans (by rw [r1']; exact r0)
          refine l_of st_pI (l_of (st_gRe (v := some (29 + 4 * i)) (by rw [sR_wI]; exact rx5)) (l_of (st_gIe (v := Int32.ofNat d1) ?_) (l_of (st_gIe (v := Int32.ofNat d2) ?_) (l_of st_rv ?_))))
          · rw [ti_sI_ne (by omega), i5 1 tx (by decide) (by decide) (by decide) (by decide) (by decide) (by decide), oS1 (by omega)]
            exact r1
          · rw [ti_sI_ne (by omega), i5 2 tx (by decide) (by decide) (by decide) (by decide) (by decide) (by decide), oS1 (by omega)]
            exact r2
          refine l_pd (P := fun S' => S' = wI (wI (wI S5 x 9 (Int32.ofNat (nS m))) (29 + 4 * i) 7 u7) (29 + 4 * i) 8 u8) ?_ (fun S6 eS6 => ?_)
          · unfold f_Person_learn
            have v7 : sI (wI S5 x 9 (Int32.ofNat (nS m))) (29 + 4 * i) 7 = sI S (29 + 4 * i) 7 := by rw [ti_sI_ne (by omega), i5 7 tP (by decide) (by decide) (by decide) (by decide) (by decide) (by decide), oS1 (by omega)]
            have v8 : sI (wI S5 x 9 (Int32.ofNat (nS m))) (29 + 4 * i) 8 = sI S (29 + 4 * i) 8 := by rw [ti_sI_ne (by omega), i5 8 tP (by decide) (by decide) (by decide) (by decide) (by decide) (by decide), oS1 (by omega)]
            refine p_of (st_gIe v7) (p_of st_pI ?_)
            rw [← eu7]
            refine p_of (st_gIe (v := sI S (29 + 4 * i) 8) ((ti_sI_ne (by omega)).trans v8)) (p_of st_pI ?_)
            rw [← eu8]
            exact p_ret rfl
          have eS6 : S6 = _ := eS6
          -- the reference
          refine m_of (st_gRe (hm1 20 75 rfl)) (m_of (st_aIe ai ((om1 (by omega)).trans e75)) (m_of (st_gRe (hm1 25 80 rfl)) (m_of (st_bIe ai) ?_)))
          rw [← em2]
          refine m_of (st_gRe (hm2 28 83 rfl)) (m_of st_rv (m_p2 (p_newM (m := m2) (n := nS m) hm2 n60 ((om2 (by omega)).trans m30)) (fun u' m3 q => ?_)))
          obtain ⟨q2, nm⟩ := q
          have q2 : u' = Int32.ofNat (nS m) := q2
          have nm : NSM m2 m3 (nS m) (Int32.ofNat i) (-1) := nm
          rw [q2]
          refine m_of (st_bIe ai) ?_
          obtain ⟨m4, em4⟩ : ∃ m4, m4 = wI m3 83 a (Int32.ofNat (nS m)) := ⟨_, rfl⟩
          rw [← em4]
          have o3 := nm.1.2.2
          have om4 : ∀ {q j : Nat}, ¬ ((q = 79 ∨ q = 80 ∨ q = 81 ∨ q = 83) ∧ j = a) → ¬ (q = 85 ∨ q = 86 ∨ q = 87 ∨ q = 88 ∨ q = 89 ∨ q = 90) → ¬ (q = 57 ∧ (j = 30 ∨ j = 77 ∨ j = 81)) → q ≠ 123 → q ≠ 124 → q ≠ 125 → sI m4 q j = sI m q j := fun z1 z2 z3 z4 z5 z6 => by
            rw [em4, ti_sI_ne (by omega), o3 _ _ (by omega) (by omega) z3 z4 z5 z6, om2 (by omega)]
          have hm4 : MF m4 := MF_e hm2 (by rw [em4, sR_wI]; exact nm.1.1)
          refine m_hp (p_grM_L (m := m4) (a := a) (n := nS m) (i := i) (d1 := d1) (d2 := d2) hm4 a60 n60 i6 l1 l2 (by rw [em4, ti_sI_eq]) ((om4 (by omega) (by omega) (by omega) (by omega) (by omega) (by omega)).trans e76) ((om4 (by omega) (by omega) (by omega) (by omega) (by omega) (by omega)).trans e77) 3 0 kr_FU m4 rfl rfl (fun _ _ _ => rfl) (fun f hf => absurd hf (Nat.not_lt_zero _))) (fun M e => ?_)
          obtain ⟨M', f1, f2, eM⟩ := e
          -- all together
          have nk0 : NSK S0 S6 (nS m) d (mn S x 4) (some (29 + 4 * i)) none := by
            rw [eS6, eS0]
            have h4 : 4 < sN S := lt t4 (by decide)
            have nP4 : 29 + 4 * i ≠ 4 ∧ 29 + 4 * i ≠ 5 ∧ 29 + 4 * i ≠ 6 ∧ 29 + 4 * i ≠ 7 ∧ 29 + 4 * i ≠ 19 := by omega
            refine NSK_w (NSK_w (NSK_w nk (by rw [N1]; exact xn) (xne t4 (by decide)) (xne t5 (by decide)) (xne t6 (by decide)) (xne t7 (by decide)) x19 pxx (by rw [N1]; exact h4)) ?_ nP4.1 nP4.2.1 nP4.2.2.1 nP4.2.2.2.1 nP4.2.2.2.2 pxP ?_) ?_ nP4.1 nP4.2.1 nP4.2.2.1 nP4.2.2.2.1 nP4.2.2.2.2 pxP ?_
            · show 29 + 4 * i < sN S1
              rw [N1]
              exact Pn
            · show 4 < sN S1
              rw [N1]
              exact h4
            · show 29 + 4 * i < sN S1
              rw [N1]
              exact Pn
            · show 4 < sN S1
              rw [N1]
              exact h4
          have nm0 : NSM m0 (wI (wI (wI m3 83 a (Int32.ofNat (nS m))) 62 (6 * i + d1) 1) 63 (6 * i + d2) 1) (nS m) (Int32.ofNat i) (-1) := by
            rw [em0]
            exact NSM_w (NSM_w (NSM_w nm (by decide) (by decide)) (by decide) (by decide)) (by decide) (by decide)
          have hM : ∀ q j, ¬ (q = 90 ∧ 3 * nS m ≤ j ∧ j < 3 * nS m + 3) → sI M q j = sI (wI (wI (wI m3 83 a (Int32.ofNat (nS m))) 62 (6 * i + d1) 1) 63 (6 * i + d2) 1) q j := fun q j z => by
            rw [eM, ← em4]
            by_cases z1 : q = 63 ∧ j = 6 * i + d2
            · rw [z1.1, z1.2, ti_sI_eq, ti_sI_eq]
            · rw [ti_sI_ne z1, ti_sI_ne z1]
              by_cases z2 : q = 62 ∧ j = 6 * i + d1
              · rw [z2.1, z2.2, ti_sI_eq, ti_sI_eq]
              · rw [ti_sI_ne z2, ti_sI_ne z2]
                exact f1 q j z
          have hM0 : ∀ {q j : Nat}, ¬ (q = 85 ∨ q = 86 ∨ q = 87 ∨ q = 88 ∨ q = 89 ∨ q = 90) → ¬ (q = 57 ∧ (j = 30 ∨ j = 77 ∨ j = 81)) → q ≠ 123 → q ≠ 124 → q ≠ 125 → sI M q j = sI m0 q j := fun z1 z2 z3 z4 z5 => by
            rw [hM _ _ (by omega)]
            exact nm0.1.2.2 _ _ (by omega) (by omega) z2 z3 z4 z5
          have h90 : ∀ f, f < 3 → sI M 90 (3 * nS m + f) = sI S0 (mn S x 4) f ∧ mok (sI S0 (mn S x 4) f) := fun f hf => by
            have base := hF.Ash a (by rw [uAt]; exact ha) f hf
            have emn : mn St (lel St 18 a) 4 = mn S x 4 := by
              rw [elt, ← ex]
              unfold mn
              rw [rSt]
            rw [emn, oSt (fun z => pxx z.1.symm), omt (by omega)] at base
            rw [oS0 (fun z => pxx z.1.symm) (fun z => pxP z.1.symm), eM, ti_sI_ne (by omega), ti_sI_ne (by omega), f2 f hf, om4 (by omega) (by omega) (by omega) (by omega) (by omega) (by omega), base.1]
            exact ⟨rfl, base.2⟩
          have ses : P_ses S6 M := NS_fin hT0 hm0 hF0 (S := S0) (S' := S6) (m1 := m0) (m' := wI (wI (wI m3 83 a (Int32.ofNat (nS m))) 62 (6 * i + d1) 1) 63 (6 * i + d2) 1) (M := M) (d := d) (px := mn S x 4) (p := i) (ow := none) (owi := -1) (Nat.le_refl _) (fun _ _ _ => rfl) (fun _ _ _ => rfl) w1 w4 w5 w7 (by rw [eN]; exact n60) i6 (Or.inl ⟨rfl, rfl⟩) (by rw [eN]; exact nk0) (fun _ _ _ => rfl) rfl (by rw [eN]; exact nm0) (by rw [eN]; exact hM) (by rw [eN]; exact h90)
          have b0 := FR_BB hT0 hm0 hF0
          have lt0' : ∀ {k τ : Nat}, T k = τ → τ ≠ 0 → k < sN S0 := fun hk h0 => (hT0.1.t1 _ (by rw [hk]; exact h0)).1
          have eA : uA M = uA m0 := by
            unfold uA
            rw [hM0 (by omega) (by omega) (by omega) (by omega) (by omega)]
          have k06 : ∀ {k τ : Nat} (j : Nat), T k = τ → τ ≠ 0 → τ ≠ 22 → τ ≠ 1 → τ ≠ 2 → τ ≠ 3 → τ ≠ 4 → sI S6 k j = sI S0 k j := fun {k τ} j hk h0 h1 h2 h3 h5 h6 => nk0.1 k j (lt0' hk h0) (fun z => h1 (by rw [← hk, z.1, t19])) (fun z => h2 (by rw [← hk, z.1, t4])) (fun z => h3 (by rw [← hk, z, t5])) (fun z => h5 (by rw [← hk, z, t6])) (fun z => h6 (by rw [← hk, z, t7]))
          refine h2_ret ⟨⟨Asm_of (ast_same hF0.Ast eA (fun b hb => lel_oth hT0.1 (q := 1) (by decide) (by decide) w7 (fun k j hk z1 z2 => nk0.2.1 k j hk z1 z2) (SZ_lt (zA b0) (by decide) hb)) (fun b j hb => k06 j (tyA b0 hb) (by decide) (by decide) (by decide) (by decide) (by decide) (by decide)) (fun q j hq => hM0 (by omega) (by omega) (by omega) (by omega) (by omega))), fun j hj d hd => ?_, ses⟩, fun q j z1 z2 => ?_⟩
          · rw [k06 7 (tPj j hj) (by decide) (by decide) (by decide) (by decide) (by decide) (by decide), k06 8 (tPj j hj) (by decide) (by decide) (by decide) (by decide) (by decide) (by decide), hM0 (by omega) (by omega) (by omega) (by omega) (by omega), hM0 (by omega) (by omega) (by omega) (by omega) (by omega)]
            exact kn0 j hj d hd
          · rw [hM0 (by omega) z2 (by omega) (by omega) (by omega), om0 (by omega) (by omega) (by omega)]
      · -- asked
        have c0 : sI m 67 (12 * v + k) = 0 := by
          refine Int32.toInt_inj.mp ?_
          rw [show (0 : Int32).toInt = 0 from by decide]
          have n6 : ¬ (sI m 67 (12 * v + k)).toInt = 6 := fun z => c6 (Int32.toInt_inj.mp (by rw [z]; decide))
          have n5 : ¬ (sI m 67 (12 * v + k)).toInt = 5 := fun z => c5 (Int32.toInt_inj.mp (by rw [z]; decide))
          obtain ⟨g1, g2⟩ := k67
          have := te_iff (S := m) (b := 12 * v) (k := k)
          have nt : ¬ te m (12 * v) k := fun q => hnt (te_iff.mp q)
          by_cases c : 1 ≤ (sI m 67 (12 * v + k)).toInt
          · exact absurd ⟨c, by omega⟩ nt
          · omega
        refine l_of (st_T c0) (m_of (st_F c5) (l_of st_rv ?_))
        unfold f_Attempt_waitAt
        refine l_of (st_eq (show ((((pI S 11 6 (some x) (Int32.ofNat k)).bind fun S1 => (pI S1 11 7 (some x) (0 : Int32)).bind fun S2 => some S2) : Option AS).bind fun S6 => some S6) = ((pI S 11 6 (some x) (Int32.ofNat k)).bind fun S1 => (pI S1 11 7 (some x) (0 : Int32)).bind fun S2 => some S2) from ?_)) (l_of st_pI (l_of st_pI ?_))
        · cases ((pI S 11 6 (some x) (Int32.ofNat k)).bind fun S1 => (pI S1 11 7 (some x) (0 : Int32)).bind fun S2 => some S2) <;> rfl
        obtain ⟨S2, eS2⟩ : ∃ S2, S2 = wI (wI S x 6 (Int32.ofNat k)) x 7 0 := ⟨_, rfl⟩
        rw [← eS2]
        have oS2 : ∀ {k' j : Nat}, ¬ (k' = x ∧ (j = 6 ∨ j = 7)) → sI S2 k' j = sI S k' j := fun z => by
          rw [eS2, ti_sI_ne (by omega), ti_sI_ne (by omega)]
        have rS2 : sR S2 = sR S := by rw [eS2, sR_wI, sR_wI]
        have kS2 : ∀ {cs : List Nat}, ¬ 4205 ∈ cs → ¬ 4206 ∈ cs → ¬ 4207 ∈ cs → Kp T T cs St S2 := fun h1 h2 h3 => by
          rw [eS2]
          exact Kp_tr (kSt h1) (Kp_tr (Kp_wI _ tx (by rw [show cl 42 6 = 4206 by decide]; exact h2)) (Kp_wI _ tx (by rw [show cl 42 7 = 4207 by decide]; exact h3)))
        have rest := FP_KS bt' ⟨hF.Kn, FR_ses hF⟩ (kS2 (by decide) (by decide) (by decide)) (Kp_tr (kMt (by decide)) (kM1 (by decide) (by decide)))
        refine h2_ret ⟨⟨asm_mk (Asm_of (a := a) hF.Ast) ?_ (by rw [uAt]; exact ha) (fun b _ => ?_) (fun b j hb hba => ?_) (fun q j hq hj => ?_) (fun j => ?_) (fun j => ?_) ?_, rest.1, rest.2⟩, fun q j z1 z2 => om1 (by omega)⟩
        · rw [uAt]
          unfold uA
          rw [om1 (by omega)]
        · rw [elt]
          unfold lel
          rw [rS2]
        · rw [elt]
          have nb := xb b (by rw [← uAt]; exact hb) hba
          rw [oS2 (by omega), oSt (by omega)]
        · rw [om1 (by omega), omt (by omega)]
        · rw [om1 (by omega), omt (by omega)]
        · rw [om1 (by omega), omt (by omega)]
        · rw [elt, ← ex]
          refine ⟨?_, ?_, ?_, fun _ => ⟨?_, ?_, ?_, ?_⟩⟩
          · rw [oS2 (by omega), om1 (by omega), e5, e80]
          · rw [oS2 (by omega), om1 (by omega)]
            exact o8.1
          · rw [oS2 (by omega), om1 (by omega)]
            exact o8.2
          · rw [m179, eS2, ti_sI_ne (by omega), ti_sI_eq]
          · rw [m181, eS2, ti_sI_eq]
          · rw [m181]
            decide
          · rw [m181, m179, om1 (by omega), om1 (by omega), m78, nn_o (by omega), nn_o (by omega)]
            have := hB k hk c0
            rw [show (0 : Int32).toInt = 0 from by decide]
            omega
end
end
section
/-! ===== from a step on, all together ===== -/
section
variable {T Tm : Nat → Nat} {S m : AS}
theorem h_way (hT : TV T S) (hm : TI Tm m) {a : Nat} (ha : a < uA m) (hF : FR (wI S (lel S 18 a) 5 2) (wI m 80 a 2)) (e5 : sI S (lel S 18 a) 5 = 0) (e80 : sI m 80 a = 0) (sr : SR m) (ac : AC m) {st : Int32}
    (hst : ∀ v n, v < nV m → 1 ≤ n → n ≤ 12 → sI m 78 a = Int32.ofNat v → sI m 66 v = Int32.ofNat n → st = -1 ∨ ∃ k, k < n ∧ st = Int32.ofNat k) : H2 (f_K_goOn S (some 4) (some (lel S 18 a)) st) (f_M_go m (some 57) (Int32.ofNat a) st) (fun S' m' => P_go a S' m' ∧ GFm m m') := by
  obtain ⟨St, est⟩ : ∃ St, St = wI S (lel S 18 a) 5 2 := ⟨_, rfl⟩
  obtain ⟨mt, emt⟩ : ∃ mt, mt = wI m 80 a 2 := ⟨_, rfl⟩
  have hF' := hF
  rw [← est, ← emt] at hF'
  have oSt : ∀ {k j : Nat}, ¬ (k = lel S 18 a ∧ j = 5) → sI St k j = sI S k j := fun z => by
    rw [est]
    exact ti_sI_ne z
  have omt : ∀ {q j : Nat}, ¬ (q = 80 ∧ j = a) → sI mt q j = sI m q j := fun z => by
    rw [emt]
    exact ti_sI_ne z
  have rSt : sR St = sR S := by rw [est, sR_wI]
  have elt : ∀ l i, lel St l i = lel S l i := fun l i => by
    unfold lel
    rw [rSt]
  have uAt : uA mt = uA m := by
    unfold uA
    rw [omt (by omega)]
  have nVt : nV mt = nV m := by
    unfold nV
    rw [omt (by omega)]
  have h60 : uA m ≤ 60 := by
    have := hF'.Att.1.1
    rw [omt (by omega)] at this
    exact this
  have s18 : sI S 18 2 = Int32.ofNat (uA m) := by
    obtain ⟨z1, z2, z3⟩ := hF'.Att.1
    rw [oSt (by omega), omt (by omega)] at z3
    rw [omt (by omega)] at z2
    exact z3.trans z2
  have tx : T (lel S 18 a) = 42 := (lel_at hT.1 (q := 1) (i := a) (by decide) (by
      show (a : Int) < (sI S 18 2).toInt
      rw [s18, oi (by omega)]
      omega)).1
  obtain ⟨-, ⟨i, i6, r0, e75⟩, ⟨d1, l1, r1, e76⟩, ⟨d2, l2, r2, e77⟩, ⟨v, v1, r3, e78⟩, -⟩ := hF'.Att.2 a (by rw [uAt]; exact ha)
  rw [elt, rSt] at r0 r3
  rw [elt, oSt (by omega)] at r1 r2
  rw [elt] at r3
  rw [omt (by omega)] at e75 e76 e77 e78
  rw [nVt] at v1
  obtain ⟨⟨n, n1, n12, g5, g66, gr⟩, gb, -⟩ := hF'.Ver.2 v (by rw [nVt]; exact v1)
  rw [omt (by omega)] at g66
  have v8 : v < 8 := by
    have := hF'.Ver.1.1
    rw [omt (by omega)] at this
    unfold nV at v1
    omega
  have n8 : nV m ≤ 8 := by
    have := hF'.Ver.1.1
    rw [omt (by omega)] at this
    exact this
  have h9 : sI m 57 9 = Int32.ofNat (nV m) := by
    have := hF'.Ver.1.2.1
    rw [omt (by omega)] at this
    exact this
  have tn : T (lel S 17 v) = 40 := by
    refine (lel_at hT.1 (q := 0) (i := v) (by decide) ?_).1
    show (v : Int) < (sI S 17 2).toInt
    have := hF'.Ver.1.2.2
    rw [oSt (by omega), omt (by omega), h9] at this
    rw [this, oi (by omega)]
    omega
  rw [elt, oSt (fun z => by
    rw [z.1, tx] at tn
    exact absurd tn (by decide))] at g5
  have f : FLR S m (lel S 17 v) v n := by
    refine ⟨⟨n1, n12⟩, v8, g5, fun j k hj hk => ?_⟩
    have := gr j k hj hk
    have efa : fa St (lel St 17 v) j = fa S (lel S 17 v) j := by
      rw [elt]
      unfold fa
      rw [rSt]
    have tw := (tyW hT.1 tn hj).2
    rw [efa, oSt (fun z => by
      rw [z.1, tx] at tw
      exact absurd tw (by decide)), omt (by omega)] at this
    exact this
  obtain ⟨y, y1, y2, y3, y4⟩ := tyM (j := 4) hT.1 tx rfl
  have xne : ∀ {k τ : Nat}, T k = τ → τ ≠ 42 → k ≠ lel S 18 a := fun hk ht z => by
    rw [z, tx] at hk
    exact ht hk.symm
  have PFS : PF S := by
    have := hF'.PF
    unfold cPF PF at this
    rw [rSt] at this
    exact ⟨fun j hj => by
      obtain ⟨z1, z2, z3, z4, z5⟩ := this.1 j hj
      exact ⟨z1, z2, z3, z4, by rw [← z5]; exact (oSt (by omega)).symm⟩, this.2⟩
  have g : GB S m (lel S 18 a) a (lel S 17 v) v n := by
    refine ⟨⟨K4F_of hT.1, MF_of hm, ?_, fun j hj => ?_, fun j hj => ?_, fun j hj d hd => ?_, ?_, fun j hj => ⟨fun c hc => ?_, ?_⟩, PFS⟩, by omega, ⟨i, d1, d2, ⟨i6, l1, l2⟩, ⟨r0, r1, r2⟩, e75, e76, e77⟩, r3, e78, f, ⟨y, mn S (lel S 18 a) 4, y1, y3, fun c hc => ?_⟩, sr⟩
    · have := hF'.NW
      unfold cNW at this
      rw [oSt (by omega), omt (by omega)] at this
      exact this
    · have := hF'.Pts j hj
      rw [oSt (by omega), oSt (by omega), omt (by omega), omt (by omega)] at this
      exact this
    · have := hF'.Wrg j hj
      have ne := xne (kt_P hT.1 PFS hj).1 (by decide)
      rw [oSt (by omega), oSt (by omega), oSt (by omega), omt (by omega), omt (by omega), omt (by omega)] at this
      exact this
    · have := hF'.Kn j hj d hd
      rw [oSt (by omega), oSt (by omega), omt (by omega), omt (by omega)] at this
      exact this
    · have := hF'.Wgt
      unfold cWgt at this
      rw [oSt (by omega), oSt (by omega), oSt (by omega)] at this
      exact this
    · have := (hF'.Fac j hj).1 c hc
      rw [oSt (by omega), oSt (by omega), omt (by omega), omt (by omega)] at this
      exact this
    · have := (hF'.Fac j hj).2
      rw [oSt (by omega), omt (by omega)] at this
      exact this
    · have := hF'.Ash a (by rw [uAt]; exact ha) c hc
      have emn : mn St (lel St 18 a) 4 = mn S (lel S 18 a) 4 := by
        rw [elt]
        unfold mn
        rw [rSt]
      rw [emn, oSt (by omega), omt (by omega)] at this
      exact this
  refine h_goOn0 g ac v1 h9 n8 g66 (fun st at' hs => ?_) (hst v n v1 n1 n12 e78 g66)
  refine h_gfin hT hm ha hF e5 e80 e78 f r3 (fun k hk e0 => ?_) hs
  have := gb k (by rw [omt (by omega), g66, oi (by omega)]; omega) (by rw [omt (by omega)]; exact e0)
  rw [omt (by omega)] at this
  exact this
end
end
section
/-! ===== begin ===== -/
theorem sI_wR' (S : AS) (k j : Nat) (v : Option Nat) : sI (wR S k j v) = sI S := rfl
theorem sN_wR' (S : AS) (k j : Nat) (v : Option Nat) : sN (wR S k j v) = sN S := rfl
theorem sL_wR' (S : AS) (k j : Nat) (v : Option Nat) : sL (wR S k j v) = sL S := rfl
/-- a new attempt in the class -/
def ATK (S S' : AS) (z : Nat) (pn fl : Option Nat) (d1 d2 : Int32) : Prop := sN S' = sN S + 2 ∧ (∀ k j, k < sN S → k ≠ z → sI S' k j = sI S k j ∧ sR S' k j = sR S k j) ∧ (∀ k, k < sN S → sL S' k = sL S k) ∧ (sR S' z 0 = pn ∧ sI S' z 1 = d1 ∧ sI S' z 2 = d2 ∧ sR S' z 3 = fl ∧ sR S' z 4 = some (sN S)) ∧ (sI S' z 5 = 0 ∧ sI S' z 8 = sI S z 8 ∧ sI S' z 9 = -1) ∧ sR S' (sN S) 0 = some (sN S + 1) ∧ ∀ f, f < 3 → sI S' (sN S + 1) f = -1
theorem p_atI {S : AS} {z : Nat} {pn fl : Option Nat} {d1 d2 : Int32} (hz : z < sN S) : Hp (f_Attempt_init S (some z) pn d1 d2 fl) (fun S' => ATK S S' z pn fl d1 d2) := by
  unfold f_Attempt_init
  refine p_of st_val (p_of st_nO (p_bd (p_sh1 (S := nO S 20) (y := sN S) (by rw [nO_N]; omega)) (fun S3 h3 => ?_)))
  obtain ⟨a1, a2, a3, a4, a5, a6⟩ := h3
  rw [nO_N] at a1 a2 a3 a4 a5 a6
  have o3 : ∀ k j, k < sN S → sI S3 k j = sI S k j ∧ sR S3 k j = sR S k j := fun k j hk => by
    obtain ⟨b1, b2, -⟩ := nO_f S 20 (k := k) (by omega)
    exact ⟨(a4 k j (by omega)).trans (by rw [b1]), (a3 k j (by omega) (by omega)).trans (by rw [b2])⟩
  refine p_of st_pR (p_of st_pI (p_of st_pI (p_of st_pI (p_of st_pR (p_of st_pI (p_of st_pI (p_of st_pR (p_ret ?_))))))))
  obtain ⟨S4, e4⟩ : ∃ S4, S4 = wR S3 z 4 (some (sN S)) := ⟨_, rfl⟩
  rw [← e4]
  obtain ⟨S7, e7⟩ : ∃ S7, S7 = wI (wI (wI S4 z 5 0) z 6 (-1)) z 9 (-1) := ⟨_, rfl⟩
  rw [← e7]
  obtain ⟨S8, e8⟩ : ∃ S8, S8 = wR S7 z 0 pn := ⟨_, rfl⟩
  rw [← e8]
  obtain ⟨S10, e10⟩ : ∃ S10, S10 = wI (wI S8 z 1 d1) z 2 d2 := ⟨_, rfl⟩
  rw [← e10]
  have I : ∀ k j, ¬ (k = z ∧ (j = 1 ∨ j = 2 ∨ j = 5 ∨ j = 6 ∨ j = 9)) → sI (wR S10 z 3 fl) k j = sI S3 k j := fun k j q => by
    rw [sI_wR', e10, ti_sI_ne (by omega), ti_sI_ne (by omega), e8, sI_wR', e7, ti_sI_ne (by omega), ti_sI_ne (by omega), ti_sI_ne (by omega), e4, sI_wR']
  have R : ∀ k j, ¬ (k = z ∧ (j = 0 ∨ j = 3 ∨ j = 4)) → sR (wR S10 z 3 fl) k j = sR S3 k j := fun k j q => by
    rw [ti_sR_ne (by omega), e10, sR_wI, sR_wI, e8, ti_sR_ne (by omega), e7, sR_wI, sR_wI, sR_wI, e4, ti_sR_ne (by omega)]
  have L : sL (wR S10 z 3 fl) = sL S3 := by
    rw [sL_wR', e10]
    show sL S8 = _
    rw [e8, sL_wR', e7]
    show sL S4 = _
    rw [e4, sL_wR']
  have N : sN (wR S10 z 3 fl) = sN S3 := by
    rw [sN_wR', e10]
    show sN S8 = _
    rw [e8, sN_wR', e7]
    show sN S4 = _
    rw [e4, sN_wR']
  refine ⟨N.trans (a1.trans (by omega)), fun k j hk hkz => ⟨(I k j (by omega)).trans (o3 k j hk).1, (R k j (by omega)).trans (o3 k j hk).2⟩, fun k hk => by rw [L, a6 k (by omega), (nO_f S 20 (k := k) (by omega)).2.2], ⟨?_, ?_, ?_, ti_sR_eq _ _ _ _, ?_⟩, ⟨?_, ?_, ?_⟩, ?_, fun f hf => ?_⟩
  · rw [ti_sR_ne (by omega), e10, sR_wI, sR_wI, e8, ti_sR_eq]
  · rw [sI_wR', e10, ti_sI_ne (by omega), ti_sI_eq]
  · rw [sI_wR', e10, ti_sI_eq]
  · rw [ti_sR_ne (by omega), e10, sR_wI, sR_wI, e8, ti_sR_ne (by omega), e7, sR_wI, sR_wI, sR_wI, e4, ti_sR_eq]
  · rw [sI_wR', e10, ti_sI_ne (by omega), ti_sI_ne (by omega), e8, sI_wR', e7, ti_sI_ne (by omega), ti_sI_ne (by omega), ti_sI_eq]
  · exact (I z 8 (by omega)).trans (o3 z 8 hz).1
  · rw [sI_wR', e10, ti_sI_ne (by omega), ti_sI_ne (by omega), e8, sI_wR', e7, ti_sI_eq]
  · exact (R (sN S) 0 (by omega)).trans a2
  · exact (I (sN S + 1) f (by omega)).trans (a5 f hf)
section
variable {T Tm : Nat → Nat} {S m : AS}
/-- the reference's loop: nothing shown yet -/
theorem h_bgM_L {α : Type} {x : Option α} {Q : α → Int32 × AS → Prop} {a : Nat} (hmf : MF m) (a60 : a < 60) (t84 : Tm 84 = 129)
    (H : ∀ M, TI Tm M → sR M = sR m → (∀ q c, ¬ (q = 84 ∧ 3 * a ≤ c ∧ c < 3 * a + 3) → sI M q c = sI m q c) → (∀ f, f < 3 → sI M 84 (3 * a + f) = -1) → H2 x ((gI M 23 19 (some 57)).bind fun v1 => (pI M 23 19 (some 57) (v1 + (1 : Int32))).bind fun S2 => (kr_rv S2 23 (some 57)).bind fun u3 => (f_M_go S2 (some 57) (Int32.ofNat a) (0 : Int32)).bind fun S4 => some (Int32.ofNat a, S4)) Q) :
    ∀ (k j fu : Nat) (M : AS), j + k = 3 → TI Tm M → sR M = sR m → (∀ q c, ¬ (q = 84 ∧ 3 * a ≤ c ∧ c < 3 * a + 3) → sI M q c = sI m q c) → (∀ f, f < j → sI M 84 (3 * a + f) = -1) → H2 x (f_M_begin_L136 fu M (some 57) (Int32.ofNat a) (Int32.ofNat j)) Q
  | _, _, 0, _, _, _, _, _, _ => h2_m0
  | 0, j, fu + 1, M, hk, r0, r1, r3, r4 => by
    unfold f_M_begin_L136 f_M_begin_C136
    have e : j = 3 := by omega
    subst e
    exact m_of (st_T (by decide)) (H M r0 r1 r3 r4)
  | k + 1, j, fu + 1, M, hk, r0, r1, r3, r4 => by
    unfold f_M_begin_L136 f_M_begin_C136
    refine m_of (st_F (fun q => by have := (ole (a := 3) (b := j) (by decide) (by omega)).mp q; omega)) (m_of (st_gRe (v := some 84) (MF_e hmf r1 29 84 rfl)) (m_of (st_bIe (ix3 a a60 j (by omega))) (m_of st_val ?_)))
    rw [o1]
    refine h_bgM_L hmf a60 t84 H k (j + 1) fu _ (by omega) (TIwI r0 t84 (fun lo hi e => by cases e) (fun n lo hi e => by cases e) (by omega)) r1 (fun q c z => ?_) (fun f hf => ?_)
    · rw [ti_sI_ne (by omega)]
      exact r3 q c z
    · by_cases z : f = j
      · subst z
        rw [ti_sI_eq]
      · rw [ti_sI_ne (by omega)]
        exact r4 f (by omega)
def P_beg (S m : AS) : Prop := cKn S m ∧ cAtt S m ∧ cAst S m ∧ P_ses S m
theorem FR_beg (h : FR S m) : P_beg S m := ⟨h.Kn, h.Att, h.Ast, FR_ses h⟩
theorem sub1 : ∀ n, n < 9 → 0 < n → Int32.ofNat n - (1 : Int32) = Int32.ofNat (n - 1) := by decide +kernel
theorem bg_go (hT : TV T S) (hm : TI Tm m) (h : FR S m) (sr : SR m) (ac : AC m) (e82 : sI m 57 82 = 0) {i d1 d2 : Nat} (i6 : i < 6) (l1 : d1 < 6) (l2 : d2 < 6) (nA60 : uA m < 60) (nV0 : 0 < nV m) :
    H2 (f_K_begin_B54 S (some 4) (Int32.ofNat d1) (Int32.ofNat d2) (some (29 + 4 * i)) 1) ((gI m 23 19 (some 57)).bind fun v11 => (gR m 23 20 (some 57)).bind fun v12 => (bI m v12 v11 (Int32.ofNat i)).bind fun S13 => (gR S13 23 21 (some 57)).bind fun v14 => (bI S13 v14 v11 (Int32.ofNat d1)).bind fun S15 => (gR S15 23 22 (some 57)).bind fun v16 => (bI S15 v16 v11 (Int32.ofNat d2)).bind fun S17 => (gR S17 23 23 (some 57)).bind fun v18 => (gI S17 23 9 (some 57)).bind fun v19 => (bI S17 v18 v11 (v19 - (1 : Int32))).bind fun S20 => (gR S20 23 25 (some 57)).bind fun v21 => (bI S20 v21 v11 (0 : Int32)).bind fun S22 => (gR S22 23 28 (some 57)).bind fun v23 => (bI S22 v23 v11 (-1 : Int32)).bind fun S24 => f_M_begin_L136 kr_FU S24 (some 57) v11 (0 : Int32)) (fun x y => AN [eX, eS] x.1 y.1 (sI y.2 57 82) ∧ P_beg x.2 y.2) := by
  have b := FR_BB hT hm h
  have k4 := K4F_of hT.1
  have hmf := MF_of hm
  obtain ⟨zA1, zA2, zA3⟩ := zA b
  obtain ⟨zV1, zV2, zV3⟩ := zV b
  have n8 : nV m ≤ 8 := zV1
  have s18 : sI S 18 2 = Int32.ofNat (uA m) := zA3.trans zA2
  have s17 : sI S 17 2 = Int32.ofNat (nV m) := zV3.trans zV2
  have m19 : sI m 57 19 = Int32.ofNat (uA m) := zA2
  have m9 : sI m 57 9 = Int32.ofNat (nV m) := zV2
  obtain ⟨vn, evn⟩ : ∃ vn, vn = nV m - 1 := ⟨_, rfl⟩
  have vlt : vn < nV m := by omega
  have esub : Int32.ofNat (nV m) - (1 : Int32) = Int32.ofNat vn := by
    rw [evn]
    exact sub1 _ (by omega) nV0
  obtain ⟨t4, -⟩ := kt4 hT.1
  have lt : ∀ {k τ : Nat}, T k = τ → τ ≠ 0 → k < sN S := fun hk h0 => (hT.1.t1 _ (by rw [hk]; exact h0)).1
  have t17 : T 17 = 20 := (hT.1.t6 0 (by decide)).1
  have t18 : T 18 = 21 := (hT.1.t6 1 (by decide)).1
  have n4 := lt t4 (by decide)
  have n17 := lt t17 (by decide)
  have n18 := lt t18 (by decide)
  obtain ⟨d, w1, w2, w3, w4, w5, w6⟩ := LO_add hT.1 (q := 1) (by decide) s18 (by omega)
  have w1 : sR S 18 1 = some d := w1
  have w5 : d ≠ 18 := w5
  have dne : ∀ {k τ : Nat}, T k = τ → τ ≠ 0 → kd τ ≠ 1 → τ ≠ 31 → k ≠ d := fun hk h0 h1 h2 => w6 _ (by rw [hk]; exact h0) (by rw [hk]; exact h1) (by rw [hk]; exact h2)
  obtain ⟨tP, -, -, -⟩ := kt_P hT.1 h.PF i6
  have tf := tyV b vlt
  -- the new attempt: its type, its cells
  obtain ⟨S3', e3', g3, raw⟩ : Ho ((some (nO S 11)).bind fun S3 => some S3) (fun S3 => Rl T [] S (0 + 1) (0 + 20) T S3 ∧ RawP S T S3 11 (sN S)) := r_nO (Rlrf hT.1) (by decide) (fun S' a c _ => r_some ⟨a, c⟩)
  have e3' : nO S 11 = S3' := Option.some.inj e3'
  rw [← e3'] at g3 raw
  have f3 : ∀ k, k < sN S → sI (nO S 11) k = sI S k ∧ sR (nO S 11) k = sR S k ∧ sL (nO S 11) k = sL S k := fun k hk => nO_f S 11 (by omega)
  have z3 := nO_0 S 11
  have N3 : sN (nO S 11) = sN S + 1 := rfl
  unfold f_K_begin_B54
  refine l_of (st_bx (rS1 S)) (l_of st_nO ?_)
  refine l_of (st_gRe (v := some 17) (by rw [(f3 4 n4).2.1]; exact k4.1 6 17 rfl)) (l_of (st_gRe (v := some 17) (by rw [(f3 4 n4).2.1]; exact k4.1 6 17 rfl)) (l_of st_rv (l_of st_size (l_of st_rv ?_))))
  rw [(f3 17 n17).1, s17, esub]
  obtain ⟨r17, r1, r2⟩ := lrow hT.1 (q := 0) (i := vn) (by decide) (SZ_lt (zV b) (by decide) vlt)
  have r1 : sR S 17 1 = some r17 := r1
  have a17 := atV b vlt
  rw [r1] at a17
  refine l_of (st_get (p := lel S 17 vn) (oc (by omega)) (by
    rw [(f3 17 n17).2.1, r1]
    show sR (nO S 11) r17 vn = _
    rw [(f3 r17 (lt r2 (by decide))).2.1]
    exact a17)) (l_of st_cc (l_bd (fun S13 e13 => ?_)))
  obtain ⟨at1, at2, at3, ⟨at40, at41, at42, at43, at44⟩, ⟨at5, at8, at9⟩, at6, at7⟩ := p_atI (by rw [N3]; omega) _ e13
  rw [N3] at at1 at2 at3 at44 at6 at7
  obtain ⟨S13', h13, T14, g14, mk⟩ := ho_Attempt (a2 := Int32.ofNat d1) (a3 := Int32.ofNat d2) g3 raw (p := some (29 + 4 * i)) (f := some (lel S 17 vn)) ⟨_, rfl, tP, by decide⟩ ⟨_, rfl, tf, by decide⟩
  rw [e13] at h13
  cases h13
  have o13 : ∀ k j, k < sN S → sI S13 k j = sI S k j ∧ sR S13 k j = sR S k j := fun k j hk => by
    obtain ⟨x1, x2⟩ := at2 k j (by omega) (by omega)
    exact ⟨x1.trans (by rw [(f3 k hk).1]), x2.trans (by rw [(f3 k hk).2.1])⟩
  refine l_of (st_gRe (v := some 18) ((o13 4 7 n4).2.trans (k4.1 7 18 rfl))) (l_of st_rv (l_b2 (fun v17 S16 e16 => ?_)))
  obtain ⟨p1, p2, p3, p4, p5⟩ := p_add (S := S13) (l := 18) (d := d) (x := sN S) (n := uA m) ((o13 18 1 n18).2.trans w1) ((o13 18 2 n18).1.trans s18) (by omega) (by rw [at3 d (by omega), (f3 d w4).2.2]; exact w2) (by omega) (by omega) w5 _ e16
  have p1 : ∀ p j, p < sN S13 → ¬ (p = 18 ∧ (j = 0 ∨ j = 2)) → sI S16 p j = sI S13 p j := p1
  have p2 : sI S16 18 2 = Int32.ofNat (uA m + 1) := p2
  have p3 : ∀ p j, p < sN S13 → ¬ (p = 18 ∧ j = 1) → ¬ (p = d ∧ j = uA m) → sR S16 p j = sR S13 p j := p3
  have p4 : ∀ k, k < uA m → sR S16 ((sR S16 18 1).getD 0) k = sR S13 d k := p4
  have p5 : sR S16 ((sR S16 18 1).getD 0) (uA m) = some (sN S) := p5
  obtain ⟨q16, h16, T25, g25, ty25, -⟩ := ho_add (w' := [53100, 2102, 52101, 2100]) (hi := 60) 1 g14 (x := some 18) (v := some (sN S)) ⟨_, rfl, (mk.2.1 18 (by rw [t18]; decide)).trans t18, by decide⟩ (by decide) ⟨_, rfl, mk.1, by decide⟩ rfl (by
    show (sI S13 18 2).toInt < 60
    rw [(o13 18 2 n18).1, s18, oi (by omega)]
    omega) (by decide) (by decide +kernel)
  rw [e16] at h16
  cases h16
  have g25 : Rl T [53100, 2102, 52101, 2100] S _ _ T25 S16 := g25
  have tz : T25 (sN S) = 42 := (ty25 _ (by rw [mk.1]; decide)).trans mk.1
  have hT25 : TV T25 S16 := ⟨g25.1, (g25.ty 1 (by rw [hT.2]; decide)).trans hT.2⟩
  have fI : ∀ k j, k < sN S → ¬ (k = 18 ∧ (j = 0 ∨ j = 2)) → sI S16 k j = sI S k j := fun k j hk q => (p1 k j (by omega) q).trans (o13 k j hk).1
  have fR : ∀ k j, k < sN S → ¬ (k = 18 ∧ j = 1) → ¬ (k = d ∧ j = uA m) → sR S16 k j = sR S k j := fun k j hk q1 q2 => (p3 k j (by omega) q1 q2).trans (o13 k j hk).2
  have gI' : ∀ j, sI S16 (sN S) j = sI S13 (sN S) j := fun j => p1 _ j (by omega) (by omega)
  have gR' : ∀ j, sR S16 (sN S) j = sR S13 (sN S) j := fun j => p3 _ j (by omega) (by omega) (by omega)
  have gR1 : sR S16 (sN S + 1) 0 = some (sN S + 2) := (p3 _ 0 (by omega) (by omega) (by omega)).trans at6
  have gI2 : ∀ f, f < 3 → sI S16 (sN S + 2) f = -1 := fun f hf => (p1 _ f (by omega) (by omega)).trans (at7 f hf)
  have elo : ∀ k, k < uA m → lel S16 18 k = lel S 18 k := fun k hk => by
    unfold lel
    rw [p4 k hk, (o13 d k w4).2, w1]
    rfl
  have eln : lel S16 18 (uA m) = sN S := by
    unfold lel
    rw [p5]
    rfl
  have elS : ∀ k, k < nS m → lel S16 19 k = lel S 19 k := fun k hk => lel_othG hT.1 (q := 2) (q0 := 1) (by decide) (by decide) (by decide) w6 fR (SZ_lt (zS b) (by decide) hk)
  have elV : ∀ k, k < nV m → lel S16 17 k = lel S 17 k := fun k hk => lel_othG hT.1 (q := 0) (q0 := 1) (by decide) (by decide) (by decide) w6 fR (SZ_lt (zV b) (by decide) hk)
  -- the reference
  obtain ⟨-, t75, -⟩ := md_at hm (j := 20) (p := 75) rfl rfl
  obtain ⟨-, t76, -⟩ := md_at hm (j := 21) (p := 76) rfl rfl
  obtain ⟨-, t77, -⟩ := md_at hm (j := 22) (p := 77) rfl rfl
  obtain ⟨-, t78, -⟩ := md_at hm (j := 23) (p := 78) rfl rfl
  obtain ⟨-, t80, -⟩ := md_at hm (j := 25) (p := 80) rfl rfl
  obtain ⟨-, t83, -⟩ := md_at hm (j := 28) (p := 83) rfl rfl
  obtain ⟨-, t84, -⟩ := md_at hm (j := 29) (p := 84) rfl rfl
  have t57 := hm.t9.1
  have ai : (Int32.ofNat (uA m)).toNatClampNeg = uA m := oc (by omega)
  refine m_of (st_gIe m19) (m_of (st_gRe (hmf 20 75 rfl)) (m_of (st_bIe ai) (m_of (st_gRe (v := some 76) (hmf 21 76 rfl)) (m_of (st_bIe ai) (m_of (st_gRe (v := some 77) (hmf 22 77 rfl)) (m_of (st_bIe ai) ?_))))))
  refine m_of (st_gRe (v := some 78) (hmf 23 78 rfl)) (m_of (st_gIe (v := Int32.ofNat (nV m)) ((ti_sI_ne (by omega)).trans ((ti_sI_ne (by omega)).trans ((ti_sI_ne (by omega)).trans m9)))) (m_of (st_bIe ai) ?_))
  rw [esub]
  refine m_of (st_gRe (v := some 80) (hmf 25 80 rfl)) (m_of (st_bIe ai) (m_of (st_gRe (v := some 83) (hmf 28 83 rfl)) (m_of (st_bIe ai) ?_)))
  obtain ⟨m24, e24⟩ : ∃ m24, m24 = wI (wI (wI (wI (wI (wI m 75 (uA m) (Int32.ofNat i)) 76 (uA m) (Int32.ofNat d1)) 77 (uA m) (Int32.ofNat d2)) 78 (uA m) (Int32.ofNat vn)) 80 (uA m) 0) 83 (uA m) (-1) := ⟨_, rfl⟩
  rw [← e24]
  have r24 : sR m24 = sR m := by rw [e24]; rfl
  have o24 : ∀ {q j : Nat}, ¬ ((q = 75 ∨ q = 76 ∨ q = 77 ∨ q = 78 ∨ q = 80 ∨ q = 83) ∧ j = uA m) → sI m24 q j = sI m q j := fun z => by
    rw [e24, ti_sI_ne (by omega), ti_sI_ne (by omega), ti_sI_ne (by omega), ti_sI_ne (by omega), ti_sI_ne (by omega), ti_sI_ne (by omega)]
  have rn : ∀ (n : Nat) (hi : Int), n < 300 → (n : Int) ≤ hi → In 0 hi (Int32.ofNat n) := fun n hi h1 h2 => ⟨by rw [oi (by omega)]; omega, by rw [oi (by omega)]; exact h2⟩
  have ti24 : TI Tm m24 := by
    rw [e24]
    exact TIwI (TIwI (TIwI (TIwI (TIwI (TIwI hm t75 (fun lo hi e => by cases e) (fun n lo hi e => by cases e; exact rn _ _ (by omega) (by omega)) (by omega)) t76 (fun lo hi e => by cases e) (fun n lo hi e => by cases e; exact rn _ _ (by omega) (by omega)) (by omega)) t77 (fun lo hi e => by cases e) (fun n lo hi e => by cases e; exact rn _ _ (by omega) (by omega)) (by omega)) t78 (fun lo hi e => by cases e) (fun n lo hi e => by cases e; exact rn _ _ (by omega) (by omega)) (by omega)) t80 (fun lo hi e => by cases e) (fun n lo hi e => by cases e; decide) (by omega)) t83 (fun lo hi e => by cases e) (fun n lo hi e => by cases e; decide) (by omega)
  refine h_bgM_L (Tm := Tm) (m := m24) (a := uA m) (MF_e hmf r24) nA60 t84 (fun M ti rM oM shM => ?_) 3 0 kr_FU m24 rfl ti24 rfl (fun _ _ _ => rfl) (fun f hf => absurd hf (Nat.not_lt_zero _))
  refine m_of (st_gIe (v := Int32.ofNat (uA m)) ((oM _ _ (by omega)).trans ((o24 (by omega)).trans m19))) (m_of st_pI (m_of st_rv ?_))
  rw [o1]
  obtain ⟨m2, e2⟩ : ∃ m2, m2 = wI M 57 19 (Int32.ofNat (uA m + 1)) := ⟨_, rfl⟩
  rw [← e2]
  have o2 : ∀ {q j : Nat}, ¬ ((q = 75 ∨ q = 76 ∨ q = 77 ∨ q = 78 ∨ q = 80 ∨ q = 83) ∧ j = uA m) → ¬ (q = 84 ∧ 3 * uA m ≤ j ∧ j < 3 * uA m + 3) → ¬ (q = 57 ∧ j = 19) → sI m2 q j = sI m q j := fun z1 z2 z3 => by
    rw [e2, ti_sI_ne z3, oM _ _ z2, o24 z1]
  have n24 : ∀ {q : Nat}, q ≠ 84 → q ≠ 57 → sI m2 q (uA m) = sI m24 q (uA m) := fun z1 z2 => by
    rw [e2, ti_sI_ne (by omega), oM _ _ (by omega)]
  have v75 : sI m2 75 (uA m) = Int32.ofNat i := by rw [n24 (by omega) (by omega), e24, ti_sI_ne (by omega), ti_sI_ne (by omega), ti_sI_ne (by omega), ti_sI_ne (by omega), ti_sI_ne (by omega), ti_sI_eq]
  have v76 : sI m2 76 (uA m) = Int32.ofNat d1 := by rw [n24 (by omega) (by omega), e24, ti_sI_ne (by omega), ti_sI_ne (by omega), ti_sI_ne (by omega), ti_sI_ne (by omega), ti_sI_eq]
  have v77 : sI m2 77 (uA m) = Int32.ofNat d2 := by rw [n24 (by omega) (by omega), e24, ti_sI_ne (by omega), ti_sI_ne (by omega), ti_sI_ne (by omega), ti_sI_eq]
  have v78 : sI m2 78 (uA m) = Int32.ofNat vn := by rw [n24 (by omega) (by omega), e24, ti_sI_ne (by omega), ti_sI_ne (by omega), ti_sI_eq]
  have v80 : sI m2 80 (uA m) = 0 := by rw [n24 (by omega) (by omega), e24, ti_sI_ne (by omega), ti_sI_eq]
  have v83 : sI m2 83 (uA m) = -1 := by rw [n24 (by omega) (by omega), e24, ti_sI_eq]
  have v84 : ∀ f, f < 3 → sI m2 84 (3 * uA m + f) = -1 := fun f hf => by
    rw [e2, ti_sI_ne (by omega)]
    exact shM f hf
  have v19 : sI m2 57 19 = Int32.ofNat (uA m + 1) := by rw [e2, ti_sI_eq]
  have ti2 : TI Tm m2 := by
    rw [e2]
    exact TIwI ti t57 (fun lo hi e => by cases e; exact rn _ _ (by omega) (by omega)) (fun n lo hi e => by cases e) (by omega)
  have uA2 : uA m2 = uA m + 1 := by
    have : nn (sI m2 57 19) = uA m + 1 := by
      rw [v19]
      exact nn_o (by omega)
    exact this
  have nV2 : nV m2 = nV m := by
    unfold nV
    rw [o2 (by omega) (by omega) (by omega)]
  have nS2 : nS m2 = nS m := by
    unfold nS
    rw [o2 (by omega) (by omega) (by omega)]
  -- the full relation, the new attempt masked
  obtain ⟨St, est⟩ : ∃ St, St = wI S16 (sN S) 5 2 := ⟨_, rfl⟩
  obtain ⟨mt, emt⟩ : ∃ mt, mt = wI m2 80 (uA m) 2 := ⟨_, rfl⟩
  have oSt : ∀ {k j : Nat}, ¬ (k = sN S ∧ j = 5) → sI St k j = sI S16 k j := fun z => by
    rw [est]
    exact ti_sI_ne z
  have omt : ∀ {q j : Nat}, ¬ (q = 80 ∧ j = uA m) → sI mt q j = sI m2 q j := fun z => by
    rw [emt]
    exact ti_sI_ne z
  have rSt : sR St = sR S16 := by rw [est, sR_wI]
  have elt : ∀ l k, lel St l k = lel S16 l k := fun l k => by
    unfold lel
    rw [rSt]
  have uAt : uA mt = uA m + 1 := by
    rw [← uA2]
    unfold uA
    rw [omt (by omega)]
  have nVt : nV mt = nV m := by
    rw [← nV2]
    unfold nV
    rw [omt (by omega)]
  have nSt : nS mt = nS m := by
    rw [← nS2]
    unfold nS
    rw [omt (by omega)]
  have kS : ∀ {cs : List Nat}, cs.all (fun z => !([53100, 2102, 52101, 2100] : List Nat).contains z) = true → ¬ 4205 ∈ cs → Kp T T25 cs S St := fun h1 h2 => by
    rw [est]
    exact Kp_tr (Kp_of g25 h1) (Kp_wI _ tz (by rw [show cl 42 5 = 4205 by decide]; exact h2))
  have kM : Kp Tm Tm ma_BEG m mt := by
    have k24 : Kp Tm Tm ma_BEG m m24 := by
      rw [e24]
      exact Kp_tr (Kp_wA _ t75 (by decide) (by decide)) (Kp_tr (Kp_wA _ t76 (by decide) (by decide)) (Kp_tr (Kp_wA _ t77 (by decide) (by decide)) (Kp_tr (Kp_wA _ t78 (by decide) (by decide)) (Kp_tr (Kp_wA _ t80 (by decide) (by decide)) (Kp_wA _ t83 (by decide) (by decide))))))
    have kM' : Kp Tm Tm ma_BEG m24 M := ⟨fun _ _ => rfl, fun k j h1 h2 => oM k j (fun z => by
      rw [z.1, t84, show cl 129 j = 12900 from if_neg (by decide)] at h2
      exact absurd h2 (by decide)), fun k j h1 h2 => by rw [rM]⟩
    rw [emt, e2]
    exact Kp_tr k24 (Kp_tr kM' (Kp_tr (Kp_wI _ t57 (by decide)) (Kp_wA _ t80 (by decide) (by decide))))
  have ltA : ∀ a, a < uA m → lel S 18 a < sN S := fun a ha => lt (tyA b ha) (by decide)
  have tA : ∀ a, a < uA m → T (lel S 18 a) = 42 := fun a ha => tyA b ha
  have IA : ∀ a j, a < uA m → sI St (lel S 18 a) j = sI S (lel S 18 a) j := fun a j ha => by
    have := ltA a ha
    rw [oSt (by omega)]
    exact fI _ j this (fun z => by
      have := tA a ha
      rw [z.1, t18] at this
      exact absurd this (by decide))
  have RT' : ∀ {k τ : Nat} (j : Nat), T k = τ → τ ≠ 0 → kd τ ≠ 1 → τ ≠ 31 → τ ≠ 21 → sR St k j = sR S k j := fun {k τ} j hk h0 h1 h2 h3 => by
    rw [rSt]
    exact fR k j (lt hk h0) (fun z => h3 (by rw [← hk, z.1, t18])) (fun z => dne hk h0 h1 h2 z.1)
  have mnA : ∀ a, a < uA m → mn St (lel S 18 a) 4 = mn S (lel S 18 a) 4 ∧ T (mn S (lel S 18 a) 4) = 48 := fun a ha => by
    obtain ⟨x, x1, x2, x3, x4⟩ := tyM (j := 4) hT.1 (tA a ha) rfl
    refine ⟨?_, x4⟩
    unfold mn
    rw [RT' 4 (tA a ha) (by decide) (by decide) (by decide) (by decide), x1]
    show (sR St x 0).getD 0 = (sR S x 0).getD 0
    rw [RT' 0 x2 (by decide) (by decide) (by decide) (by decide)]
  have mnS : ∀ s, s < nS m → mn St (lel S 19 s) 3 = mn S (lel S 19 s) 3 ∧ T (mn S (lel S 19 s) 3) = 48 := fun s hs => by
    obtain ⟨x, x1, x2, x3, x4⟩ := tyM (j := 3) hT.1 (tyS b hs) rfl
    refine ⟨?_, x4⟩
    unfold mn
    rw [RT' 3 (tyS b hs) (by decide) (by decide) (by decide) (by decide), x1]
    show (sR St x 0).getD 0 = (sR S x 0).getD 0
    rw [RT' 0 x2 (by decide) (by decide) (by decide) (by decide)]
  have mnN : mn St (sN S) 4 = sN S + 2 := by
    unfold mn
    rw [rSt, gR' 4, at44]
    show (sR S16 (sN S + 1) 0).getD 0 = _
    rw [gR1]
    rfl
  have elt' : ∀ a, a < uA m → lel St 18 a = lel S 18 a := fun a ha => (elt 18 a).trans (elo a ha)
  have eltn : lel St 18 (uA m) = sN S := (elt 18 _).trans eln
  have cAtt' : cAtt St mt := by
    refine ⟨⟨?_, ?_, ?_⟩, fun a ha => ?_⟩
    · rw [omt (by omega), v19, nn_o (by omega)]
      omega
    · rw [omt (by omega), v19, nn_o (by omega)]
    · rw [omt (by omega), v19, oSt (by omega)]
      exact p2
    · rw [uAt] at ha
      rw [uAt, nVt]
      by_cases c : a = uA m
      · subst c
        rw [eltn]
        refine ⟨fun x hx e => ?_, ⟨i, i6, ?_, (omt (by omega)).trans v75⟩, ⟨d1, l1, ?_, (omt (by omega)).trans v76⟩, ⟨d2, l2, ?_, (omt (by omega)).trans v77⟩, ⟨vn, vlt, ?_, (omt (by omega)).trans v78⟩, ⟨sN S + 1, ?_⟩⟩
        · by_cases z : x = uA m
          · exact z
          · rw [elt' x (by omega)] at e
            have := ltA x (by omega)
            omega
        · rw [rSt, gR' 0]
          exact at40
        · rw [oSt (by omega), gI' 1]
          exact at41
        · rw [oSt (by omega), gI' 2]
          exact at42
        · rw [rSt, gR' 3, at43, elt, elV vn vlt]
        · rw [rSt, gR' 4]
          exact at44
      · have ha : a < uA m := by omega
        obtain ⟨y1, ⟨i', y2, y3, y4⟩, ⟨x1, y5, y6, y7⟩, ⟨x2, y8, y9, y10⟩, ⟨v, y11, y12, y13⟩, ⟨x, y14⟩⟩ := h.Att.2 a ha
        rw [elt' a ha, IA a 1 ha, IA a 2 ha, RT' 0 (tA a ha) (by decide) (by decide) (by decide) (by decide), RT' 3 (tA a ha) (by decide) (by decide) (by decide) (by decide), RT' 4 (tA a ha) (by decide) (by decide) (by decide) (by decide), omt (by omega), omt (by omega), omt (by omega), omt (by omega), o2 (by omega) (by omega) (by omega), o2 (by omega) (by omega) (by omega), o2 (by omega) (by omega) (by omega), o2 (by omega) (by omega) (by omega)]
        refine ⟨fun q hq e => ?_, ⟨i', y2, y3, y4⟩, ⟨x1, y5, y6, y7⟩, ⟨x2, y8, y9, y10⟩, ⟨v, y11, by rw [elt, elV v y11]; exact y12, y13⟩, ⟨x, y14⟩⟩
        by_cases z : q = uA m
        · rw [z, eltn] at e
          have := ltA a ha
          omega
        · rw [elt' q (by omega)] at e
          exact y1 q (by omega) e
  have cAst' : cAst St mt := by
    refine ⟨fun a ha ha2 => ?_, fun a ha => ?_⟩
    · rw [uAt] at ha
      rw [omt (by omega), o2 (by omega) (by omega) (by omega)]
      exact h.Ast.1 a (by omega) ha2
    · rw [uAt] at ha
      by_cases c : a = uA m
      · subst c
        rw [eltn]
        have m80 : sI mt 80 (uA m) = 2 := by rw [emt, ti_sI_eq]
        refine ⟨?_, ?_, ?_, fun q => ?_⟩
        · rw [m80, est, ti_sI_eq]
        · rw [oSt (by omega), gI' 8, at8, z3.1, omt (by omega), o2 (by omega) (by omega) (by omega)]
          exact (h.Ast.1 _ (Nat.le_refl _) nA60).symm
        · rw [oSt (by omega), gI' 9, at9, omt (by omega), v83]
        · rw [m80] at q
          exact absurd q (by decide)
      · have ha : a < uA m := by omega
        rw [elt' a ha, IA a 5 ha, IA a 6 ha, IA a 7 ha, IA a 8 ha, IA a 9 ha, omt (q := 80) (by omega), omt (q := 82) (by omega), omt (q := 83) (by omega), omt (q := 79) (by omega), omt (q := 81) (by omega), omt (q := 78) (by omega), omt (q := 69) (by omega), o2 (q := 80) (by omega) (by omega) (by omega), o2 (q := 82) (by omega) (by omega) (by omega), o2 (q := 83) (by omega) (by omega) (by omega), o2 (q := 79) (by omega) (by omega) (by omega), o2 (q := 81) (by omega) (by omega) (by omega), o2 (q := 78) (by omega) (by omega) (by omega), o2 (q := 69) (by omega) (by omega) (by omega)]
        exact h.Ast.2 a ha
  have wI48 : ∀ {k : Nat} (f : Nat), T k = 48 → sI St k f = sI S k f := fun {k} f hk => by
    have := lt hk (by decide)
    rw [oSt (by omega)]
    exact fI _ f this (fun z => by
      rw [z.1, t18] at hk
      exact absurd hk (by decide))
  have cAsh' : cAsh St mt := fun a ha f hf => by
    rw [uAt] at ha
    by_cases c : a = uA m
    · subst c
      rw [eltn, mnN, oSt (by omega), gI2 f hf, omt (by omega), v84 f hf]
      exact ⟨rfl, Or.inl rfl⟩
    · have ha : a < uA m := by omega
      rw [elt' a ha, (mnA a ha).1, wI48 f (mnA a ha).2, omt (by omega), o2 (by omega) (by omega) (by omega)]
      exact h.Ash a ha f hf
  have lt48 : ∀ {k : Nat}, T k = 48 → k < sN S := fun hk => lt hk (by decide)
  have cMin' : cMin St mt := by
    refine ⟨fun a c ha hc e => ?_, fun a c ha hc e => ?_, fun a c ha hc => ?_⟩
    · rw [uAt] at ha hc
      by_cases z1 : a = uA m
      · by_cases z2 : c = uA m
        · omega
        · have hc : c < uA m := by omega
          have := lt48 (mnA c hc).2
          rw [z1, eltn, mnN, elt' c hc, (mnA c hc).1] at e
          omega
      · have ha : a < uA m := by omega
        by_cases z2 : c = uA m
        · have := lt48 (mnA a ha).2
          rw [z2, eltn, mnN, elt' a ha, (mnA a ha).1] at e
          omega
        · have hc : c < uA m := by omega
          rw [elt' a ha, elt' c hc, (mnA a ha).1, (mnA c hc).1] at e
          exact h.Min.1 a c ha hc e
    · rw [nSt] at ha hc
      rw [elt, elt, elS a ha, elS c hc, (mnS a ha).1, (mnS c hc).1] at e
      exact h.Min.2.1 a c ha hc e
    · rw [uAt] at ha
      rw [nSt] at hc
      rw [elt 19, elS c hc, (mnS c hc).1]
      by_cases z1 : a = uA m
      · have := lt48 (mnS c hc).2
        rw [z1, eltn, mnN]
        omega
      · have ha : a < uA m := by omega
        rw [elt' a ha, (mnA a ha).1]
        exact h.Min.2.2 a c ha hc
  have hFt : FR St mt := FA_BEG hT hm h (kS (by decide +kernel) (by decide)) kM cAtt' cAst' cAsh' cMin'
  have s5 : same5 m m2 := fun p j hp => o2 (by omega) (by omega) (by omega)
  have way := h_way hT25 ti2 (a := uA m) (by rw [uA2]; omega) (by rw [eln, ← est, ← emt]; exact hFt) (by rw [eln, gI' 5]; exact at5) v80 (SR_same sr s5) (AC_same ac s5) (st := 0) (fun v n _ n1 _ _ _ => Or.inr ⟨0, by omega, rfl⟩)
  rw [eln] at way
  refine l_of st_rv (l_bd (fun S19 e19 => m_bd (fun m4 f4 => ?_)))
  obtain ⟨⟨pA, pK, pS⟩, gf⟩ := way _ _ e19 f4
  obtain ⟨S19', h19, T39, g39⟩ := t_K_goOn hT25.1 (a0 := some 4) (a1 := some (sN S)) (a2 := 0) ⟨_, rfl, hT25.1.t9.2.2.2.2.1, by decide⟩ ⟨_, rfl, tz, by decide⟩
  rw [e19] at h19
  cases h19
  have k19 := K4F_of g39.1
  have s19 : sI S19 18 2 = Int32.ofNat (uA m + 1) := by
    have t18' : T25 18 = 21 := (hT25.1.t6 1 (by decide)).1
    rw [g39.fI 18 2 (by rw [t18']; decide) (by rw [t18']; decide +kernel)]
    exact p2
  refine l_of (st_gRe (k19.1 7 18 rfl)) (l_of st_rv (l_of st_size ?_))
  rw [s19, show Int32.ofNat (uA m + 1) - 1 = Int32.ofNat (uA m) by rw [← o1]; exact Int32.add_sub_cancel _ _]
  have bt' : BB T25 Tm St mt := FR_BB ⟨by
    rw [est]
    exact TIwI hT25.1 tz (fun lo hi e => by cases e) (fun n lo hi e => by cases e) (by omega), hT25.2⟩ (by
    rw [emt]
    exact TIwI ti2 t80 (fun lo hi e => by cases e) (fun n lo hi e => by cases e; decide) (by omega)) hFt
  have kS2 : Kp T25 T39 k_cAtt St S19 := by
    rw [est]
    exact Kp_tr (Kp_rev (Kp_wI _ tz (by decide))) (Kp_of g39 (by decide +kernel))
  have cA1 := cAtt_fr bt' cAtt' kS2 (Kp_rf Tm _ mt)
  refine h2_ret ⟨AN_v ((gf _ _ (by omega) (by omega)).trans ((o2 (by omega) (by omega) (by omega)).trans e82)), pK, ?_, Ast_of pA (fun _ => ?_), pS⟩
  · have gq : ∀ q j, (q = 75 ∨ q = 76 ∨ q = 77 ∨ q = 78 ∨ (q = 57 ∧ (j = 9 ∨ j = 19))) → sI m4 q j = sI mt q j := fun q j hq => (gf q j (by omega) (by omega)).trans (omt (by omega)).symm
    have uA4 : uA m4 = uA mt := by
      unfold uA
      rw [gq 57 19 (by omega)]
    have nV4 : nV m4 = nV mt := by
      unfold nV
      rw [gq 57 9 (by omega)]
    refine ⟨⟨?_, ?_, ?_⟩, fun a ha => ?_⟩
    · rw [gq 57 19 (by omega)]
      exact cA1.1.1
    · rw [gq 57 19 (by omega)]
      exact cA1.1.2.1
    · rw [gq 57 19 (by omega)]
      exact cA1.1.2.2
    · rw [uA4] at ha
      rw [uA4, nV4, gq 75 a (by omega), gq 76 a (by omega), gq 77 a (by omega), gq 78 a (by omega)]
      exact cA1.2 a ha
  · rw [gf 82 _ (by omega) (by omega), o2 (by omega) (by omega) (by omega), h.Ast.1 _ (Nat.le_refl _) nA60]
    decide
end
end
section
section
variable {T Tm : Nat → Nat} {S m : AS}
theorem MI_t (hm : TI Tm m) (hM : MI m) (v : Int32) : MI (wI m 57 82 v) := MI_fr hM (thr_Rl hm (x := some 57) ⟨_, rfl, hm.t9.1, by decide⟩ v) (x := some 57) ⟨_, rfl, hm.t9.1, by decide⟩ (by decide)
theorem h_begin (hT : TV T S) (hm : TI Tm m) (hM : MI m) (h : FR S m) (a c e : Int32) : H2 (f_K_begin S (some 4) a c e) (f_M_begin m (some 57) a c e) (fun x y => AN [eX, eS] x.1 y.1 (sI y.2 57 82) ∧ P_beg x.2 y.2) := by
  have b := FR_BB hT hm h
  have hmf := MF_of hm
  have k4 := K4F_of hT.1
  have no1 : H2 (some ((Sum.inr eX : Int32 ⊕ String), wX S)) (f_M_begin_B25 m (some 57) a c e) (fun x y => AN [eX, eS] x.1 y.1 (sI y.2 57 82) ∧ P_beg x.2 y.2) := by
    unfold f_M_begin_B25 f_M_begin_B26 f_M_begin_B65 f_M_begin_B66
    refine m_of (st_T rfl) (m_of st_rv (m_p2 p_mayB (fun v m' p => ?_)))
    rw [if_pos rfl] at p
    cases p
    exact m_of (st_T rfl) (h2_ret ⟨AN_e 0 rfl (ti_sI_eq _ _ _ _), FR_beg (FR_X hT (TI_t hm 1) (FR_t hT hm h 1))⟩)
  have no2 : H2 (some ((Sum.inr eS : Int32 ⊕ String), wX S)) (f_M_begin_B65 m (some 57) a c e (some 57) 1) (fun x y => AN [eX, eS] x.1 y.1 (sI y.2 57 82) ∧ P_beg x.2 y.2) := by
    unfold f_M_begin_B65 f_M_begin_B66
    refine m_of st_rv (m_p2 p_mayB (fun v m' p => ?_))
    rw [if_neg one0, if_pos rfl] at p
    cases p
    exact m_of (st_T rfl) (h2_ret ⟨AN_e 1 rfl (ti_sI_eq _ _ _ _), FR_beg (FR_X hT (TI_t hm 2) (FR_t hT hm h 2))⟩)
  have k53 : ∀ x, Le (f_K_begin_B53 S (some 4) c e x) (some ((Sum.inr eS : Int32 ⊕ String), wX S)) := fun x q hq => by
    unfold f_K_begin_B53 f_K_begin_B54 at hq
    exact st_bxe (rS0 S) q hq
  have six : ∀ z : Int32, (0 ≤ z ∧ z ≤ 5) ↔ ∃ j, j < 6 ∧ z = Int32.ofNat j := fun z => six_iff z
  unfold f_K_begin f_M_begin
  refine m_of (st_b2 (q_six m a)) (l_of st_rv (l_bx (fun v' S' ee => ?_) (fun v' S' ee => ?_)))
  · rcases x_fp b a _ ee with ⟨i, i6, ea, e2⟩ | ⟨-, e2⟩
    · cases e2
      rw [if_pos ((six_iff _).mpr ⟨i, i6, ea⟩)]
      refine m_of (st_F one0) (m_of (st_b2 (q_six m c)) (l_bx (fun v' S' ee => ?_) (fun v' S' ee => ?_)))
      · rcases p_rI _ ee with ⟨h1, h2, e2⟩ | ⟨-, e2⟩
        · cases e2
          obtain ⟨d1, l1, ec⟩ := (IX_iff (n := 6) (a := c) (by decide)).mpr ⟨h1, h2⟩
          rw [if_pos ((six_iff _).mpr ⟨d1, l1, ec⟩)]
          refine m_of (st_F one0) (m_of (st_b2 (q_six m e)) (l_bx (fun v' S' ee => ?_) (fun v' S' ee => ?_)))
          · rcases p_rI _ ee with ⟨h1, h2, e2⟩ | ⟨-, e2⟩
            · cases e2
              obtain ⟨d2, l2, e3⟩ := (IX_iff (n := 6) (a := e) (by decide)).mpr ⟨h1, h2⟩
              rw [if_pos ((six_iff _).mpr ⟨d2, l2, e3⟩)]
              refine m_of (st_F one0) ?_
              obtain ⟨zV1, zV2, zV3⟩ := zV b
              obtain ⟨zA1, zA2, zA3⟩ := zA b
              have n8 : nV m ≤ 8 := zV1
              have n60 : uA m ≤ 60 := zA1
              have m9 : sI m 57 9 = Int32.ofNat (nV m) := zV2
              have m19 : sI m 57 19 = Int32.ofNat (uA m) := zA2
              have s17 : sI S 17 2 = Int32.ofNat (nV m) := zV3.trans zV2
              have s18 : sI S 18 2 = Int32.ofNat (uA m) := zA3.trans zA2
              have ai : a.toNatClampNeg = i := by rw [ea]; exact oc (by omega)
              unfold f_M_begin_B26
              refine m_of (st_F one0) (m_of (st_gIe m9) (l_of (st_gRe (k4.1 6 17 rfl)) (l_of st_rv ?_)))
              refine l_p2 (P := fun q => q = (if Int32.ofNat (nV m) = 0 then (1 : Int32) else 0, S)) ?_ (fun v S' q => ?_)
              · unfold f_AL_isEmpty
                refine p_of (st_gIe s17) ?_
                by_cases z : Int32.ofNat (nV m) = 0
                · rw [if_pos z, if_pos z]
                  exact p_ret rfl
                · rw [if_neg z, if_neg z]
                  exact p_ret rfl
              cases q
              by_cases c1 : nV m = 0
              · rw [c1]
                rw [if_pos (show Int32.ofNat 0 = 0 from rfl)]
                exact l_of (st_F one0) (m_of (st_T (by decide)) (l_of (k53 _) no2))
              · have z0 : ¬ Int32.ofNat (nV m) = 0 := fun z => c1 (oinj (by omega) (by decide) z)
                rw [if_neg z0]
                refine l_of (st_T rfl) (m_of (st_F (fun z => by
                  have := Int32.le_iff_toInt_le.mp z
                  rw [oi (by omega), show (0 : Int32).toInt = 0 from by decide] at this
                  omega)) (l_of (st_gIe (h.Awy i i6)) (m_of (st_gRe (hmf 7 64 rfl)) (m_of (st_aIe (v := sI m 64 i) ai rfl) ?_))))
                by_cases c2 : sI m 64 i = 0
                · refine l_of (st_T c2) (m_of (st_T c2) (l_of (st_gRe (k4.1 7 18 rfl)) (l_of st_rv (l_of st_size ?_))))
                  rw [s18]
                  refine m_of (st_gIe m19) ?_
                  by_cases c3 : (60 : Int32) ≤ Int32.ofNat (uA m)
                  · exact l_of (st_T c3) (m_of (st_T c3) (l_of (k53 _) no2))
                  · refine l_of (st_F c3) (m_of (st_F c3) ?_)
                    have nA60 : uA m < 60 := Nat.not_le.mp (fun q => c3 ((ole (a := 60) (by decide) (by omega)).mpr q))
                    unfold f_M_begin_B66
                    refine m_of st_rv (m_p2 p_mayB (fun w m' p => ?_))
                    rw [if_neg one0, if_neg one0] at p
                    cases p
                    refine m_of (st_F one0) ?_
                    have hM0 := MI_t hm hM 0
                    have uA0 : uA (wI m 57 82 0) = uA m := by
                      unfold uA
                      rw [lv0 m (by omega) 0]
                    have nV0 : nV (wI m 57 82 0) = nV m := by
                      unfold nV
                      rw [lv0 m (by omega) 0]
                    rw [ea, ec, e3]
                    exact bg_go hT (TI_t hm 0) (FR_t hT hm h 0) hM0.1 hM0.2.1 (ti_sI_eq _ _ _ _) i6 l1 l2 (by rw [uA0]; exact nA60) (by rw [nV0]; omega)
                · exact l_of (st_F c2) (m_of (st_F c2) (l_of (k53 _) no2))
            · cases e2
          · rcases p_rI _ ee with ⟨h1, h2, e2⟩ | ⟨h1, e2⟩
            · cases e2
            · cases e2
              rw [if_neg (fun q => h1 ((IX_iff (n := 6) (by decide)).mp ((six_iff _).mp q)))]
              exact m_of (st_T rfl) no1
        · cases e2
      · rcases p_rI _ ee with ⟨h1, h2, e2⟩ | ⟨h1, e2⟩
        · cases e2
        · cases e2
          rw [if_neg (fun q => h1 ((IX_iff (n := 6) (by decide)).mp ((six_iff _).mp q)))]
          exact m_of (st_T rfl) no1
    · cases e2
  · rcases x_fp b a _ ee with ⟨i, i6, ea, e2⟩ | ⟨no, e2⟩
    · cases e2
    · cases e2
      rw [if_neg (fun q => no ((six_iff _).mp q))]
      exact m_of (st_T rfl) no1
end
end
section
def kf_AN : List Nat := [109, 202, 300, 1303, 1304, 1305, 1306, 1307, 1308, 1400, 1500, 2202, 2302, 4300, 4304, 4305, 4306, 4401, 4402, 4403, 4404, 4405, 4800, 52101, 52201, 52301, 53100, 53200, 53300, 54204, 54301, 54302, 54303, 54400, 54700]
def mf_AN : List Nat := [10019, 10030, 10039, 10046, 10077, 10100, 10200, 10300, 10400, 10500, 10600, 12900, 13100, 13200, 13300, 13400, 13500, 13600, 14000, 14100, 14200, 14300, 14400, 14500, 17800, 17900]
theorem FP_AN {T T' Tm Tm' : Nat → Nat} {S S' m m' : AS} (b : BB T Tm S m) (h : cFac S m ∧ cWrg S m ∧ cKn S m ∧ cAsh S m ∧ cSes S m ∧ cUsd S m ∧ cLiv S m ∧ cSsh S m ∧ cMin S m ∧ cCod S m ∧ cAU S m) (k : Kp T T' kf_AN S S') (q : Kp Tm Tm' mf_AN m m') : cFac S' m' ∧ cWrg S' m' ∧ cKn S' m' ∧ cAsh S' m' ∧ cSes S' m' ∧ cUsd S' m' ∧ cLiv S' m' ∧ cSsh S' m' ∧ cMin S' m' ∧ cCod S' m' ∧ cAU S' m' := by
  have K : ∀ {ds : List Nat}, ds.all (fun z => kf_AN.contains z) = true → Kp T T' ds S S' := fun hs => Kp_sub k (fun z hz => List.contains_iff_mem.mp (List.all_eq_true.mp hs z hz))
  have Q : ∀ {ds : List Nat}, ds.all (fun z => mf_AN.contains z) = true → Kp Tm Tm' ds m m' := fun hs => Kp_sub q (fun z hz => List.contains_iff_mem.mp (List.all_eq_true.mp hs z hz))
  exact ⟨cFac_fr b h.1 (K (by decide +kernel)) (Q (by decide +kernel)), cWrg_fr b h.2.1 (K (by decide +kernel)) (Q (by decide +kernel)), cKn_fr b h.2.2.1 (K (by decide +kernel)) (Q (by decide +kernel)), cAsh_fr b h.2.2.2.1 (K (by decide +kernel)) (Q (by decide +kernel)), cSes_fr b h.2.2.2.2.1 (K (by decide +kernel)) (Q (by decide +kernel)), cUsd_fr b h.2.2.2.2.2.1 (K (by decide +kernel)) (Q (by decide +kernel)), cLiv_fr b h.2.2.2.2.2.2.1 (K (by decide +kernel)) (Q (by decide +kernel)), cSsh_fr b h.2.2.2.2.2.2.2.1 (K (by decide +kernel)) (Q (by decide +kernel)), cMin_fr b h.2.2.2.2.2.2.2.2.1 (K (by decide +kernel)) (Q (by decide +kernel)), cCod_fr b h.2.2.2.2.2.2.2.2.2.1 (K (by decide +kernel)) (Q (by decide +kernel)), cAU_fr b h.2.2.2.2.2.2.2.2.2.2 (K (by decide +kernel)) (Q (by decide +kernel))⟩
/-! ===== answer: what comes behind ===== -/
def P_ans (S m : AS) : Prop := cFac S m ∧ cWrg S m ∧ cKn S m ∧ cAst S m ∧ P_ses S m
theorem FR_ans {S m : AS} (h : FR S m) : P_ans S m := ⟨h.Fac, h.Wrg, h.Kn, h.Ast, FR_ses h⟩
section
variable {T Tm : Nat → Nat} {S m : AS}
theorem p_B114 {x : Nat} : Hp (f_K_takeAnswer_B114 S (some x)) (fun S' => (sI S x 5 = 0 ∧ ¬ sI S x 8 < 12 ∧ S' = wI S x 5 2) ∨ (¬ (sI S x 5 = 0 ∧ ¬ sI S x 8 < 12) ∧ S' = S)) := by
  unfold f_K_takeAnswer_B114
  refine p_of st_gI (p_if (fun c => p_of st_gI (p_if (fun c2 => p_ret (Or.inr ⟨fun q => q.2 c2, rfl⟩)) (fun c2 => p_of st_pI (p_ret (Or.inl ⟨c, c2, rfl⟩))))) (fun c => p_ret (Or.inr ⟨fun q => c q.1, rfl⟩)))
theorem an_tail (bb : BB T Tm S m) {a : Nat} (ha : a < uA m) (hA : cAsm a S m) (inj : ∀ b, b < uA m → lel S 18 b = lel S 18 a → b = a) (fac : cFac S m) (wrg : cWrg S m) (kn : cKn S m) (ses : P_ses S m) (e57 : sI m 57 82 = 0) (r82 : 0 ≤ (sI m 82 a).toInt ∧ (sI m 82 a).toInt ≤ 12) :
    H2 ((f_K_takeAnswer_B114 S (some (lel S 18 a))).bind fun S4 => (gI S4 11 5 (some (lel S 18 a))).bind fun v5 => some ((Sum.inl v5 : Int32 ⊕ String), S4)) (f_M_answer_B168 m (some 57) (Int32.ofNat a)) (fun x y => AN [eX, eA, eS] x.1 y.1 (sI y.2 57 82) ∧ P_ans x.2 y.2) := by
  have hmf := MF_of bb.2.2.1
  have h60 : uA m ≤ 60 := (zA bb).1
  have ai : (Int32.ofNat a).toNatClampNeg = a := oc (by omega)
  have tx := tyA bb ha
  obtain ⟨q5, q8, q9, q6⟩ := hA.2 a ha
  obtain ⟨-, t80, -⟩ := md_at bb.2.2.1 (j := 25) (p := 80) rfl rfl
  have e12 : sI m 82 a = 12 ↔ ¬ sI m 82 a < 12 := by
    rw [Int32.lt_iff_toInt_lt, show (12 : Int32).toInt = 12 from by decide]
    constructor
    · intro z
      rw [z]
      decide
    · intro z
      exact Int32.toInt_inj.mp (by rw [show (12 : Int32).toInt = 12 from by decide]; omega)
  refine l_pd p_B114 (fun S4 p => ?_)
  unfold f_M_answer_B168
  refine m_of (st_gRe (hmf 25 80 rfl)) (m_of (st_aIe (v := sI m 80 a) ai rfl) ?_)
  have keep : S4 = S → (sI m 80 a = 0 → ¬ sI m 82 a = 12) → H2 ((gI S4 11 5 (some (lel S 18 a))).bind fun v5 => some ((Sum.inl v5 : Int32 ⊕ String), S4)) (f_M_answer_B195 m (some 57) (Int32.ofNat a)) (fun x y => AN [eX, eA, eS] x.1 y.1 (sI y.2 57 82) ∧ P_ans x.2 y.2) := fun e n12 => by
    rw [e]
    unfold f_M_answer_B195
    refine l_of (st_gIe q5) (m_of (st_gRe (hmf 25 80 rfl)) (m_of (st_aIe (v := sI m 80 a) ai rfl) (h2_ret ⟨AN_v e57, fac, wrg, kn, Ast_of hA (fun z => ⟨r82.1, ?_⟩), ses⟩)))
    have : ¬ (sI m 82 a).toInt = 12 := fun y => n12 z (Int32.toInt_inj.mp (by rw [y]; decide))
    show (sI m 82 a).toInt ≤ 11
    omega
  rcases p with ⟨p1, p2, p3⟩ | ⟨p1, p2⟩
  · have p3 : S4 = _ := p3
    rw [q5] at p1
    rw [q8] at p2
    refine m_of (st_T p1) (m_of (st_gRe (hmf 27 82 rfl)) (m_of (st_aIe (v := sI m 82 a) ai rfl) (m_of (st_T (e12.mpr p2)) (m_of (st_gRe (hmf 25 80 rfl)) (m_of (st_bIe ai) ?_)))))
    unfold f_M_answer_B195
    rw [p3]
    refine l_of (st_gIe (ti_sI_eq _ _ _ _)) (m_of (st_gRe (v := some 80) (hmf 25 80 rfl)) (m_of (st_aIe ai (ti_sI_eq _ _ _ _)) (h2_ret ?_)))
    obtain ⟨f1, f2, f3, f4⟩ := FP_AN bb ⟨fac, wrg, kn, ses⟩ (Kp_wI (2 : Int32) (p := lel S 18 a) (j := 5) tx (by decide +kernel)) (Kp_wA (2 : Int32) (p := 80) (j := a) t80 (by decide) (by decide +kernel))
    refine ⟨AN_v ((ti_sI_ne (by omega)).trans e57), f1, f2, f3, Ast_of (asm_mk hA ?_ ha (fun b _ => rfl) (fun b j hb hba => ti_sI_ne (fun z => hba (inj b hb z.1))) (fun q j hq hj => ti_sI_ne (by omega)) (fun j => ti_sI_ne (by omega)) (fun j => ti_sI_ne (by omega)) ⟨?_, ?_, ?_, fun z => ?_⟩) (fun z => ?_), f4⟩
    · unfold uA
      rw [ti_sI_ne (by omega)]
    · rw [ti_sI_eq, ti_sI_eq]
    · rw [ti_sI_ne (by omega), ti_sI_ne (by omega)]
      exact q8
    · rw [ti_sI_ne (by omega), ti_sI_ne (by omega)]
      exact q9
    · rw [ti_sI_eq] at z
      exact absurd z (by decide)
    · rw [ti_sI_eq] at z
      exact absurd z (by decide)
  · have p2 : S4 = S := p2
    rw [q5, q8] at p1
    by_cases c : sI m 80 a = 0
    · have n12 : ¬ sI m 82 a = 12 := fun z => p1 ⟨c, e12.mp z⟩
      exact m_of (st_T c) (m_of (st_gRe (hmf 27 82 rfl)) (m_of (st_aIe (v := sI m 82 a) ai rfl) (m_of (st_F n12) (keep p2 (fun _ => n12)))))
    · exact m_of (st_F c) (keep p2 (fun z => absurd z c))
end
end
