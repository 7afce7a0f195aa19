/-! ===== a session begins ===== -/
theorem st_nO {α : Type} {S : AS} {κ : Nat} {F : AS → Option α} : Le ((some (nO S κ)).bind F) (F (nO S κ)) := fun _ ha => ha
theorem nO_f (S : AS) (κ : Nat) {k : Nat} (hk : k ≠ sN S) : sI (nO S κ) k = sI S k ∧ sR (nO S κ) k = sR S k ∧ sL (nO S κ) k = sL S k := by
  have := ti_wN (S := S) (κ := κ) (l := 0) (s := kr_cN (κ - 10)) hk
  exact ⟨this.2.2.1, this.2.2.2.1, this.2.1⟩
theorem nO_0 (S : AS) (κ : Nat) : sI (nO S κ) (sN S) = (fun _ => 0) ∧ sR (nO S κ) (sN S) = (fun _ => none) := ⟨(ti_wN0 S κ 0 (kr_cN (κ - 10))).2.2.1, (ti_wN0 S κ 0 (kr_cN (κ - 10))).2.2.2⟩
theorem nO_N (S : AS) (κ : Nat) : sN (nO S κ) = sN S + 1 := rfl
/-- the row of minutes of a shown -/
def SHK (S S' : AS) (y : Nat) (g : Nat → Int32) : Prop := sN S' = sN S + 1 ∧ sR S' y 0 = some (sN S) ∧ (∀ k j, k < sN S → ¬ (k = y ∧ j = 0) → sR S' k j = sR S k j) ∧ (∀ k j, k < sN S → sI S' k j = sI S k j) ∧ (∀ f, f < 3 → sI S' (sN S) f = g f) ∧ (∀ k, k < sN S → sL S' k = sL S k)
theorem p_sh0 {S : AS} {y : Nat} {α : Type} {F : AS → Option α} {Q : α → Prop} (hy : y < sN S) (H : ∀ S', SHK S S' y (fun _ => -1) → Hp (F S') Q) : Hp ((nA S 40 (3 : Int32)).bind fun S2 => (bI S2 (some (sN S)) (0 : Int32) (-1 : Int32)).bind fun S3 => (bI S3 (some (sN S)) (1 : Int32) (-1 : Int32)).bind fun S4 => (bI S4 (some (sN S)) (2 : Int32) (-1 : Int32)).bind fun S5 => (pR S5 20 0 (some y) (some (sN S))).bind fun S6 => F S6) Q := by
  refine p_of st_nA ?_
  generalize (3 : Int32).toNatClampNeg = l3
  obtain ⟨S1, e1⟩ : ∃ S1, S1 = wN S 40 l3 l3 := ⟨_, rfl⟩
  rw [← e1]
  have N1 : sN S1 = sN S + 1 := by rw [e1]; rfl
  have f1 : ∀ k, k ≠ sN S → sI S1 k = sI S k ∧ sR S1 k = sR S k ∧ sL S1 k = sL S k := fun k hk => by
    have := ti_wN (S := S) (κ := 40) (l := l3) (s := l3) hk
    rw [e1]
    exact ⟨this.2.2.1, this.2.2.2.1, this.2.1⟩
  refine p_of (st_bIe (n := 0) (by decide)) (p_of (st_bIe (n := 1) (by decide)) (p_of (st_bIe (n := 2) (by decide)) (p_of st_pR ?_)))
  generalize (-1 : Int32) = w at H ⊢
  obtain ⟨S5, e5⟩ : ∃ S5, S5 = wI (wI (wI S1 (sN S) 0 w) (sN S) 1 w) (sN S) 2 w := ⟨_, rfl⟩
  rw [← e5]
  have N5 : sN S5 = sN S + 1 := by
    rw [e5]
    exact N1
  have R5 : sR S5 = sR S1 := by rw [e5, sR_wI, sR_wI, sR_wI]
  have L5 : sL S5 = sL S1 := by
    rw [e5]
    rfl
  refine H _ ⟨N5, ti_sR_eq _ _ _ _, fun k j hk q => ?_, fun k j hk => ?_, fun f hf => ?_, fun k hk => ?_⟩
  · rw [ti_sR_ne q, R5, (f1 k (by omega)).2.1]
  · show sI S5 k j = _
    rw [e5, ti_sI_ne (by omega), ti_sI_ne (by omega), ti_sI_ne (by omega), (f1 k (by omega)).1]
  · show sI S5 (sN S) f = w
    match f, hf with
    | 0, _ => rw [e5, ti_sI_ne (by omega), ti_sI_ne (by omega), ti_sI_eq]
    | 1, _ => rw [e5, ti_sI_ne (by omega), ti_sI_eq]
    | 2, _ => rw [e5, ti_sI_eq]
  · show sL S5 k = _
    rw [L5, (f1 k (by omega)).2.2]
theorem p_sh1 {S : AS} {y : Nat} (hy : y < sN S) : Hp (f_Shown_init1 S (some y)) (fun S' => SHK S S' y (fun _ => -1)) := by
  unfold f_Shown_init1
  exact p_of st_val (p_sh0 hy (fun S' h => p_ret h))
theorem p_sh2_L {S : AS} {y x p px : Nat} {g : Nat → Int32} (hy : sR S y 0 = some p) (hx : sR S x 0 = some px) (hp : p ≠ px) (hg : ∀ f, f < 3 → sI S px f = g f) : ∀ (k j fu : Nat) (S1 : AS), j + k = 3 → sR S1 = sR S → sL S1 = sL S → sN S1 = sN S → (∀ a b, ¬ (a = p ∧ b < 3) → sI S1 a b = sI S a b) → (∀ f, f < j → sI S1 p f = g f) → Hp (f_Shown_init2_L25 fu S1 (some y) (some x) (Int32.ofNat j)) (fun S2 => sR S2 = sR S ∧ sL S2 = sL S ∧ sN S2 = sN S ∧ (∀ a b, ¬ (a = p ∧ b < 3) → sI S2 a b = sI S a b) ∧ (∀ f, f < 3 → sI S2 p f = g f))
  | _, _, 0, _, _, _, _, _, _, _ => p_0
  | 0, j, fu + 1, S1, hk, r1, r2, r3, r4, r5 => by
    unfold f_Shown_init2_L25 f_Shown_init2_C25
    have e : j = 3 := by omega
    subst e
    exact p_of (st_T (by decide)) (p_ret ⟨r1, r2, r3, r4, r5⟩)
  | k + 1, j, fu + 1, S1, hk, r1, r2, r3, r4, r5 => by
    unfold f_Shown_init2_L25 f_Shown_init2_C25
    refine p_of (st_F (fun q => by have := (ole (a := 3) (b := j) (by decide) (by omega)).mp q; omega)) (p_of (st_gRe (v := some p) (by rw [r1]; exact hy)) (p_of (st_gRe (v := some px) (by rw [r1]; exact hx)) (p_of (st_aIe (v := g j) (oc (by omega)) ((r4 _ _ (by omega)).trans (hg j (by omega)))) (p_of (st_bIe (oc (by omega))) (p_of st_val ?_)))))
    rw [o1]
    refine p_sh2_L hy hx hp hg k (j + 1) fu _ (by omega) r1 r2 r3 (fun a b z => ?_) (fun f hf => ?_)
    · rw [ti_sI_ne (by omega)]
      exact r4 a b z
    · by_cases z : f = j
      · subst z
        rw [ti_sI_eq]
      · rw [ti_sI_ne (by omega)]
        exact r5 f (by omega)
theorem p_sh2 {S : AS} {y x px : Nat} (hy : y < sN S) (hxy : x ≠ y) (hxn : x < sN S) (hx : sR S x 0 = some px) (hpx : px < sN S) : Hp (f_Shown_init2 S (some y) (some x)) (fun S' => SHK S S' y (sI S px)) := by
  unfold f_Shown_init2
  refine p_of st_val (p_sh0 (F := fun S11 => f_Shown_init2_L25 kr_FU S11 (some y) (some x) (0 : Int32)) hy (fun S' h => ?_))
  obtain ⟨h1, h2, h3, h4, h5, h6⟩ := h
  refine p_mono (p_sh2_L (S := S') (p := sN S) (px := px) (g := sI S px) h2 ((h3 x 0 hxn (by omega)).trans hx) (by omega) (fun f hf => h4 px f hpx) 3 0 kr_FU S' rfl rfl rfl rfl (fun _ _ _ => rfl) (fun f hf => absurd hf (Nat.not_lt_zero _))) (fun S2 q => ?_)
  obtain ⟨q1, q2, q3, q4, q5⟩ := q
  refine ⟨q3.trans h1, by rw [q1]; exact h2, fun k j hk z => by rw [q1]; exact h3 k j hk z, fun k j hk => (q4 k j (by omega)).trans (h4 k j hk), q5, fun k hk => by rw [q2]; exact h6 k hk⟩
theorem p_sesI {S1 : AS} {z : Nat} {n : Int32} {p ow sh : Option Nat} {now : Int32} : Hp (f_Session_init S1 (some z) n p ow sh now) (fun S' => S' = wI (wI (wR (wR (wR (wI (wI S1 z 6 1) z 0 n) z 1 p) z 2 ow) z 3 sh) z 4 now) z 5 now) := by
  unfold f_Session_init
  exact p_of st_val (p_of st_pZ (p_of st_pI (p_of st_pR (p_of st_pR (p_of st_pR (p_of st_pI (p_of st_pI (p_ret rfl))))))))
/-- the class's new session -/
def NSK (S S' : AS) (n d px : Nat) (p ow : Option Nat) : Prop :=
  (∀ k j, k < sN S → ¬ (k = 19 ∧ (j = 0 ∨ j = 2)) → ¬ (k = 4 ∧ j = 9) → k ≠ 5 → k ≠ 6 → k ≠ 7 → sI S' k j = sI S k j) ∧
  (∀ k j, k < sN S → ¬ (k = 19 ∧ j = 1) → ¬ (k = d ∧ j = n) → sR S' k j = sR S k j) ∧
  (sI S' 19 2 = Int32.ofNat (n + 1) ∧ sI S' 4 9 = sI S 4 9 + 1) ∧
  ((∀ i, i < n → lel S' 19 i = lel S 19 i) ∧ lel S' 19 n = sN S) ∧
  (sI S' (sN S) 0 = Int32.ofNat n ∧ sR S' (sN S) 1 = p ∧ sR S' (sN S) 2 = ow ∧ sR S' (sN S) 3 = some (sN S + 1) ∧ sI S' (sN S) 4 = sI S 4 0 ∧ sI S' (sN S) 5 = sI S 4 0 ∧ sI S' (sN S) 6 = 1) ∧
  (sR S' (sN S + 1) 0 = some (sN S + 2) ∧ ∀ f, f < 3 → sI S' (sN S + 2) f = sI S px f) ∧
  ∃ Sa, sI Sa 5 2 = sI S 5 2 ∧ (sI Sa 6 = sI S 6 ∧ sI Sa 5 3 = sI S 5 3 ∧ sI Sa 7 = sI S 7 ∧ sI Sa 4 0 = sI S 4 0) ∧ AWK Sa S' (Int32.ofNat 0) (Int32.ofNat n)
theorem p_newK {S : AS} {n d x px : Nat} {p ow : Option Nat} (k4 : K4F S) (hs : sI S 19 2 = Int32.ofNat n) (hr : sR S 19 1 = some d) (hL : sL S d ≤ 400) (hn : n < 60) (h19 : 19 < sN S) (hd : d < sN S) (hd19 : d ≠ 19) (hd4 : d ≠ 4) (hd5 : d ≠ 5) (hxn : x < sN S) (hx : sR S x 0 = some px) (hpx : px < sN S) :
    Hp (f_K_beginSession S (some 4) p ow (some x)) (fun q => q.1 = Int32.ofNat n ∧ NSK S q.2 n d px p ow) := by
  have r8 := k4.1 8 19 rfl
  unfold f_K_beginSession
  refine p_of (st_gRe r8) (p_of st_rv (p_of st_size ?_))
  rw [hs]
  refine p_of (st_gRe r8) (p_of st_nO (p_of st_nO ?_))
  obtain ⟨S7, e7⟩ : ∃ S7, S7 = nO (nO S 19) 20 := ⟨_, rfl⟩
  have N7 : sN S7 = sN S + 2 := by rw [e7]; rfl
  have f7 : ∀ k, k < sN S → sI S7 k = sI S k ∧ sR S7 k = sR S k ∧ sL S7 k = sL S k := fun k hk => by
    obtain ⟨a1, a2, a3⟩ := nO_f S 19 (k := k) (by omega)
    obtain ⟨b1, b2, b3⟩ := nO_f (nO S 19) 20 (k := k) (by rw [nO_N]; omega)
    rw [e7]
    exact ⟨b1.trans a1, b2.trans a2, b3.trans a3⟩
  rw [show sN (nO S 19) = sN S + 1 from rfl, ← e7]
  refine p_bd (p_sh2 (S := S7) (y := sN S + 1) (x := x) (px := px) (by omega) (by omega) (by omega) (by rw [(f7 x hxn).2.1]; exact hx) (by omega)) (fun S8 h8 => ?_)
  obtain ⟨a1, a2, a3, a4, a5, a6⟩ := h8
  have o8 : ∀ k j, k < sN S → sI S8 k j = sI S k j := fun k j hk => by rw [a4 k j (by omega), (f7 k hk).1]
  have r8' : ∀ k j, k < sN S → sR S8 k j = sR S k j := fun k j hk => by rw [a3 k j (by omega) (by omega), (f7 k hk).2.1]
  refine p_of (st_gIe (v := sI S 4 0) (o8 4 0 (by omega))) (p_bd p_sesI (fun S10 e10 => ?_))
  have e10 : S10 = _ := e10
  have N10 : sN S10 = sN S + 3 := by
    rw [e10]
    show sN S8 = _
    rw [a1, N7]
  have oI : ∀ k j, k ≠ sN S → sI S10 k j = sI S8 k j := fun k j hk => by
    rw [e10, ti_sI_ne (by omega), ti_sI_ne (by omega)]
    show sI (wI (wI S8 (sN S) 6 1) (sN S) 0 (Int32.ofNat n)) k j = _
    rw [ti_sI_ne (by omega), ti_sI_ne (by omega)]
  have oR : ∀ k j, k ≠ sN S → sR S10 k j = sR S8 k j := fun k j hk => by
    rw [e10, sR_wI, sR_wI, ti_sR_ne (by omega), ti_sR_ne (by omega), ti_sR_ne (by omega), sR_wI, sR_wI]
  have z0 : sI S10 (sN S) 0 = Int32.ofNat n ∧ sR S10 (sN S) 1 = p ∧ sR S10 (sN S) 2 = ow ∧ sR S10 (sN S) 3 = some (sN S + 1) ∧ sI S10 (sN S) 4 = sI S 4 0 ∧ sI S10 (sN S) 5 = sI S 4 0 ∧ sI S10 (sN S) 6 = 1 := by
    rw [e10]
    refine ⟨?_, ?_, ?_, ?_, ?_, ti_sI_eq _ _ _ _, ?_⟩
    · rw [ti_sI_ne (by omega), ti_sI_ne (by omega)]
      exact ti_sI_eq _ _ _ _
    · rw [sR_wI, sR_wI, ti_sR_ne (by omega), ti_sR_ne (by omega), ti_sR_eq]
    · rw [sR_wI, sR_wI, ti_sR_ne (by omega), ti_sR_eq]
    · rw [sR_wI, sR_wI, ti_sR_eq]
    · rw [ti_sI_ne (by omega), ti_sI_eq]
    · rw [ti_sI_ne (by omega), ti_sI_ne (by omega)]
      show sI (wI (wI S8 (sN S) 6 1) (sN S) 0 (Int32.ofNat n)) (sN S) 6 = 1
      rw [ti_sI_ne (by omega), ti_sI_eq]
  have lL : sL S10 d = sL S d := by
    rw [e10]
    show sL S8 d = _
    rw [a6 d (by omega), (f7 d hd).2.2]
  refine p_of st_rv (p_b2 (p_add (S := S10) (l := 19) (d := d) (x := sN S) (n := n) (by rw [oR _ _ (by omega), r8' _ _ h19]; exact hr) (by rw [oI _ _ (by omega), o8 _ _ h19]; exact hs) (by omega) (by rw [lL]; exact hL) (by omega) (by omega) hd19) (fun v S12 h => ?_))
  obtain ⟨b1, b2, b3, b4, b5⟩ := h
  have b2 : sI S12 19 2 = Int32.ofNat (n + 1) := b2
  have n4 : 4 < sN S := by omega
  refine p_of (st_gIe (v := sI S 4 9) (by
    show sI S12 4 9 = _
    rw [b1 4 9 (by omega) (by omega), oI _ _ (by omega), o8 _ _ n4])) (p_of st_pI ?_)
  obtain ⟨S15, e15⟩ : ∃ S15, S15 = wI S12 4 9 (sI S 4 9 + 1) := ⟨_, rfl⟩
  rw [← e15]
  have rr : sR S15 = sR S12 := by rw [e15, sR_wI]
  have R15 : ∀ k j, k < sN S → ¬ (k = 19 ∧ j = 1) → ¬ (k = d ∧ j = n) → sR S15 k j = sR S k j := fun k j hk q1 q2 => by
    rw [rr, b3 k j (by omega) q1 q2, oR _ _ (by omega), r8' _ _ hk]
  have I15 : ∀ k j, k < sN S10 → ¬ (k = 19 ∧ (j = 0 ∨ j = 2)) → ¬ (k = 4 ∧ j = 9) → sI S15 k j = sI S10 k j := fun k j hk q1 q2 => by
    rw [e15, ti_sI_ne q2, b1 k j hk q1]
  have I15' : ∀ k j, k < sN S → ¬ (k = 19 ∧ (j = 0 ∨ j = 2)) → ¬ (k = 4 ∧ j = 9) → sI S15 k j = sI S k j := fun k j hk q1 q2 => by
    rw [I15 k j (by omega) q1 q2, oI _ _ (by omega), o8 _ _ hk]
  have n5 : 5 < sN S := by omega
  refine p_of (st_gRe (v := some 5) ((R15 4 1 n4 (by omega) (by omega)).trans (k4.1 1 5 rfl))) (p_of st_gI (p_of st_rv (p_bd (p_aw (S := S15) (k := Int32.ofNat 0) (nu := Int32.ofNat n) ((R15 5 0 n5 (by omega) (by omega)).trans k4.2.1) ((R15 5 1 n5 (by omega) (by omega)).trans k4.2.2.1) rfl) (fun S19 a => p_ret ⟨rfl, ?_⟩))))
  have a' := a.1.2.2
  have ra : sR S19 = sR S15 := a.1.1
  have w3 : ∀ j, j < 4 → sR S19 (sN S) j = sR S10 (sN S) j := fun j _ => by
    rw [ra, rr, b3 _ _ (by omega) (by omega) (by omega)]
  have w4 : ∀ j, sI S19 (sN S) j = sI S10 (sN S) j := fun j => by
    rw [a' _ _ (by omega) (by omega) (by omega), I15 _ _ (by omega) (by omega) (by omega)]
  refine ⟨fun k j hk q1 q2 q5 q6 q7 => ?_, fun k j hk q1 q2 => ?_, ⟨?_, ?_⟩, ⟨fun i hi => ?_, ?_⟩, ⟨?_, ?_, ?_, ?_, ?_, ?_, ?_⟩, ⟨?_, fun f hf => ?_⟩, S15, ?_, ⟨funext fun j => ?_, I15' 5 3 n5 (by omega) (by omega), funext fun j => I15' 7 j (by omega) (by omega) (by omega), I15' 4 0 n4 (by omega) (by omega)⟩, a⟩
  · rw [a' k j q5 q6 q7, I15' k j hk q1 q2]
  · rw [ra]
    exact R15 k j hk q1 q2
  · rw [a' _ _ (by omega) (by omega) (by omega), e15, ti_sI_ne (by omega)]
    exact b2
  · rw [a' _ _ (by omega) (by omega) (by omega), e15, ti_sI_eq]
  · unfold lel
    rw [ra, rr, b4 i hi, oR _ _ (by omega), r8' _ _ hd, hr]
    rfl
  · unfold lel
    rw [ra, rr, b5]
    rfl
  · rw [w4]
    exact z0.1
  · rw [w3 1 (by omega)]
    exact z0.2.1
  · rw [w3 2 (by omega)]
    exact z0.2.2.1
  · rw [w3 3 (by omega)]
    exact z0.2.2.2.1
  · rw [w4]
    exact z0.2.2.2.2.1
  · rw [w4]
    exact z0.2.2.2.2.2.1
  · rw [w4]
    exact z0.2.2.2.2.2.2
  · rw [ra, rr, b3 _ _ (by omega) (by omega) (by omega), oR _ _ (by omega), a2, N7]
  · rw [a' _ _ (by omega) (by omega) (by omega), I15 _ _ (by omega) (by omega) (by omega), oI _ _ (by omega)]
    have := a5 f hf
    rw [N7, (f7 px hpx).1] at this
    exact this
  · exact I15' 5 2 n5 (by omega) (by omega)
  · exact I15' 6 j (by omega) (by omega) (by omega)
/-- the reference's new session -/
def NSM (m m' : AS) (n : Nat) (p ow : Int32) : Prop :=
  (sR m' = sR m ∧ sL m' = sL m ∧ ∀ q j, ¬ ((q = 85 ∨ q = 86 ∨ q = 87 ∨ q = 88 ∨ q = 89) ∧ j = n) → ¬ (q = 90 ∧ 3 * n ≤ j ∧ j < 3 * n + 3) → ¬ (q = 57 ∧ (j = 30 ∨ j = 77 ∨ j = 81)) → q ≠ 123 → q ≠ 124 → q ≠ 125 → sI m' q j = sI m q j) ∧
  (sI m' 85 n = p ∧ sI m' 86 n = sI m 57 0 ∧ sI m' 87 n = sI m 57 0 ∧ sI m' 88 n = ow ∧ sI m' 89 n = 1 ∧ (∀ f, f < 3 → sI m' 90 (3 * n + f) = -1) ∧ sI m' 57 30 = Int32.ofNat (n + 1)) ∧
  ∃ ma, sI ma 57 77 = sI m 57 77 ∧ sI ma 123 = sI m 123 ∧ (sI ma 124 = sI m 124 ∧ sI ma 57 81 = sI m 57 81 ∧ sI ma 125 = sI m 125 ∧ sI ma 57 0 = sI m 57 0) ∧ sL ma = sL m ∧ AWM ma m' (Int32.ofNat 0) (Int32.ofNat n)
theorem p_newM_L {m : AS} {n : Nat} (hmf : MF m) (hn : n < 60) (h30 : sI m 57 30 = Int32.ofNat n) : ∀ (k j fu : Nat) (M : AS), j + k = 3 → sR M = sR m → sL M = sL m → (∀ q c, ¬ (q = 90 ∧ 3 * n ≤ c ∧ c < 3 * n + 3) → sI M q c = sI m q c) → (∀ f, f < j → sI M 90 (3 * n + f) = -1) →
    Hp (f_M_newSession_L49 fu M (some 57) (Int32.ofNat n) (Int32.ofNat j)) (fun q => q.1 = Int32.ofNat n ∧ ∃ ma, (sR ma = sR m ∧ sL ma = sL m ∧ (∀ q c, ¬ (q = 90 ∧ 3 * n ≤ c ∧ c < 3 * n + 3) → ¬ (q = 57 ∧ c = 30) → sI ma q c = sI m q c)) ∧ (∀ f, f < 3 → sI ma 90 (3 * n + f) = -1) ∧ sI ma 57 30 = Int32.ofNat (n + 1) ∧ AWM ma q.2 (Int32.ofNat 0) (Int32.ofNat n))
  | _, _, 0, _, _, _, _, _, _ => p_0
  | 0, j, fu + 1, M, hk, r1, r2, r3, r4 => by
    unfold f_M_newSession_L49 f_M_newSession_C49
    have e : j = 3 := by omega
    subst e
    refine p_of (st_T (by decide)) (p_of (st_gIe (v := Int32.ofNat n) ((r3 57 30 (by omega)).trans h30)) (p_of st_pI (p_of st_rv (p_bd (p_mw (m := wI M 57 30 (Int32.ofNat n + 1)) (k := Int32.ofNat 0) (nu := Int32.ofNat n) (MF_e hmf r1)) (fun m4 b => p_ret ⟨rfl, wI M 57 30 (Int32.ofNat n + 1), ⟨r1, r2, fun q c z1 z2 => ?_⟩, fun f hf => ?_, ?_, b⟩)))))
    · rw [ti_sI_ne z2]
      exact r3 q c z1
    · rw [ti_sI_ne (by omega)]
      exact r4 f hf
    · rw [ti_sI_eq, o1]
  | k + 1, j, fu + 1, M, hk, r1, r2, r3, r4 => by
    unfold f_M_newSession_L49 f_M_newSession_C49
    refine p_of (st_F (fun q => by have := (ole (a := 3) (b := j) (by decide) (by omega)).mp q; omega)) (p_of (st_gRe (v := some 90) (MF_e hmf r1 36 90 rfl)) (p_of (st_bIe (ix3 n (by omega) j (by omega))) (p_of st_val ?_)))
    rw [o1]
    refine p_newM_L hmf hn h30 k (j + 1) fu _ (by omega) r1 r2 (fun q c z => ?_) (fun f hf => ?_)
    · rw [ti_sI_ne (by omega)]
      exact r3 q c z
    · by_cases z : f = j
      · subst z
        rw [ti_sI_eq]
      · rw [ti_sI_ne (by omega)]
        exact r4 f (by omega)
theorem p_newM {m : AS} {n : Nat} {p ow : Int32} (hmf : MF m) (hn : n < 60) (h30 : sI m 57 30 = Int32.ofNat n) : Hp (f_M_newSession m (some 57) p ow) (fun q => q.1 = Int32.ofNat n ∧ NSM m q.2 n p ow) := by
  have on : (Int32.ofNat n).toNatClampNeg = n := oc (by omega)
  unfold f_M_newSession
  refine p_of (st_gIe h30) (p_of (st_gRe (hmf 31 85 rfl)) (p_of (st_bIe on) (p_of (st_gRe (v := some 86) (hmf 32 86 rfl)) (p_of (st_gIe (v := sI m 57 0) (ti_sI_ne (by omega))) (p_of (st_bIe on) ?_)))))
  refine p_of (st_gRe (v := some 87) (hmf 33 87 rfl)) (p_of (st_gIe (v := sI m 57 0) ((ti_sI_ne (by omega)).trans (ti_sI_ne (by omega)))) (p_of (st_bIe on) (p_of (st_gRe (v := some 88) (hmf 34 88 rfl)) (p_of (st_bIe on) (p_of (st_gRe (v := some 89) (hmf 35 89 rfl)) (p_of (st_bZe on) ?_))))))
  obtain ⟨m0, e0⟩ : ∃ m0, m0 = wI (wI (wI (wI (wI m 85 n p) 86 n (sI m 57 0)) 87 n (sI m 57 0)) 88 n ow) 89 n 1 := ⟨_, rfl⟩
  rw [← e0]
  have o0 : ∀ q j, ¬ ((q = 85 ∨ q = 86 ∨ q = 87 ∨ q = 88 ∨ q = 89) ∧ j = n) → sI m0 q j = sI m q j := fun q j z => by
    rw [e0, ti_sI_ne (by omega), ti_sI_ne (by omega), ti_sI_ne (by omega), ti_sI_ne (by omega), ti_sI_ne (by omega)]
  have r0 : sR m0 = sR m := by rw [e0]; rfl
  have l0 : sL m0 = sL m := by rw [e0]; rfl
  refine p_mono (p_newM_L (m := m0) (MF_e hmf r0) hn ((o0 _ _ (by omega)).trans h30) 3 0 kr_FU m0 rfl rfl rfl (fun _ _ _ => rfl) (fun f hf => absurd hf (Nat.not_lt_zero _))) (fun q h => ?_)
  obtain ⟨h1, ma, ⟨h2, h3, h4⟩, h5, h6, h7⟩ := h
  have b' := h7.1.2.2
  refine ⟨h1, ⟨h7.1.1.trans (h2.trans r0), h7.1.2.1.trans (h3.trans l0), fun a j z1 z2 z3 z4 z5 z6 => ?_⟩, ⟨?_, ?_, ?_, ?_, ?_, fun f hf => ?_, ?_⟩, ma, ?_, funext fun j => ?_, ⟨funext fun j => ?_, (h4 _ _ (by omega) (by omega)).trans (o0 _ _ (by omega)), funext fun j => (h4 _ _ (by omega) (by omega)).trans (o0 _ _ (by omega)), (h4 _ _ (by omega) (by omega)).trans (o0 _ _ (by omega))⟩, h3.trans l0, h7⟩
  · rw [b' a j z4 z5 z6 (by omega), h4 a j z2 (by omega), o0 a j z1]
  · rw [b' _ _ (by omega) (by omega) (by omega) (by omega), h4 _ _ (by omega) (by omega), e0, ti_sI_ne (by omega), ti_sI_ne (by omega), ti_sI_ne (by omega), ti_sI_ne (by omega), ti_sI_eq]
  · rw [b' _ _ (by omega) (by omega) (by omega) (by omega), h4 _ _ (by omega) (by omega), e0, ti_sI_ne (by omega), ti_sI_ne (by omega), ti_sI_ne (by omega), ti_sI_eq]
  · rw [b' _ _ (by omega) (by omega) (by omega) (by omega), h4 _ _ (by omega) (by omega), e0, ti_sI_ne (by omega), ti_sI_ne (by omega), ti_sI_eq]
  · rw [b' _ _ (by omega) (by omega) (by omega) (by omega), h4 _ _ (by omega) (by omega), e0, ti_sI_ne (by omega), ti_sI_eq]
  · rw [b' _ _ (by omega) (by omega) (by omega) (by omega), h4 _ _ (by omega) (by omega), e0, ti_sI_eq]
  · rw [b' _ _ (by omega) (by omega) (by omega) (by omega)]
    exact h5 f hf
  · rw [b' _ _ (by omega) (by omega) (by omega) (by omega)]
    exact h6
  · exact (h4 _ _ (by omega) (by omega)).trans (o0 _ _ (by omega))
  · exact (h4 _ _ (by omega) (by omega)).trans (o0 _ _ (by omega))
  · exact (h4 _ _ (by omega) (by omega)).trans (o0 _ _ (by omega))
