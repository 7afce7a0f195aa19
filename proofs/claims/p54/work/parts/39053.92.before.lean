/-! ===== one cell's write, and the frames ===== -/
theorem Kp_wI {T : Nat → Nat} {cs : List Nat} {S : AS} {p j τ : Nat} (v : Int32) (hp : T p = τ) (hc : ¬ cl τ j ∈ cs) : Kp T T cs S (wI S p j v) := ⟨fun _ _ => rfl, fun k i h1 h2 => ti_sI_ne (fun q => by
  rw [q.1, q.2, hp] at h2
  exact hc h2), fun _ _ _ _ => rfl⟩
theorem Kp_tr {T T' T'' : Nat → Nat} {cs : List Nat} {S S' S'' : AS} (h : Kp T T' cs S S') (g : Kp T' T'' cs S' S'') : Kp T T'' cs S S'' :=
  ⟨fun k hk => (g.1 k (by rw [h.1 k hk]; exact hk)).trans (h.1 k hk), fun k j hk hc => (g.2.1 k j (by rw [h.1 k hk]; exact hk) (by rw [h.1 k hk]; exact hc)).trans (h.2.1 k j hk hc), fun k j hk hc => (g.2.2 k j (by rw [h.1 k hk]; exact hk) (by rw [h.1 k hk]; exact hc)).trans (h.2.2 k j hk hc)⟩
theorem sN_wI' (S : AS) (k j : Nat) (v : Int32) : sN (wI S k j v) = sN S := rfl
/-- a write ahead of a new session counts as one behind it -/
theorem AWK_w {S S' : AS} {k nu v : Int32} {p j : Nat} (h : AWK S S' k nu) (h4 : p ≠ 4) (h5 : p ≠ 5) (h6 : p ≠ 6) (h7 : p ≠ 7) : AWK (wI S p j v) (wI S' p j v) k nu := by
  obtain ⟨⟨a1, a2, a3⟩, a4, a5⟩ := h
  have e : ∀ x y i, x ≠ p → sI (wI y p j v) x i = sI y x i := fun x y i hx => ti_sI_ne (by omega)
  refine ⟨⟨a1, a2, fun q i q5 q6 q7 => ?_⟩, ?_, ?_⟩
  · by_cases c : q = p ∧ i = j
    · rw [c.1, c.2, ti_sI_eq, ti_sI_eq]
    · rw [ti_sI_ne c, ti_sI_ne c]
      exact a3 q i q5 q6 q7
  · rw [e 5 S 2 (by omega), e 5 S' 2 (by omega)]
    rcases a4 with ⟨b1, b2, b3, b4, b5⟩ | ⟨b1, b2, b3⟩
    · exact Or.inl ⟨b1, b2, b3, by rw [e 6 S' _ (by omega)]; exact b4, fun i hi => by rw [e 6 S' _ (by omega), e 6 S _ (by omega)]; exact b5 i hi⟩
    · exact Or.inr ⟨b1, b2, fun i => by rw [e 6 S' _ (by omega), e 6 S _ (by omega)]; exact b3 i⟩
  · rw [e 5 S 2 (by omega), e 4 S 0 (by omega), e 5 S' 3 (by omega), e 5 S 3 (by omega)]
    exact fun q1 q2 => ⟨by rw [e 7 S' _ (by omega)]; exact (a5 q1 q2).1, fun i hi => by rw [e 7 S' _ (by omega), e 7 S _ (by omega)]; exact (a5 q1 q2).2.1 i hi, (a5 q1 q2).2.2⟩
theorem NSK_w {S S' : AS} {n d px x j : Nat} {p ow : Option Nat} {v : Int32} (h : NSK S S' n d px p ow) (hx : x < sN S) (n4 : x ≠ 4) (n5 : x ≠ 5) (n6 : x ≠ 6) (n7 : x ≠ 7) (n19 : x ≠ 19) (npx : x ≠ px) (h4 : 4 < sN S) : NSK (wI S x j v) (wI S' x j v) n d px p ow := by
  obtain ⟨k1, k2, ⟨k3, k4⟩, ⟨k5, k6⟩, ⟨z0, z1, z2, z3, z4, z5, z6⟩, ⟨k7, k8⟩, Sa, ka1, ⟨ka2, ka3, ka4, ka5⟩, ka⟩ := h
  have e : ∀ y q i, q ≠ x → sI (wI y x j v) q i = sI y q i := fun y q i hq => ti_sI_ne (by omega)
  have el : ∀ y l i, lel (wI y x j v) l i = lel y l i := fun y l i => rfl
  refine ⟨fun k i hk q1 q2 q5 q6 q7 => ?_, k2, ⟨?_, ?_⟩, ⟨k5, k6⟩, ⟨?_, z1, z2, z3, ?_, ?_, ?_⟩, ⟨k7, fun f hf => ?_⟩, wI Sa x j v, ?_, ⟨funext fun i => ?_, ?_, funext fun i => ?_, ?_⟩, AWK_w ka n4 n5 n6 n7⟩
  · by_cases c : k = x ∧ i = j
    · rw [c.1, c.2, ti_sI_eq, ti_sI_eq]
    · rw [ti_sI_ne c, ti_sI_ne c]
      exact k1 k i hk q1 q2 q5 q6 q7
  · rw [e S' 19 2 (by omega)]
    exact k3
  · rw [e S' 4 9 (by omega), e S 4 9 (by omega)]
    exact k4
  · rw [sN_wI', e S' _ 0 (by omega)]
    exact z0
  · rw [sN_wI', e S' _ 4 (by omega), e S 4 0 (by omega)]
    exact z4
  · rw [sN_wI', e S' _ 5 (by omega), e S 4 0 (by omega)]
    exact z5
  · rw [sN_wI', e S' _ 6 (by omega)]
    exact z6
  · rw [sN_wI', e S' _ f (by omega), e S px f (by omega)]
    exact k8 f hf
  · rw [e Sa 5 2 (by omega), e S 5 2 (by omega)]
    exact ka1
  · rw [e Sa 6 i (by omega), e S 6 i (by omega)]
    exact congrFun ka2 i
  · rw [e Sa 5 3 (by omega), e S 5 3 (by omega)]
    exact ka3
  · rw [e Sa 7 i (by omega), e S 7 i (by omega)]
    exact congrFun ka4 i
  · rw [e Sa 4 0 (by omega), e S 4 0 (by omega)]
    exact ka5
theorem AWM_w {m m' : AS} {k nu v : Int32} {p j : Nat} (h : AWM m m' k nu) (h1 : p ≠ 57) (h2 : p ≠ 123) (h3 : p ≠ 124) (h4 : p ≠ 125) : AWM (wI m p j v) (wI m' p j v) k nu := by
  obtain ⟨⟨a1, a2, a3⟩, b0, b1, b2, b3, b4, b5, b6, b7, b8⟩ := h
  have e : ∀ y x i, x ≠ p → sI (wI y p j v) x i = sI y x i := fun y x i hx => ti_sI_ne (by omega)
  refine ⟨⟨a1, a2, fun q i q3 q4 q5 q6 => ?_⟩, ?_, ?_, ?_, ?_, ?_, fun i hi => ?_, ?_, fun i hi => ?_, ?_⟩
  · by_cases c : q = p ∧ i = j
    · rw [c.1, c.2, ti_sI_eq, ti_sI_eq]
    · rw [ti_sI_ne c, ti_sI_ne c]
      exact a3 q i q3 q4 q5 q6
  · rw [e m 57 77 (by omega)]
    exact b0
  · rw [e m 57 77 (by omega)]
    exact b1
  · rw [e m 57 77 (by omega), e m' 57 77 (by omega)]
    exact b2
  · rw [e m 57 77 (by omega), e m' 123 _ (by omega)]
    exact b3
  · rw [e m 57 77 (by omega), e m' 124 _ (by omega)]
    exact b4
  · rw [e m 57 77 (by omega)] at hi
    rw [e m' 123 _ (by omega), e m' 124 _ (by omega), e m 123 _ (by omega), e m 124 _ (by omega)]
    exact b5 i hi
  · rw [e m 57 77 (by omega), e m' 125 _ (by omega), e m 57 0 (by omega)]
    exact b6
  · rw [e m 57 77 (by omega)] at hi
    rw [e m' 125 _ (by omega), e m 125 _ (by omega)]
    exact b7 i hi
  · rw [e m' 57 81 (by omega), e m 57 81 (by omega), e m 57 0 (by omega)]
    exact b8
theorem NSM_w {m m' : AS} {n x j : Nat} {p ow v : Int32} (h : NSM m m' n p ow) (n57 : x ≠ 57) (hx : x < 85 ∨ 125 < x) : NSM (wI m x j v) (wI m' x j v) n p ow := by
  obtain ⟨⟨l1, l0, m2⟩, ⟨y1, y2, y3, y4, y5, y6, y7⟩, ma, mb1, mb2, ⟨mb3, mb5, mb6, mb7⟩, mb4, mb⟩ := h
  have e : ∀ y q i, q ≠ x → sI (wI y x j v) q i = sI y q i := fun y q i hq => ti_sI_ne (by omega)
  refine ⟨⟨l1, l0, fun q i q1 q2 q3 q4 q5 q6 => ?_⟩, ⟨?_, ?_, ?_, ?_, ?_, fun f hf => ?_, ?_⟩, wI ma x j v, ?_, funext fun i => ?_, ⟨funext fun i => ?_, ?_, funext fun i => ?_, ?_⟩, mb4, AWM_w mb n57 (by omega) (by omega) (by omega)⟩
  · by_cases c : q = x ∧ i = j
    · rw [c.1, c.2, ti_sI_eq, ti_sI_eq]
    · rw [ti_sI_ne c, ti_sI_ne c]
      exact m2 q i q1 q2 q3 q4 q5 q6
  · rw [e m' 85 _ (by omega)]
    exact y1
  · rw [e m' 86 _ (by omega), e m 57 0 (by omega)]
    exact y2
  · rw [e m' 87 _ (by omega), e m 57 0 (by omega)]
    exact y3
  · rw [e m' 88 _ (by omega)]
    exact y4
  · rw [e m' 89 _ (by omega)]
    exact y5
  · rw [e m' 90 _ (by omega)]
    exact y6 f hf
  · rw [e m' 57 30 (by omega)]
    exact y7
  · rw [e ma 57 77 (by omega), e m 57 77 (by omega)]
    exact mb1
  · rw [e ma 123 i (by omega), e m 123 i (by omega)]
    exact congrFun mb2 i
  · rw [e ma 124 i (by omega), e m 124 i (by omega)]
    exact congrFun mb3 i
  · rw [e ma 57 81 (by omega), e m 57 81 (by omega)]
    exact mb5
  · rw [e ma 125 i (by omega), e m 125 i (by omega)]
    exact congrFun mb6 i
  · rw [e ma 57 0 (by omega), e m 57 0 (by omega)]
    exact mb7
