/-! ===== p9: the points of the class and those of the reference ===== -/
theorem kd_ty {T : Nat → Nat} {S : AS} (hT : TI T S) {j τ p : Nat} (a : ft 1 j = some τ) (b : sg τ = some p) : sR S 4 j = some p ∧ T p = τ ∧ τ ≠ 0 := by
  obtain ⟨k, e, h1, h2⟩ := hT.t2 4 j τ (by rw [hT.t9.2.2.2.2.1]; exact a)
  have := hT.t7 k p (by rw [h1]; exact b)
  subst this
  exact ⟨e, h1, h2⟩
theorem md_at {T : Nat → Nat} {S : AS} (hT : TI T S) {j τ p : Nat} (a : ft 100 j = some τ) (b : sg τ = some p) : sR S 57 j = some p ∧ T p = τ ∧ τ ≠ 0 := by
  obtain ⟨k, e, h1, h2⟩ := hT.t2 57 j τ (by rw [hT.t9.1]; exact a)
  have := hT.t7 k p (by rw [h1]; exact b)
  subst this
  exact ⟨e, h1, h2⟩
def RP9 (S : AS) : Prop := ∀ i, i < 3 → sI S 9 i = sI S 73 i ∧ sI S 10 i = sI S 74 i
def kr_rc9 : List Nat := [600, 700, 11700, 11800]
theorem rc_no9 {w : List Nat} (h : kr_rc9.all (fun z => !w.contains z) = true) {z : Nat} (hz : z ∈ kr_rc9) : ¬ z ∈ w := fun q => by
  have := List.all_eq_true.mp h z hz
  rw [List.contains_iff_mem.mpr q] at this
  cases this
theorem RP9_fr {T T' : Nat → Nat} {w : List Nat} {S S' : AS} {c s : Nat} (h : RP9 S) (hR : Rl T w S c s T' S') (hw : kr_rc9.all (fun z => !w.contains z) = true) : RP9 S' := by
  have hT : TI T S := hR.2.2.2.2.2.2.2.2
  have no := fun {z} => rc_no9 hw (z := z)
  have e1 := (kd_ty hT (j := 3) (p := 9) rfl rfl).2.1
  have e2 := (kd_ty hT (j := 4) (p := 10) rfl rfl).2.1
  have e3 := (md_at hT (j := 17) (p := 73) rfl rfl).2.1
  have e4 := (md_at hT (j := 18) (p := 74) rfl rfl).2.1
  intro i hi
  obtain ⟨a, b⟩ := h i hi
  refine ⟨?_, ?_⟩
  · rw [hR.fI 9 i (by rw [e1]; decide) (by rw [e1]; exact no (by rw [show cl 6 i = 600 from if_neg (by decide)]; decide)), hR.fI 73 i (by rw [e3]; decide) (by rw [e3]; exact no (by rw [show cl 117 i = 11700 from if_neg (by decide)]; decide))]
    exact a
  · rw [hR.fI 10 i (by rw [e2]; decide) (by rw [e2]; exact no (by rw [show cl 7 i = 700 from if_neg (by decide)]; decide)), hR.fI 74 i (by rw [e4]; decide) (by rw [e4]; exact no (by rw [show cl 118 i = 11800 from if_neg (by decide)]; decide))]
    exact b
theorem z_RP9 : RP9 kr_Z := by
  unfold RP9
  decide +kernel
def OKP (a b c : Int32) : Prop := In 0 2 a ∧ In (if c = 0 then 0 else -1) 5 b
def pk (c : Int32) : Nat := if c = 0 then 9 else 10
def pm (c : Int32) : Nat := if c = 0 then 73 else 74
theorem x_aIo {S : AS} {k i : Nat} (h : sK S k = 40) (hl : i < sL S k) (hi : i ≤ 300) : aI S 40 (some k) (Int32.ofNat i) = some (sI S k i) := by
  obtain ⟨e1, e2⟩ := gl2 i (by omega)
  unfold aI
  rw [Option.bind_some, if_pos ⟨h, by rw [e1]; omega, by rw [e1]; omega⟩, e2]
theorem x_K_points {T : Nat → Nat} {S : AS} (hT : TI T S) (a b c : Int32) : Ho (f_K_points S (some 4) a b c) (fun q => (¬ OKP a b c ∧ q = (.inr "java/lang/IllegalArgumentException", wX S)) ∨ (OKP a b c ∧ ∃ i, i < 3 ∧ a = Int32.ofNat i ∧ q = (.inl (sI S (pk c) i), wI S (pk c) i b))) := by
  have K4 : sK S 4 = 22 := Tx.K hT hT.t9.2.2.2.2.1 (by decide)
  obtain ⟨r9, t9, -⟩ := kd_ty hT (j := 3) (p := 9) rfl rfl
  obtain ⟨r10, t10, -⟩ := kd_ty hT (j := 4) (p := 10) rfl rfl
  have k9 : sK S 9 = 40 ∧ sL S 9 = 3 := ⟨Tx.K hT t9 (by decide), (hT.t1 9 (by rw [t9]; decide)).2.2.2 3 (by rw [t9]; rfl)⟩
  have k10 : sK S 10 = 40 ∧ sL S 10 = 3 := ⟨Tx.K hT t10 (by decide), (hT.t1 10 (by rw [t10]; decide)).2.2.2 3 (by rw [t10]; rfl)⟩
  have B41 : ∀ p i, i < 3 → sK S p = 40 → sL S p = 3 → f_K_points_B41 S (Int32.ofNat i) b (some p) = some (.inl (sI S p i), wI S p i b) := fun p i hi h1 h2 => by
    unfold f_K_points_B41
    rw [x_aIo h1 (by omega) (by omega), Option.bind_some, x_b h1 (by omega) (by omega), Option.bind_some]
  unfold f_K_points
  refine r_KwX (fun p1 p2 => ?_) (fun p => ?_)
  · have ha : In 0 2 a := In_iff.mp ⟨p1, p2⟩
    obtain ⟨i, hi, ei⟩ := ofNat_In (n := 2) (v := a) ha
    rw [rA1, bx_l]
    by_cases c0 : c = 0
    · rw [if_pos c0]
      unfold f_K_points_B19
      refine r_KwX (fun q1 q2 => ?_) (fun q => ?_)
      · have hb : In 0 5 b := In_iff.mp ⟨q1, q2⟩
        rw [rA1, bx_l, if_pos c0, ti_gR K4, Option.bind_some, r9, ei, B41 9 i hi k9.1 k9.2]
        refine r_some (Or.inr ⟨⟨by rw [← ei]; exact ha, by rw [if_pos c0]; exact hb⟩, i, hi, rfl, ?_⟩)
        unfold pk
        rw [if_pos c0]
      · rw [rA0, bx_r]
        exact r_some (Or.inl ⟨fun h => q (In_iff.mpr (by have := h.2; rw [if_pos c0] at this; exact this)), rfl⟩)
    · rw [if_neg c0]
      unfold f_K_points_B19
      refine r_KwX (fun q1 q2 => ?_) (fun q => ?_)
      · have hb : In (-1) 5 b := In_iff.mp ⟨q1, q2⟩
        rw [rA1, bx_l, if_neg c0, ti_gR K4, Option.bind_some, r10, ei, B41 10 i hi k10.1 k10.2]
        refine r_some (Or.inr ⟨⟨by rw [← ei]; exact ha, by rw [if_neg c0]; exact hb⟩, i, hi, rfl, ?_⟩)
        unfold pk
        rw [if_neg c0]
      · rw [rA0, bx_r]
        exact r_some (Or.inl ⟨fun h => q (In_iff.mpr (by have := h.2; rw [if_neg c0] at this; exact this)), rfl⟩)
  · rw [rA0, bx_r]
    exact r_some (Or.inl ⟨fun h => p (In_iff.mpr h.1), rfl⟩)
theorem x_M_points {T : Nat → Nat} {S : AS} (hT : TI T S) (a b c : Int32) : Ho (f_M_points S (some 57) a b c) (fun q => (¬ OKP a b c ∧ q = (0, wI S 57 82 1)) ∨ (OKP a b c ∧ ∃ i, i < 3 ∧ a = Int32.ofNat i ∧ q = (sI S (pm c) i, wI (wI S 57 82 0) (pm c) i b))) := by
  have hx : Tx T 100 (some 57) := ⟨57, rfl, hT.t9.1, by decide⟩
  have K57 : sK S 57 = 23 := (Tx.K hT hT.t9.1 (by decide)).trans rfl
  obtain ⟨r73, t73, -⟩ := md_at hT (j := 17) (p := 73) rfl rfl
  obtain ⟨r74, t74, -⟩ := md_at hT (j := 18) (p := 74) rfl rfl
  have k73 : sK S 73 = 40 ∧ sL S 73 = 3 := ⟨(Tx.K hT t73 (by decide)).trans rfl, (hT.t1 73 (by rw [t73]; decide)).2.2.2 3 (by rw [t73]; rfl)⟩
  have k74 : sK S 74 = 40 ∧ sL S 74 = 3 := ⟨(Tx.K hT t74 (by decide)).trans rfl, (hT.t1 74 (by rw [t74]; decide)).2.2.2 3 (by rw [t74]; rfl)⟩
  have no : ¬ OKP a b c → Ho (f_M_points_B32 S (some 57) a b c (some 57) 0) (fun q => (¬ OKP a b c ∧ q = (0, wI S 57 82 1)) ∨ (OKP a b c ∧ ∃ i, i < 3 ∧ a = Int32.ofNat i ∧ q = (sI S (pm c) i, wI (wI S 57 82 0) (pm c) i b))) := fun h => by
    unfold f_M_points_B32
    rw [ti_rv K57, Option.bind_some, x_may hT hx (by decide), b2_s, if_pos rfl, if_pos rfl]
    exact r_some (Or.inl ⟨h, rfl⟩)
  have yes : OKP a b c → Ho (f_M_points_B32 S (some 57) a b c (some 57) 1) (fun q => (¬ OKP a b c ∧ q = (0, wI S 57 82 1)) ∨ (OKP a b c ∧ ∃ i, i < 3 ∧ a = Int32.ofNat i ∧ q = (sI S (pm c) i, wI (wI S 57 82 0) (pm c) i b))) := fun h => by
    obtain ⟨i, hi, ei⟩ := ofNat_In (n := 2) (v := a) h.1
    unfold f_M_points_B32
    rw [ti_rv K57, Option.bind_some, x_may hT hx (by decide), b2_s, if_neg (by decide : ¬ (1 : Int32) = 0), if_neg (by decide : ¬ (1 : Int32) = 0)]
    have K' : sK (wI S 57 82 0) 57 = 23 := K57
    by_cases c0 : c = 0
    · have r' : sR (wI S 57 82 0) 57 17 = some 73 := r73
      have e := x_aIo (S := wI S 57 82 0) (k := 73) (i := i) k73.1 (by show i < sL S 73; omega) (by omega)
      rw [if_pos c0, ti_gR K', Option.bind_some, r', ei, e, Option.bind_some]
      unfold f_M_points_B59
      rw [if_pos c0, ti_gR K', Option.bind_some, r', x_b (S := wI S 57 82 0) k73.1 (by show i < sL S 73; omega) (by omega), Option.bind_some]
      refine r_some (Or.inr ⟨by rw [← ei]; exact h, i, hi, rfl, ?_⟩)
      unfold pm
      rw [if_pos c0, ti_sI_ne (by omega)]
    · have r' : sR (wI S 57 82 0) 57 18 = some 74 := r74
      have e := x_aIo (S := wI S 57 82 0) (k := 74) (i := i) k74.1 (by show i < sL S 74; omega) (by omega)
      rw [if_neg c0, ti_gR K', Option.bind_some, r', ei, e, Option.bind_some]
      unfold f_M_points_B59
      rw [if_neg c0, ti_gR K', Option.bind_some, r', x_b (S := wI S 57 82 0) k74.1 (by show i < sL S 74; omega) (by omega), Option.bind_some]
      refine r_some (Or.inr ⟨by rw [← ei]; exact h, i, hi, rfl, ?_⟩)
      unfold pm
      rw [if_neg c0, ti_sI_ne (by omega)]
  unfold f_M_points f_M_points_B31
  refine r_MiX (fun p1 p2 => ?_) (fun p => ?_)
  · have ha : In 0 2 a := In_iff.mp ⟨p1, p2⟩
    rw [if_neg (by decide : ¬ (1 : Int32) = 0)]
    by_cases c0 : c = 0
    · rw [if_pos c0]
      unfold f_M_points_B20 f_M_points_B31
      refine r_MiX (fun q1 q2 => ?_) (fun q => ?_)
      · rw [if_neg (by decide : ¬ (1 : Int32) = 0)]
        exact yes ⟨ha, by rw [if_pos c0]; exact In_iff.mp ⟨q1, q2⟩⟩
      · rw [if_pos rfl]
        exact no (fun h => q (In_iff.mpr (by have := h.2; rw [if_pos c0] at this; exact this)))
    · rw [if_neg c0]
      unfold f_M_points_B20 f_M_points_B31
      refine r_MiX (fun q1 q2 => ?_) (fun q => ?_)
      · rw [if_neg (by decide : ¬ (1 : Int32) = 0)]
        exact yes ⟨ha, by rw [if_neg c0]; exact In_iff.mp ⟨q1, q2⟩⟩
      · rw [if_pos rfl]
        exact no (fun h => q (In_iff.mpr (by have := h.2; rw [if_neg c0] at this; exact this)))
  · rw [if_pos rfl]
    exact no (fun h => p (In_iff.mpr h.1))
