/-! ===== the reference's calls write nothing of the run's own ===== -/
def GF (S S2 : AS) : Prop := S2 = gm S S2
theorem GF_rf (S : AS) : GF S S := by
  unfold GF gm
  have : (fun k => if rlk (sK S k) = true then sI S k else sI S k) = sI S := by
    funext k
    split <;> rfl
  rw [this]
  rfl
theorem GF_K {S S2 : AS} (h : GF S S2) : sK S2 = sK S := by rw [h]; rfl
theorem GF_wI {S S2 : AS} {k j : Nat} {v : Int32} (h : GF S S2) (hk : rlk (sK S2 k) = false) : GF S (wI S2 k j v) := by
  have e := GF_K h
  rw [e] at hk
  unfold GF gm
  have : sI (wI S2 k j v) = fun a => if rlk (sK S a) = true then sI S a else sI (wI S2 k j v) a := by
    funext a
    by_cases c : rlk (sK S a) = true
    · rw [if_pos c]
      have ne : a ≠ k := fun q => by
        rw [q, hk] at c
        cases c
      have e2 : sI (wI S2 k j v) a = sI S2 a := by
        funext b
        exact ti_sI_ne (fun q => ne q.1)
      rw [e2, h]
      show (if rlk (sK S a) = true then sI S a else sI S2 a) = sI S a
      rw [if_pos c]
    · rw [if_neg c]
  have h0 : S2 = gm S S2 := h
  rw [← this]
  have p1 : sN S2 = sN S := by rw [h0]; rfl
  have p2 : sL S2 = sL S := by rw [h0]; rfl
  have p3 : sR S2 = sR S := by rw [h0]; rfl
  have p4 : sJ S2 = sJ S := by rw [h0]; rfl
  have p5 : sC S2 = sC S := by rw [h0]; rfl
  have p6 : sS S2 = sS S := by rw [h0]; rfl
  rw [← p1, ← e, ← p2, ← p3, ← p4, ← p5, ← p6]
  rfl
def G2 {α : Type} (S0 : AS) (x : Option (α × AS)) : Prop := ∀ q, x = some q → GF S0 q.2
def G1 (S0 : AS) (x : Option AS) : Prop := ∀ q, x = some q → GF S0 q
section
variable {α β : Type} {S0 S : AS}
theorem g2_ret {v : α} (h : GF S0 S) : G2 S0 (some (v, S)) := fun q e => by cases e; exact h
theorem g1_ret (h : GF S0 S) : G1 S0 (some S) := fun q e => by cases e; exact h
theorem g2_no : G2 S0 (none : Option (α × AS)) := fun q e => by cases e
theorem g1_no : G1 S0 none := fun q e => by cases e
theorem g2_if {c : Prop} [Decidable c] {x y : Option (α × AS)} (h1 : G2 S0 x) (h0 : G2 S0 y) : G2 S0 (if c then x else y) := by
  split
  · exact h1
  · exact h0
theorem g1_if {c : Prop} [Decidable c] {x y : Option AS} (h1 : G1 S0 x) (h0 : G1 S0 y) : G1 S0 (if c then x else y) := by
  split
  · exact h1
  · exact h0
theorem g2_b2 {x : Option (α × AS)} {F : α → AS → Option (β × AS)} (hx : G2 S0 x) (h : ∀ v S', GF S0 S' → G2 S0 (F v S')) : G2 S0 (kr_b2 x F) := fun q e => by
  cases hc : x with
  | none => rw [hc] at e; cases e
  | some z => rw [hc] at e; exact h z.1 z.2 (hx z hc) q e
theorem g1_b2 {x : Option (α × AS)} {F : α → AS → Option AS} (hx : G2 S0 x) (h : ∀ v S', GF S0 S' → G1 S0 (F v S')) : G1 S0 (kr_b2 x F) := fun q e => by
  cases hc : x with
  | none => rw [hc] at e; cases e
  | some z => rw [hc] at e; exact h z.1 z.2 (hx z hc) q e
theorem g2_bd {x : Option AS} {F : AS → Option (β × AS)} (hx : G1 S0 x) (h : ∀ S', GF S0 S' → G2 S0 (F S')) : G2 S0 (x.bind F) := fun q e => by
  cases hc : x with
  | none => rw [hc] at e; cases e
  | some z => rw [hc] at e; exact h z (hx z hc) q e
theorem g1_bd {x : Option AS} {F : AS → Option AS} (hx : G1 S0 x) (h : ∀ S', GF S0 S' → G1 S0 (F S')) : G1 S0 (x.bind F) := fun q e => by
  cases hc : x with
  | none => rw [hc] at e; cases e
  | some z => rw [hc] at e; exact h z (hx z hc) q e
theorem g2_rd {γ : Type} {x : Option γ} {F : γ → Option (β × AS)} (h : ∀ v, G2 S0 (F v)) : G2 S0 (x.bind F) := fun q e => by
  cases hc : x with
  | none => rw [hc] at e; cases e
  | some z => rw [hc] at e; exact h z q e
theorem g1_rd {γ : Type} {x : Option γ} {F : γ → Option AS} (h : ∀ v, G1 S0 (F v)) : G1 S0 (x.bind F) := fun q e => by
  cases hc : x with
  | none => rw [hc] at e; cases e
  | some z => rw [hc] at e; exact h z q e
theorem g1_pI {j : Nat} {x : Option Nat} {v : Int32} (h : GF S0 S) : G1 S0 (pI S 39 j x v) := fun q e => by
  cases x with
  | none => cases e
  | some k =>
    unfold pI at e
    rw [Option.bind_some] at e
    split at e
    · next c => cases e; exact GF_wI h (by rw [c]; rfl)
    · cases e
theorem g1_bI {x : Option Nat} {i v : Int32} (h : GF S0 S) : G1 S0 (bI S x i v 46) := fun q e => by
  cases x with
  | none => cases e
  | some k =>
    unfold bI at e
    rw [Option.bind_some] at e
    split at e
    · next c => cases e; exact GF_wI h (by rw [c.1]; rfl)
    · cases e
theorem g1_bZ {x : Option Nat} {i v : Int32} (h : GF S0 S) : G1 S0 (bZ S x i v 47) := fun q e => by
  cases x with
  | none => cases e
  | some k =>
    unfold bZ at e
    rw [Option.bind_some] at e
    split at e
    · next c => cases e; exact GF_wI h (by rw [c.1]; rfl)
    · cases e
end
theorem g_f_M_isIn {S0 : AS}  (S : AS) (a0 : Int32) (a1 : Int32) (a2 : Int32) (hS : GF S0 S) : G2 S0 (f_M_isIn S a0 a1 a2) := by
  unfold f_M_isIn
  refine g2_if ?_ ?_
  · exact g2_ret hS
  · refine g2_if ?_ ?_
    · exact g2_ret hS
    · exact g2_ret hS
theorem g_f_M_mayBoth_B18 {S0 : AS}  (S : AS) (x0 : Option Nat) (y0 : Option Nat) (y1 : Int32) (hS : GF S0 S) : G2 S0 (f_M_mayBoth_B18 S x0 y0 y1) := by
  unfold f_M_mayBoth_B18
  refine g2_bd (g1_pI hS) (fun S1 hS1 => ?_)
  refine g2_rd (fun v2 => ?_)
  refine g2_if ?_ ?_
  · exact g2_ret hS1
  · exact g2_ret hS1
theorem g_f_M_mayBoth {S0 : AS}  (S : AS) (a0 : Option Nat) (a1 : Int32) (a2 : Int32) (hS : GF S0 S) : G2 S0 (f_M_mayBoth S a0 a1 a2) := by
  unfold f_M_mayBoth
  refine g2_if ?_ ?_
  · exact g_f_M_mayBoth_B18 _ _ _ _ hS
  · refine g2_if ?_ ?_
    · exact g_f_M_mayBoth_B18 _ _ _ _ hS
    · exact g_f_M_mayBoth_B18 _ _ _ _ hS
theorem g_f_M_write {S0 : AS}  (S : AS) (a0 : Option Nat) (a1 : Int32) (a2 : Int32) (hS : GF S0 S) : G1 S0 (f_M_write S a0 a1 a2) := by
  unfold f_M_write
  refine g1_rd (fun v1 => ?_)
  refine g1_rd (fun v2 => ?_)
  refine g1_bd (g1_bI hS) (fun S3 hS3 => ?_)
  refine g1_rd (fun v4 => ?_)
  refine g1_rd (fun v5 => ?_)
  refine g1_bd (g1_bI hS3) (fun S6 hS6 => ?_)
  refine g1_rd (fun v7 => ?_)
  refine g1_rd (fun v8 => ?_)
  refine g1_rd (fun v9 => ?_)
  refine g1_bd (g1_bI hS6) (fun S10 hS10 => ?_)
  refine g1_rd (fun v11 => ?_)
  refine g1_bd (g1_pI hS10) (fun S12 hS12 => ?_)
  refine g1_rd (fun v13 => ?_)
  refine g1_rd (fun v14 => ?_)
  refine g1_rd (fun i15 => ?_)
  refine g1_bd (g1_pI hS12) (fun S16 hS16 => ?_)
  exact g1_ret hS16
theorem g_f_M_hears_B45 {S0 : AS} {k5 : AS → Option Nat → Int32 → Int32 → Int32 → Int32 → Option (Int32 × AS)} (hk5 : ∀ (z0 : AS) (z1 : Option Nat) (z2 : Int32) (z3 : Int32) (z4 : Int32) (z5 : Int32), GF S0 z0 → G2 S0 (k5 z0 z1 z2 z3 z4 z5)) (S : AS) (x0 : Option Nat) (x1 : Int32) (x2 : Int32) (x4 : Int32) (y0 : Int32) (hS : GF S0 S) : G2 S0 (f_M_hears_B45 k5 S x0 x1 x2 x4 y0) := by
  unfold f_M_hears_B45
  refine g2_rd (fun i1 => ?_)
  exact hk5 _ _ _ _ _ _ hS
theorem g_f_M_hears_B40 {S0 : AS} {k5 : AS → Option Nat → Int32 → Int32 → Int32 → Int32 → Option (Int32 × AS)} (hk5 : ∀ (z0 : AS) (z1 : Option Nat) (z2 : Int32) (z3 : Int32) (z4 : Int32) (z5 : Int32), GF S0 z0 → G2 S0 (k5 z0 z1 z2 z3 z4 z5)) (S : AS) (x0 : Option Nat) (x1 : Int32) (x2 : Int32) (x4 : Int32) (hS : GF S0 S) : G2 S0 (f_M_hears_B40 k5 S x0 x1 x2 x4) := by
  unfold f_M_hears_B40
  exact g_f_M_hears_B45 hk5 _ _ _ _ _ _ hS
theorem g_f_M_hears_B44 {S0 : AS} {k5 : AS → Option Nat → Int32 → Int32 → Int32 → Int32 → Option (Int32 × AS)} (hk5 : ∀ (z0 : AS) (z1 : Option Nat) (z2 : Int32) (z3 : Int32) (z4 : Int32) (z5 : Int32), GF S0 z0 → G2 S0 (k5 z0 z1 z2 z3 z4 z5)) (S : AS) (x0 : Option Nat) (x1 : Int32) (x2 : Int32) (x4 : Int32) (hS : GF S0 S) : G2 S0 (f_M_hears_B44 k5 S x0 x1 x2 x4) := by
  unfold f_M_hears_B44
  exact g_f_M_hears_B45 hk5 _ _ _ _ _ _ hS
theorem g_f_M_hears_C5 {S0 : AS} {k5 : AS → Option Nat → Int32 → Int32 → Int32 → Int32 → Option (Int32 × AS)} (hk5 : ∀ (z0 : AS) (z1 : Option Nat) (z2 : Int32) (z3 : Int32) (z4 : Int32) (z5 : Int32), GF S0 z0 → G2 S0 (k5 z0 z1 z2 z3 z4 z5)) (S : AS) (x0 : Option Nat) (x1 : Int32) (x2 : Int32) (x3 : Int32) (x4 : Int32) (hS : GF S0 S) : G2 S0 (f_M_hears_C5 k5 S x0 x1 x2 x3 x4) := by
  unfold f_M_hears_C5
  refine g2_rd (fun v2 => ?_)
  refine g2_if ?_ ?_
  · refine g2_rd (fun u3 => ?_)
    exact g2_ret hS
  · refine g2_if ?_ ?_
    · refine g2_rd (fun v4 => ?_)
      refine g2_rd (fun v5 => ?_)
      refine g2_if ?_ ?_
      · refine g2_rd (fun v6 => ?_)
        refine g2_rd (fun v7 => ?_)
        refine g2_if ?_ ?_
        · exact g_f_M_hears_B40 hk5 _ _ _ _ _ hS
        · exact g_f_M_hears_B44 hk5 _ _ _ _ _ hS
      · exact g_f_M_hears_B44 hk5 _ _ _ _ _ hS
    · exact g_f_M_hears_B40 hk5 _ _ _ _ _ hS
theorem g_f_M_hears_L5 {S0 : AS}  : ∀ (n : Nat) (z0 : AS) (z1 : Option Nat) (z2 : Int32) (z3 : Int32) (z4 : Int32) (z5 : Int32), GF S0 z0 → G2 S0 (f_M_hears_L5 n z0 z1 z2 z3 z4 z5)
  | 0, _, _, _, _, _, _, _ => g2_no
  | n + 1, z0, z1, z2, z3, z4, z5, h => g_f_M_hears_C5 (g_f_M_hears_L5 n) z0 z1 z2 z3 z4 z5 h
theorem g_f_M_hears {S0 : AS}  (S : AS) (a0 : Option Nat) (a1 : Int32) (a2 : Int32) (hS : GF S0 S) : G2 S0 (f_M_hears S a0 a1 a2) := by
  unfold f_M_hears
  exact g_f_M_hears_L5 _ _ _ _ _ _ _ hS
theorem g_f_M_endFamily_B63 {S0 : AS} {k25 : AS → Option Nat → Int32 → Int32 → Option AS} (hk25 : ∀ (z0 : AS) (z1 : Option Nat) (z2 : Int32) (z3 : Int32), GF S0 z0 → G1 S0 (k25 z0 z1 z2 z3)) (S : AS) (x0 : Option Nat) (x1 : Int32) (x2 : Int32) (y0 : Option Nat) (y1 : Int32) (y2 : Int32) (hS : GF S0 S) : G1 S0 (f_M_endFamily_B63 k25 S x0 x1 x2 y0 y1 y2) := by
  unfold f_M_endFamily_B63
  refine g1_bd (g1_bZ hS) (fun S1 hS1 => ?_)
  refine g1_rd (fun i2 => ?_)
  exact hk25 _ _ _ _ hS1
theorem g_f_M_endFamily_B62 {S0 : AS} {k25 : AS → Option Nat → Int32 → Int32 → Option AS} (hk25 : ∀ (z0 : AS) (z1 : Option Nat) (z2 : Int32) (z3 : Int32), GF S0 z0 → G1 S0 (k25 z0 z1 z2 z3)) (S : AS) (x0 : Option Nat) (x1 : Int32) (x2 : Int32) (y0 : Option Nat) (y1 : Int32) (hS : GF S0 S) : G1 S0 (f_M_endFamily_B62 k25 S x0 x1 x2 y0 y1) := by
  unfold f_M_endFamily_B62
  exact g_f_M_endFamily_B63 hk25 _ _ _ _ _ _ _ hS
theorem g_f_M_endFamily_C25 {S0 : AS} {k25 : AS → Option Nat → Int32 → Int32 → Option AS} (hk25 : ∀ (z0 : AS) (z1 : Option Nat) (z2 : Int32) (z3 : Int32), GF S0 z0 → G1 S0 (k25 z0 z1 z2 z3)) (S : AS) (x0 : Option Nat) (x1 : Int32) (x2 : Int32) (hS : GF S0 S) : G1 S0 (f_M_endFamily_C25 k25 S x0 x1 x2) := by
  unfold f_M_endFamily_C25
  refine g1_if ?_ ?_
  · exact g1_ret hS
  · refine g1_rd (fun v3 => ?_)
    refine g1_rd (fun v4 => ?_)
    refine g1_rd (fun v5 => ?_)
    refine g1_if ?_ ?_
    · refine g1_rd (fun u6 => ?_)
      refine g1_b2 (g_f_M_hears _ _ _ _ hS) (fun v8 S7 hS7 => ?_)
      refine g1_if ?_ ?_
      · exact g_f_M_endFamily_B62 hk25 _ _ _ _ _ _ hS7
      · exact g_f_M_endFamily_B63 hk25 _ _ _ _ _ _ _ hS7
    · exact g_f_M_endFamily_B62 hk25 _ _ _ _ _ _ hS
theorem g_f_M_endFamily_L25 {S0 : AS}  : ∀ (n : Nat) (z0 : AS) (z1 : Option Nat) (z2 : Int32) (z3 : Int32), GF S0 z0 → G1 S0 (f_M_endFamily_L25 n z0 z1 z2 z3)
  | 0, _, _, _, _, _ => g1_no
  | n + 1, z0, z1, z2, z3, h => g_f_M_endFamily_C25 (g_f_M_endFamily_L25 n) z0 z1 z2 z3 h
theorem g_f_M_endFamily {S0 : AS}  (S : AS) (a0 : Option Nat) (a1 : Int32) (hS : GF S0 S) : G1 S0 (f_M_endFamily S a0 a1) := by
  unfold f_M_endFamily
  refine g1_rd (fun v9 => ?_)
  refine g1_rd (fun v10 => ?_)
  refine g1_if ?_ ?_
  · exact g1_ret hS
  · refine g1_rd (fun v11 => ?_)
    refine g1_bd (g1_bZ hS) (fun S12 hS12 => ?_)
    refine g1_rd (fun u13 => ?_)
    refine g1_bd (g_f_M_write _ _ _ _ hS12) (fun S14 hS14 => ?_)
    exact g_f_M_endFamily_L25 _ _ _ _ _ hS14
theorem g_f_M_endFamiliesOf_B30 {S0 : AS} {k2 : AS → Option Nat → Int32 → Int32 → Option AS} (hk2 : ∀ (z0 : AS) (z1 : Option Nat) (z2 : Int32) (z3 : Int32), GF S0 z0 → G1 S0 (k2 z0 z1 z2 z3)) (S : AS) (x0 : Option Nat) (x1 : Int32) (x2 : Int32) (hS : GF S0 S) : G1 S0 (f_M_endFamiliesOf_B30 k2 S x0 x1 x2) := by
  unfold f_M_endFamiliesOf_B30
  refine g1_rd (fun i1 => ?_)
  exact hk2 _ _ _ _ hS
theorem g_f_M_endFamiliesOf_C2 {S0 : AS} {k2 : AS → Option Nat → Int32 → Int32 → Option AS} (hk2 : ∀ (z0 : AS) (z1 : Option Nat) (z2 : Int32) (z3 : Int32), GF S0 z0 → G1 S0 (k2 z0 z1 z2 z3)) (S : AS) (x0 : Option Nat) (x1 : Int32) (x2 : Int32) (hS : GF S0 S) : G1 S0 (f_M_endFamiliesOf_C2 k2 S x0 x1 x2) := by
  unfold f_M_endFamiliesOf_C2
  refine g1_rd (fun v2 => ?_)
  refine g1_if ?_ ?_
  · exact g1_ret hS
  · refine g1_rd (fun v3 => ?_)
    refine g1_rd (fun v4 => ?_)
    refine g1_rd (fun v5 => ?_)
    refine g1_rd (fun v6 => ?_)
    refine g1_if ?_ ?_
    · refine g1_rd (fun u7 => ?_)
      refine g1_bd (g_f_M_endFamily _ _ _ hS) (fun S8 hS8 => ?_)
      exact g_f_M_endFamiliesOf_B30 hk2 _ _ _ _ hS8
    · exact g_f_M_endFamiliesOf_B30 hk2 _ _ _ _ hS
theorem g_f_M_endFamiliesOf_L2 {S0 : AS}  : ∀ (n : Nat) (z0 : AS) (z1 : Option Nat) (z2 : Int32) (z3 : Int32), GF S0 z0 → G1 S0 (f_M_endFamiliesOf_L2 n z0 z1 z2 z3)
  | 0, _, _, _, _, _ => g1_no
  | n + 1, z0, z1, z2, z3, h => g_f_M_endFamiliesOf_C2 (g_f_M_endFamiliesOf_L2 n) z0 z1 z2 z3 h
theorem g_f_M_endFamiliesOf {S0 : AS}  (S : AS) (a0 : Option Nat) (a1 : Int32) (hS : GF S0 S) : G1 S0 (f_M_endFamiliesOf S a0 a1) := by
  unfold f_M_endFamiliesOf
  exact g_f_M_endFamiliesOf_L2 _ _ _ _ _ hS
theorem g_f_M_endSession_B65 {S0 : AS} {k17 : AS → Option Nat → Int32 → Int32 → Int32 → Option (Int32 × AS)} (hk17 : ∀ (z0 : AS) (z1 : Option Nat) (z2 : Int32) (z3 : Int32) (z4 : Int32), GF S0 z0 → G2 S0 (k17 z0 z1 z2 z3 z4)) (S : AS) (x0 : Option Nat) (x1 : Int32) (x2 : Int32) (x3 : Int32) (hS : GF S0 S) : G2 S0 (f_M_endSession_B65 k17 S x0 x1 x2 x3) := by
  unfold f_M_endSession_B65
  refine g2_rd (fun i1 => ?_)
  exact hk17 _ _ _ _ _ hS
theorem g_f_M_endSession_C17 {S0 : AS} {k17 : AS → Option Nat → Int32 → Int32 → Int32 → Option (Int32 × AS)} (hk17 : ∀ (z0 : AS) (z1 : Option Nat) (z2 : Int32) (z3 : Int32) (z4 : Int32), GF S0 z0 → G2 S0 (k17 z0 z1 z2 z3 z4)) (S : AS) (x0 : Option Nat) (x1 : Int32) (x2 : Int32) (x3 : Int32) (hS : GF S0 S) : G2 S0 (f_M_endSession_C17 k17 S x0 x1 x2 x3) := by
  unfold f_M_endSession_C17
  refine g2_rd (fun v2 => ?_)
  refine g2_if ?_ ?_
  · refine g2_rd (fun u3 => ?_)
    refine g2_bd (g_f_M_endFamiliesOf _ _ _ hS) (fun S4 hS4 => ?_)
    exact g2_ret hS4
  · refine g2_rd (fun v5 => ?_)
    refine g2_rd (fun v6 => ?_)
    refine g2_if ?_ ?_
    · exact g_f_M_endSession_B65 hk17 _ _ _ _ _ hS
    · refine g2_rd (fun v7 => ?_)
      refine g2_rd (fun v8 => ?_)
      refine g2_if ?_ ?_
      · refine g2_rd (fun v9 => ?_)
        refine g2_bd (g1_bZ hS) (fun S10 hS10 => ?_)
        refine g2_rd (fun u11 => ?_)
        refine g2_bd (g_f_M_write _ _ _ _ hS10) (fun S12 hS12 => ?_)
        refine g2_rd (fun u13 => ?_)
        refine g2_bd (g_f_M_endFamiliesOf _ _ _ hS12) (fun S14 hS14 => ?_)
        refine g2_rd (fun i15 => ?_)
        exact g_f_M_endSession_B65 hk17 _ _ _ _ _ hS14
      · exact g_f_M_endSession_B65 hk17 _ _ _ _ _ hS
theorem g_f_M_endSession_L17 {S0 : AS}  : ∀ (n : Nat) (z0 : AS) (z1 : Option Nat) (z2 : Int32) (z3 : Int32) (z4 : Int32), GF S0 z0 → G2 S0 (f_M_endSession_L17 n z0 z1 z2 z3 z4)
  | 0, _, _, _, _, _, _ => g2_no
  | n + 1, z0, z1, z2, z3, z4, h => g_f_M_endSession_C17 (g_f_M_endSession_L17 n) z0 z1 z2 z3 z4 h
theorem g_f_M_endSession {S0 : AS}  (S : AS) (a0 : Option Nat) (a1 : Int32) (hS : GF S0 S) : G2 S0 (f_M_endSession S a0 a1) := by
  unfold f_M_endSession
  refine g2_rd (fun v16 => ?_)
  refine g2_bd (g1_bZ hS) (fun S17 hS17 => ?_)
  refine g2_rd (fun u18 => ?_)
  refine g2_bd (g_f_M_write _ _ _ _ hS17) (fun S19 hS19 => ?_)
  exact g_f_M_endSession_L17 _ _ _ _ _ _ hS19
theorem g_f_M_pass_B198 {S0 : AS} {k45 : AS → Option Nat → Int32 → Int32 → Int32 → Option (Int32 × AS)} (hk45 : ∀ (z0 : AS) (z1 : Option Nat) (z2 : Int32) (z3 : Int32) (z4 : Int32), GF S0 z0 → G2 S0 (k45 z0 z1 z2 z3 z4)) {k121 : AS → Option Nat → Int32 → Int32 → Int32 → Int32 → Option (Int32 × AS)} (hk121 : ∀ (z0 : AS) (z1 : Option Nat) (z2 : Int32) (z3 : Int32) (z4 : Int32) (z5 : Int32), GF S0 z0 → G2 S0 (k121 z0 z1 z2 z3 z4 z5)) (S : AS) (x0 : Option Nat) (x1 : Int32) (x4 : Int32) (x5 : Int32) (y0 : Int32) (y1 : Int32) (hS : GF S0 S) : G2 S0 (f_M_pass_B198 k45 k121 S x0 x1 x4 x5 y0 y1) := by
  unfold f_M_pass_B198
  refine g2_rd (fun i1 => ?_)
  refine g2_rd (fun i2 => ?_)
  exact hk121 _ _ _ _ _ _ hS
theorem g_f_M_pass_B180 {S0 : AS} {k45 : AS → Option Nat → Int32 → Int32 → Int32 → Option (Int32 × AS)} (hk45 : ∀ (z0 : AS) (z1 : Option Nat) (z2 : Int32) (z3 : Int32) (z4 : Int32), GF S0 z0 → G2 S0 (k45 z0 z1 z2 z3 z4)) {k121 : AS → Option Nat → Int32 → Int32 → Int32 → Int32 → Option (Int32 × AS)} (hk121 : ∀ (z0 : AS) (z1 : Option Nat) (z2 : Int32) (z3 : Int32) (z4 : Int32) (z5 : Int32), GF S0 z0 → G2 S0 (k121 z0 z1 z2 z3 z4 z5)) (S : AS) (x0 : Option Nat) (x1 : Int32) (x3 : Int32) (x4 : Int32) (x5 : Int32) (y0 : Int32) (hS : GF S0 S) : G2 S0 (f_M_pass_B180 k45 k121 S x0 x1 x3 x4 x5 y0) := by
  unfold f_M_pass_B180
  refine g2_if ?_ ?_
  · exact g_f_M_pass_B198 hk45 hk121 _ _ _ _ _ _ _ hS
  · refine g2_rd (fun u3 => ?_)
    refine g2_b2 (g_f_M_endSession _ _ _ hS) (fun v5 S4 hS4 => ?_)
    exact g_f_M_pass_B198 hk45 hk121 _ _ _ _ _ _ _ hS4
theorem g_f_M_pass_B175 {S0 : AS} {k45 : AS → Option Nat → Int32 → Int32 → Int32 → Option (Int32 × AS)} (hk45 : ∀ (z0 : AS) (z1 : Option Nat) (z2 : Int32) (z3 : Int32) (z4 : Int32), GF S0 z0 → G2 S0 (k45 z0 z1 z2 z3 z4)) {k121 : AS → Option Nat → Int32 → Int32 → Int32 → Int32 → Option (Int32 × AS)} (hk121 : ∀ (z0 : AS) (z1 : Option Nat) (z2 : Int32) (z3 : Int32) (z4 : Int32) (z5 : Int32), GF S0 z0 → G2 S0 (k121 z0 z1 z2 z3 z4 z5)) (S : AS) (x0 : Option Nat) (x1 : Int32) (x3 : Int32) (x4 : Int32) (x5 : Int32) (hS : GF S0 S) : G2 S0 (f_M_pass_B175 k45 k121 S x0 x1 x3 x4 x5) := by
  unfold f_M_pass_B175
  exact g_f_M_pass_B180 hk45 hk121 _ _ _ _ _ _ _ hS
theorem g_f_M_pass_B179 {S0 : AS} {k45 : AS → Option Nat → Int32 → Int32 → Int32 → Option (Int32 × AS)} (hk45 : ∀ (z0 : AS) (z1 : Option Nat) (z2 : Int32) (z3 : Int32) (z4 : Int32), GF S0 z0 → G2 S0 (k45 z0 z1 z2 z3 z4)) {k121 : AS → Option Nat → Int32 → Int32 → Int32 → Int32 → Option (Int32 × AS)} (hk121 : ∀ (z0 : AS) (z1 : Option Nat) (z2 : Int32) (z3 : Int32) (z4 : Int32) (z5 : Int32), GF S0 z0 → G2 S0 (k121 z0 z1 z2 z3 z4 z5)) (S : AS) (x0 : Option Nat) (x1 : Int32) (x3 : Int32) (x4 : Int32) (x5 : Int32) (hS : GF S0 S) : G2 S0 (f_M_pass_B179 k45 k121 S x0 x1 x3 x4 x5) := by
  unfold f_M_pass_B179
  exact g_f_M_pass_B180 hk45 hk121 _ _ _ _ _ _ _ hS
theorem g_f_M_pass_C121 {S0 : AS} {k45 : AS → Option Nat → Int32 → Int32 → Int32 → Option (Int32 × AS)} (hk45 : ∀ (z0 : AS) (z1 : Option Nat) (z2 : Int32) (z3 : Int32) (z4 : Int32), GF S0 z0 → G2 S0 (k45 z0 z1 z2 z3 z4)) {k121 : AS → Option Nat → Int32 → Int32 → Int32 → Int32 → Option (Int32 × AS)} (hk121 : ∀ (z0 : AS) (z1 : Option Nat) (z2 : Int32) (z3 : Int32) (z4 : Int32) (z5 : Int32), GF S0 z0 → G2 S0 (k121 z0 z1 z2 z3 z4 z5)) (S : AS) (x0 : Option Nat) (x1 : Int32) (x3 : Int32) (x4 : Int32) (x5 : Int32) (hS : GF S0 S) : G2 S0 (f_M_pass_C121 k45 k121 S x0 x1 x3 x4 x5) := by
  unfold f_M_pass_C121
  refine g2_rd (fun v6 => ?_)
  refine g2_if ?_ ?_
  · refine g2_rd (fun i7 => ?_)
    exact hk45 _ _ _ _ _ hS
  · refine g2_rd (fun v8 => ?_)
    refine g2_rd (fun v9 => ?_)
    refine g2_if ?_ ?_
    · exact g_f_M_pass_B179 hk45 hk121 _ _ _ _ _ _ hS
    · refine g2_rd (fun v10 => ?_)
      refine g2_rd (fun v11 => ?_)
      refine g2_rd (fun v12 => ?_)
      refine g2_if ?_ ?_
      · exact g_f_M_pass_B175 hk45 hk121 _ _ _ _ _ _ hS
      · refine g2_rd (fun v13 => ?_)
        refine g2_rd (fun v14 => ?_)
        refine g2_rd (fun v15 => ?_)
        refine g2_if ?_ ?_
        · exact g_f_M_pass_B179 hk45 hk121 _ _ _ _ _ _ hS
        · exact g_f_M_pass_B175 hk45 hk121 _ _ _ _ _ _ hS
theorem g_f_M_pass_L121 {S0 : AS} {k45 : AS → Option Nat → Int32 → Int32 → Int32 → Option (Int32 × AS)} (hk45 : ∀ (z0 : AS) (z1 : Option Nat) (z2 : Int32) (z3 : Int32) (z4 : Int32), GF S0 z0 → G2 S0 (k45 z0 z1 z2 z3 z4)) : ∀ (n : Nat) (z0 : AS) (z1 : Option Nat) (z2 : Int32) (z3 : Int32) (z4 : Int32) (z5 : Int32), GF S0 z0 → G2 S0 (f_M_pass_L121 k45 n z0 z1 z2 z3 z4 z5)
  | 0, _, _, _, _, _, _, _ => g2_no
  | n + 1, z0, z1, z2, z3, z4, z5, h => g_f_M_pass_C121 hk45 (g_f_M_pass_L121 hk45 n) z0 z1 z2 z3 z4 z5 h
theorem g_f_M_pass_B118 {S0 : AS} {k45 : AS → Option Nat → Int32 → Int32 → Int32 → Option (Int32 × AS)} (hk45 : ∀ (z0 : AS) (z1 : Option Nat) (z2 : Int32) (z3 : Int32) (z4 : Int32), GF S0 z0 → G2 S0 (k45 z0 z1 z2 z3 z4)) (S : AS) (x0 : Option Nat) (x1 : Int32) (x3 : Int32) (x4 : Int32) (hS : GF S0 S) : G2 S0 (f_M_pass_B118 k45 S x0 x1 x3 x4) := by
  unfold f_M_pass_B118
  exact g_f_M_pass_L121 hk45 _ _ _ _ _ _ _ hS
theorem g_f_M_pass_C45 {S0 : AS} {k45 : AS → Option Nat → Int32 → Int32 → Int32 → Option (Int32 × AS)} (hk45 : ∀ (z0 : AS) (z1 : Option Nat) (z2 : Int32) (z3 : Int32) (z4 : Int32), GF S0 z0 → G2 S0 (k45 z0 z1 z2 z3 z4)) (S : AS) (x0 : Option Nat) (x1 : Int32) (x3 : Int32) (x4 : Int32) (hS : GF S0 S) : G2 S0 (f_M_pass_C45 k45 S x0 x1 x3 x4) := by
  unfold f_M_pass_C45
  refine g2_if ?_ ?_
  · exact g2_ret hS
  · refine g2_rd (fun v16 => ?_)
    refine g2_bd (g1_pI hS) (fun S17 hS17 => ?_)
    refine g2_rd (fun v18 => ?_)
    refine g2_if ?_ ?_
    · exact g_f_M_pass_B118 hk45 _ _ _ _ _ hS17
    · refine g2_rd (fun v19 => ?_)
      refine g2_rd (fun v20 => ?_)
      refine g2_if ?_ ?_
      · exact g_f_M_pass_B118 hk45 _ _ _ _ _ hS17
      · refine g2_rd (fun v21 => ?_)
        refine g2_rd (fun v22 => ?_)
        refine g2_rd (fun v23 => ?_)
        refine g2_bd (g1_bI hS17) (fun S24 hS24 => ?_)
        refine g2_rd (fun v25 => ?_)
        refine g2_bd (g1_pI hS24) (fun S26 hS26 => ?_)
        refine g2_bd (g1_pI hS26) (fun S27 hS27 => ?_)
        refine g2_rd (fun v28 => ?_)
        refine g2_rd (fun u29 => ?_)
        refine g2_bd (g_f_M_write _ _ _ _ hS27) (fun S30 hS30 => ?_)
        exact g_f_M_pass_B118 hk45 _ _ _ _ _ hS30
theorem g_f_M_pass_L45 {S0 : AS}  : ∀ (n : Nat) (z0 : AS) (z1 : Option Nat) (z2 : Int32) (z3 : Int32) (z4 : Int32), GF S0 z0 → G2 S0 (f_M_pass_L45 n z0 z1 z2 z3 z4)
  | 0, _, _, _, _, _, _ => g2_no
  | n + 1, z0, z1, z2, z3, z4, h => g_f_M_pass_C45 (g_f_M_pass_L45 n) z0 z1 z2 z3 z4 h
theorem g_f_M_pass_B32 {S0 : AS}  (S : AS) (x0 : Option Nat) (x1 : Int32) (y0 : Option Nat) (y1 : Int32) (y2 : Int32) (hS : GF S0 S) : G2 S0 (f_M_pass_B32 S x0 x1 y0 y1 y2) := by
  unfold f_M_pass_B32
  refine g2_rd (fun u31 => ?_)
  refine g2_b2 (g_f_M_mayBoth _ _ _ _ hS) (fun v33 S32 hS32 => ?_)
  refine g2_if ?_ ?_
  · exact g2_ret hS32
  · exact g_f_M_pass_L45 _ _ _ _ _ _ hS32
theorem g_f_M_pass_B31 {S0 : AS}  (S : AS) (x0 : Option Nat) (x1 : Int32) (y0 : Option Nat) (y1 : Int32) (hS : GF S0 S) : G2 S0 (f_M_pass_B31 S x0 x1 y0 y1) := by
  unfold f_M_pass_B31
  exact g_f_M_pass_B32 _ _ _ _ _ _ hS
theorem g_f_M_pass {S0 : AS}  (S : AS) (a0 : Option Nat) (a1 : Int32) (hS : GF S0 S) : G2 S0 (f_M_pass S a0 a1) := by
  unfold f_M_pass
  refine g2_b2 (g_f_M_isIn _ _ _ _ hS) (fun v35 S34 hS34 => ?_)
  refine g2_if ?_ ?_
  · exact g_f_M_pass_B31 _ _ _ _ _ hS34
  · refine g2_rd (fun v36 => ?_)
    refine g2_if ?_ ?_
    · exact g_f_M_pass_B31 _ _ _ _ _ hS34
    · exact g_f_M_pass_B32 _ _ _ _ _ _ hS34
theorem g_f_M_thrown {S0 : AS}  (S : AS) (a0 : Option Nat) (hS : GF S0 S) : G2 S0 (f_M_thrown S a0) := by
  unfold f_M_thrown
  refine g2_rd (fun v1 => ?_)
  exact g2_ret hS
theorem g_f_M_isSix {S0 : AS}  (S : AS) (a0 : Int32) (hS : GF S0 S) : G2 S0 (f_M_isSix S a0) := by
  unfold f_M_isSix
  refine g2_b2 (g_f_M_isIn _ _ _ _ hS) (fun v2 S1 hS1 => ?_)
  refine g2_rd (fun u3 => ?_)
  exact g2_ret hS1
theorem g_f_M_isFactor {S0 : AS}  (S : AS) (a0 : Int32) (hS : GF S0 S) : G2 S0 (f_M_isFactor S a0) := by
  unfold f_M_isFactor
  refine g2_b2 (g_f_M_isIn _ _ _ _ hS) (fun v2 S1 hS1 => ?_)
  refine g2_rd (fun u3 => ?_)
  exact g2_ret hS1
theorem g_f_M_ready {S0 : AS}  (S : AS) (a0 : Option Nat) (a1 : Int32) (a2 : Int32) (hS : GF S0 S) : G1 S0 (f_M_ready S a0 a1 a2) := by
  unfold f_M_ready
  refine g1_rd (fun v1 => ?_)
  refine g1_bd (g1_bI hS) (fun S2 hS2 => ?_)
  refine g1_rd (fun v3 => ?_)
  refine g1_bd (g1_bI hS2) (fun S4 hS4 => ?_)
  refine g1_if ?_ ?_
  · refine g1_rd (fun v5 => ?_)
    refine g1_bd (g1_bI hS4) (fun S6 hS6 => ?_)
    exact g1_ret hS6
  · exact g1_ret hS4
theorem g_f_M_enroll {S0 : AS}  (S : AS) (a0 : Option Nat) (a1 : Int32) (a2 : Int32) (hS : GF S0 S) : G2 S0 (f_M_enroll S a0 a1 a2) := by
  unfold f_M_enroll
  refine g2_b2 (g_f_M_isSix _ _ hS) (fun v2 S1 hS1 => ?_)
  refine g2_b2 (g_f_M_isFactor _ _ hS1) (fun v4 S3 hS3 => ?_)
  refine g2_rd (fun u5 => ?_)
  refine g2_b2 (g_f_M_mayBoth _ _ _ _ hS3) (fun v7 S6 hS6 => ?_)
  refine g2_if ?_ ?_
  · exact g2_ret hS6
  · refine g2_rd (fun v8 => ?_)
    refine g2_rd (fun v9 => ?_)
    refine g2_rd (fun u10 => ?_)
    refine g2_bd (g_f_M_ready _ _ _ _ hS6) (fun S11 hS11 => ?_)
    exact g2_ret hS11
theorem g_f_M_factor {S0 : AS}  (S : AS) (a0 : Option Nat) (a1 : Int32) (a2 : Int32) (hS : GF S0 S) : G2 S0 (f_M_factor S a0 a1 a2) := by
  unfold f_M_factor
  refine g2_b2 (g_f_M_isSix _ _ hS) (fun v2 S1 hS1 => ?_)
  refine g2_b2 (g_f_M_isFactor _ _ hS1) (fun v4 S3 hS3 => ?_)
  refine g2_rd (fun u5 => ?_)
  refine g2_b2 (g_f_M_mayBoth _ _ _ _ hS3) (fun v7 S6 hS6 => ?_)
  refine g2_if ?_ ?_
  · exact g2_ret hS6
  · refine g2_rd (fun v8 => ?_)
    refine g2_rd (fun v9 => ?_)
    exact g2_ret hS6
theorem g_f_M_isNext {S0 : AS}  (S : AS) (a0 : Int32) (hS : GF S0 S) : G2 S0 (f_M_isNext S a0) := by
  unfold f_M_isNext
  refine g2_b2 (g_f_M_isIn _ _ _ _ hS) (fun v2 S1 hS1 => ?_)
  refine g2_rd (fun u3 => ?_)
  exact g2_ret hS1
theorem g_f_M_step_B136 {S0 : AS}  (S : AS) (x0 : Option Nat) (x1 : Int32) (x2 : Int32) (x3 : Int32) (x4 : Int32) (x5 : Int32) (y0 : Option Nat) (y1 : Int32) (y2 : Int32) (hS : GF S0 S) : G2 S0 (f_M_step_B136 S x0 x1 x2 x3 x4 x5 y0 y1 y2) := by
  unfold f_M_step_B136
  refine g2_rd (fun u1 => ?_)
  refine g2_b2 (g_f_M_mayBoth _ _ _ _ hS) (fun v3 S2 hS2 => ?_)
  refine g2_if ?_ ?_
  · exact g2_ret hS2
  · refine g2_rd (fun v4 => ?_)
    refine g2_rd (fun v5 => ?_)
    refine g2_rd (fun i6 => ?_)
    refine g2_rd (fun v7 => ?_)
    refine g2_bd (g1_bI hS2) (fun S8 hS8 => ?_)
    refine g2_rd (fun v9 => ?_)
    refine g2_bd (g1_bI hS8) (fun S10 hS10 => ?_)
    refine g2_rd (fun v11 => ?_)
    refine g2_bd (g1_bI hS10) (fun S12 hS12 => ?_)
    refine g2_rd (fun v13 => ?_)
    refine g2_bd (g1_bI hS12) (fun S14 hS14 => ?_)
    refine g2_rd (fun v15 => ?_)
    refine g2_bd (g1_bI hS14) (fun S16 hS16 => ?_)
    refine g2_rd (fun v17 => ?_)
    refine g2_rd (fun v18 => ?_)
    refine g2_bd (g1_bI hS16) (fun S19 hS19 => ?_)
    refine g2_rd (fun v20 => ?_)
    refine g2_rd (fun v21 => ?_)
    exact g2_ret hS19
theorem g_f_M_step_B114 {S0 : AS}  (S : AS) (x0 : Option Nat) (x1 : Int32) (x2 : Int32) (x3 : Int32) (x4 : Int32) (x5 : Int32) (y0 : Int32) (hS : GF S0 S) : G2 S0 (f_M_step_B114 S x0 x1 x2 x3 x4 x5 y0) := by
  unfold f_M_step_B114
  refine g2_rd (fun v22 => ?_)
  refine g2_rd (fun v23 => ?_)
  refine g2_if ?_ ?_
  · exact g_f_M_step_B136 _ _ _ _ _ _ _ _ _ _ hS
  · exact g_f_M_step_B136 _ _ _ _ _ _ _ _ _ _ hS
theorem g_f_M_step_B109 {S0 : AS}  (S : AS) (x0 : Option Nat) (x1 : Int32) (x2 : Int32) (x3 : Int32) (x4 : Int32) (x5 : Int32) (hS : GF S0 S) : G2 S0 (f_M_step_B109 S x0 x1 x2 x3 x4 x5) := by
  unfold f_M_step_B109
  exact g_f_M_step_B114 _ _ _ _ _ _ _ _ hS
theorem g_f_M_step_B113 {S0 : AS}  (S : AS) (x0 : Option Nat) (x1 : Int32) (x2 : Int32) (x3 : Int32) (x4 : Int32) (x5 : Int32) (hS : GF S0 S) : G2 S0 (f_M_step_B113 S x0 x1 x2 x3 x4 x5) := by
  unfold f_M_step_B113
  exact g_f_M_step_B114 _ _ _ _ _ _ _ _ hS
theorem g_f_M_step_B81 {S0 : AS}  (S : AS) (x0 : Option Nat) (x1 : Int32) (x2 : Int32) (x3 : Int32) (x4 : Int32) (x5 : Int32) (y0 : Int32) (hS : GF S0 S) : G2 S0 (f_M_step_B81 S x0 x1 x2 x3 x4 x5 y0) := by
  unfold f_M_step_B81
  refine g2_if ?_ ?_
  · exact g_f_M_step_B113 _ _ _ _ _ _ _ hS
  · refine g2_if ?_ ?_
    · exact g_f_M_step_B109 _ _ _ _ _ _ _ hS
    · refine g2_b2 (g_f_M_isNext _ _ hS) (fun v25 S24 hS24 => ?_)
      refine g2_if ?_ ?_
      · exact g_f_M_step_B113 _ _ _ _ _ _ _ hS24
      · refine g2_b2 (g_f_M_isNext _ _ hS24) (fun v27 S26 hS26 => ?_)
        refine g2_if ?_ ?_
        · exact g_f_M_step_B113 _ _ _ _ _ _ _ hS26
        · exact g_f_M_step_B109 _ _ _ _ _ _ _ hS26
theorem g_f_M_step_B76 {S0 : AS}  (S : AS) (x0 : Option Nat) (x1 : Int32) (x2 : Int32) (x3 : Int32) (x4 : Int32) (x5 : Int32) (hS : GF S0 S) : G2 S0 (f_M_step_B76 S x0 x1 x2 x3 x4 x5) := by
  unfold f_M_step_B76
  exact g_f_M_step_B81 _ _ _ _ _ _ _ _ hS
theorem g_f_M_step_B80 {S0 : AS}  (S : AS) (x0 : Option Nat) (x1 : Int32) (x2 : Int32) (x3 : Int32) (x4 : Int32) (x5 : Int32) (hS : GF S0 S) : G2 S0 (f_M_step_B80 S x0 x1 x2 x3 x4 x5) := by
  unfold f_M_step_B80
  exact g_f_M_step_B81 _ _ _ _ _ _ _ _ hS
theorem g_f_M_step_B34 {S0 : AS}  (S : AS) (x0 : Option Nat) (x1 : Int32) (x2 : Int32) (x3 : Int32) (x4 : Int32) (x5 : Int32) (y0 : Int32) (hS : GF S0 S) : G2 S0 (f_M_step_B34 S x0 x1 x2 x3 x4 x5 y0) := by
  unfold f_M_step_B34
  refine g2_b2 (g_f_M_isIn _ _ _ _ hS) (fun v29 S28 hS28 => ?_)
  refine g2_if ?_ ?_
  · exact g_f_M_step_B80 _ _ _ _ _ _ _ hS28
  · refine g2_b2 (g_f_M_isIn _ _ _ _ hS28) (fun v31 S30 hS30 => ?_)
    refine g2_if ?_ ?_
    · exact g_f_M_step_B80 _ _ _ _ _ _ _ hS30
    · refine g2_if ?_ ?_
      · refine g2_b2 (g_f_M_isIn _ _ _ _ hS30) (fun v33 S32 hS32 => ?_)
        refine g2_if ?_ ?_
        · exact g_f_M_step_B80 _ _ _ _ _ _ _ hS32
        · exact g_f_M_step_B76 _ _ _ _ _ _ _ hS32
      · refine g2_if ?_ ?_
        · exact g_f_M_step_B76 _ _ _ _ _ _ _ hS30
        · exact g_f_M_step_B80 _ _ _ _ _ _ _ hS30
theorem g_f_M_step_B9 {S0 : AS}  (S : AS) (x0 : Option Nat) (x1 : Int32) (x2 : Int32) (x3 : Int32) (x4 : Int32) (x5 : Int32) (hS : GF S0 S) : G2 S0 (f_M_step_B9 S x0 x1 x2 x3 x4 x5) := by
  unfold f_M_step_B9
  exact g_f_M_step_B34 _ _ _ _ _ _ _ _ hS
theorem g_f_M_step {S0 : AS}  (S : AS) (a0 : Option Nat) (a1 : Int32) (a2 : Int32) (a3 : Int32) (a4 : Int32) (a5 : Int32) (hS : GF S0 S) : G2 S0 (f_M_step S a0 a1 a2 a3 a4 a5) := by
  unfold f_M_step
  refine g2_if ?_ ?_
  · exact g_f_M_step_B9 _ _ _ _ _ _ _ hS
  · refine g2_if ?_ ?_
    · exact g_f_M_step_B9 _ _ _ _ _ _ _ hS
    · refine g2_if ?_ ?_
      · exact g_f_M_step_B34 _ _ _ _ _ _ _ _ hS
      · refine g2_if ?_ ?_
        · exact g_f_M_step_B34 _ _ _ _ _ _ _ _ hS
        · exact g_f_M_step_B34 _ _ _ _ _ _ _ _ hS
theorem g_f_M_clear {S0 : AS}  (S : AS) (a0 : Option Nat) (hS : GF S0 S) : G2 S0 (f_M_clear S a0) := by
  unfold f_M_clear
  refine g2_bd (g1_pI hS) (fun S1 hS1 => ?_)
  refine g2_rd (fun v2 => ?_)
  refine g2_rd (fun v3 => ?_)
  refine g2_rd (fun v4 => ?_)
  refine g2_bd (g1_bI hS1) (fun S5 hS5 => ?_)
  exact g2_ret hS5
theorem g_f_M_isTest {S0 : AS}  (S : AS) (a0 : Int32) (hS : GF S0 S) : G2 S0 (f_M_isTest S a0) := by
  unfold f_M_isTest
  refine g2_if ?_ ?_
  · exact g2_ret hS
  · refine g2_if ?_ ?_
    · exact g2_ret hS
    · exact g2_ret hS
theorem g_f_M_circles_B137 {S0 : AS} {k9 : AS → Option Nat → Int32 → Int32 → Int32 → Int32 → Option (Int32 × AS)} (hk9 : ∀ (z0 : AS) (z1 : Option Nat) (z2 : Int32) (z3 : Int32) (z4 : Int32) (z5 : Int32), GF S0 z0 → G2 S0 (k9 z0 z1 z2 z3 z4 z5)) {k19 : AS → Option Nat → Int32 → Int32 → Int32 → Int32 → Int32 → Option (Int32 × AS)} (hk19 : ∀ (z0 : AS) (z1 : Option Nat) (z2 : Int32) (z3 : Int32) (z4 : Int32) (z5 : Int32) (z6 : Int32), GF S0 z0 → G2 S0 (k19 z0 z1 z2 z3 z4 z5 z6)) (S : AS) (x0 : Option Nat) (x1 : Int32) (x2 : Int32) (x3 : Int32) (x4 : Int32) (x5 : Int32) (hS : GF S0 S) : G2 S0 (f_M_circles_B137 k9 k19 S x0 x1 x2 x3 x4 x5) := by
  unfold f_M_circles_B137
  refine g2_rd (fun i1 => ?_)
  exact hk19 _ _ _ _ _ _ _ hS
theorem g_f_M_circles_B135 {S0 : AS} {k9 : AS → Option Nat → Int32 → Int32 → Int32 → Int32 → Option (Int32 × AS)} (hk9 : ∀ (z0 : AS) (z1 : Option Nat) (z2 : Int32) (z3 : Int32) (z4 : Int32) (z5 : Int32), GF S0 z0 → G2 S0 (k9 z0 z1 z2 z3 z4 z5)) {k19 : AS → Option Nat → Int32 → Int32 → Int32 → Int32 → Int32 → Option (Int32 × AS)} (hk19 : ∀ (z0 : AS) (z1 : Option Nat) (z2 : Int32) (z3 : Int32) (z4 : Int32) (z5 : Int32) (z6 : Int32), GF S0 z0 → G2 S0 (k19 z0 z1 z2 z3 z4 z5 z6)) (S : AS) (x0 : Option Nat) (x1 : Int32) (x2 : Int32) (x4 : Int32) (x5 : Int32) (y0 : Int32) (y1 : Int32) (hS : GF S0 S) : G2 S0 (f_M_circles_B135 k9 k19 S x0 x1 x2 x4 x5 y0 y1) := by
  unfold f_M_circles_B135
  refine g2_rd (fun i2 => ?_)
  exact g_f_M_circles_B137 hk9 hk19 _ _ _ _ _ _ _ hS
theorem g_f_M_circles_B119 {S0 : AS} {k9 : AS → Option Nat → Int32 → Int32 → Int32 → Int32 → Option (Int32 × AS)} (hk9 : ∀ (z0 : AS) (z1 : Option Nat) (z2 : Int32) (z3 : Int32) (z4 : Int32) (z5 : Int32), GF S0 z0 → G2 S0 (k9 z0 z1 z2 z3 z4 z5)) {k19 : AS → Option Nat → Int32 → Int32 → Int32 → Int32 → Int32 → Option (Int32 × AS)} (hk19 : ∀ (z0 : AS) (z1 : Option Nat) (z2 : Int32) (z3 : Int32) (z4 : Int32) (z5 : Int32) (z6 : Int32), GF S0 z0 → G2 S0 (k19 z0 z1 z2 z3 z4 z5 z6)) (S : AS) (x0 : Option Nat) (x1 : Int32) (x2 : Int32) (x4 : Int32) (x5 : Int32) (x7 : Int32) (y0 : Int32) (y1 : Int32) (hS : GF S0 S) : G2 S0 (f_M_circles_B119 k9 k19 S x0 x1 x2 x4 x5 x7 y0 y1) := by
  unfold f_M_circles_B119
  refine g2_rd (fun i3 => ?_)
  refine g2_if ?_ ?_
  · exact g_f_M_circles_B135 hk9 hk19 _ _ _ _ _ _ _ _ hS
  · exact g_f_M_circles_B135 hk9 hk19 _ _ _ _ _ _ _ _ hS
theorem g_f_M_circles_B103 {S0 : AS} {k9 : AS → Option Nat → Int32 → Int32 → Int32 → Int32 → Option (Int32 × AS)} (hk9 : ∀ (z0 : AS) (z1 : Option Nat) (z2 : Int32) (z3 : Int32) (z4 : Int32) (z5 : Int32), GF S0 z0 → G2 S0 (k9 z0 z1 z2 z3 z4 z5)) {k19 : AS → Option Nat → Int32 → Int32 → Int32 → Int32 → Int32 → Option (Int32 × AS)} (hk19 : ∀ (z0 : AS) (z1 : Option Nat) (z2 : Int32) (z3 : Int32) (z4 : Int32) (z5 : Int32) (z6 : Int32), GF S0 z0 → G2 S0 (k19 z0 z1 z2 z3 z4 z5 z6)) (S : AS) (x0 : Option Nat) (x1 : Int32) (x2 : Int32) (x3 : Int32) (x5 : Int32) (x6 : Int32) (x7 : Int32) (y0 : Int32) (hS : GF S0 S) : G2 S0 (f_M_circles_B103 k9 k19 S x0 x1 x2 x3 x5 x6 x7 y0) := by
  unfold f_M_circles_B103
  refine g2_if ?_ ?_
  · exact g_f_M_circles_B119 hk9 hk19 _ _ _ _ _ _ _ _ _ hS
  · exact g_f_M_circles_B119 hk9 hk19 _ _ _ _ _ _ _ _ _ hS
theorem g_f_M_circles_B98 {S0 : AS} {k9 : AS → Option Nat → Int32 → Int32 → Int32 → Int32 → Option (Int32 × AS)} (hk9 : ∀ (z0 : AS) (z1 : Option Nat) (z2 : Int32) (z3 : Int32) (z4 : Int32) (z5 : Int32), GF S0 z0 → G2 S0 (k9 z0 z1 z2 z3 z4 z5)) {k19 : AS → Option Nat → Int32 → Int32 → Int32 → Int32 → Int32 → Option (Int32 × AS)} (hk19 : ∀ (z0 : AS) (z1 : Option Nat) (z2 : Int32) (z3 : Int32) (z4 : Int32) (z5 : Int32) (z6 : Int32), GF S0 z0 → G2 S0 (k19 z0 z1 z2 z3 z4 z5 z6)) (S : AS) (x0 : Option Nat) (x1 : Int32) (x2 : Int32) (x3 : Int32) (x5 : Int32) (x6 : Int32) (x7 : Int32) (hS : GF S0 S) : G2 S0 (f_M_circles_B98 k9 k19 S x0 x1 x2 x3 x5 x6 x7) := by
  unfold f_M_circles_B98
  exact g_f_M_circles_B103 hk9 hk19 _ _ _ _ _ _ _ _ _ hS
theorem g_f_M_circles_C19 {S0 : AS} {k9 : AS → Option Nat → Int32 → Int32 → Int32 → Int32 → Option (Int32 × AS)} (hk9 : ∀ (z0 : AS) (z1 : Option Nat) (z2 : Int32) (z3 : Int32) (z4 : Int32) (z5 : Int32), GF S0 z0 → G2 S0 (k9 z0 z1 z2 z3 z4 z5)) {k19 : AS → Option Nat → Int32 → Int32 → Int32 → Int32 → Int32 → Option (Int32 × AS)} (hk19 : ∀ (z0 : AS) (z1 : Option Nat) (z2 : Int32) (z3 : Int32) (z4 : Int32) (z5 : Int32) (z6 : Int32), GF S0 z0 → G2 S0 (k19 z0 z1 z2 z3 z4 z5 z6)) (S : AS) (x0 : Option Nat) (x1 : Int32) (x2 : Int32) (x3 : Int32) (x4 : Int32) (x5 : Int32) (hS : GF S0 S) : G2 S0 (f_M_circles_C19 k9 k19 S x0 x1 x2 x3 x4 x5) := by
  unfold f_M_circles_C19
  refine g2_rd (fun v4 => ?_)
  refine g2_rd (fun v5 => ?_)
  refine g2_if ?_ ?_
  · exact hk9 _ _ _ _ _ _ hS
  · refine g2_if ?_ ?_
    · refine g2_rd (fun v6 => ?_)
      refine g2_rd (fun v7 => ?_)
      refine g2_b2 (g_f_M_isTest _ _ hS) (fun v9 S8 hS8 => ?_)
      refine g2_if ?_ ?_
      · exact g_f_M_circles_B137 hk9 hk19 _ _ _ _ _ _ _ hS8
      · refine g2_rd (fun v10 => ?_)
        refine g2_rd (fun v11 => ?_)
        refine g2_rd (fun v12 => ?_)
        refine g2_rd (fun v13 => ?_)
        refine g2_if ?_ ?_
        · refine g2_if ?_ ?_
          · exact g_f_M_circles_B98 hk9 hk19 _ _ _ _ _ _ _ _ hS8
          · refine g2_if ?_ ?_
            · exact g_f_M_circles_B98 hk9 hk19 _ _ _ _ _ _ _ _ hS8
            · exact g_f_M_circles_B103 hk9 hk19 _ _ _ _ _ _ _ _ _ hS8
        · exact g_f_M_circles_B98 hk9 hk19 _ _ _ _ _ _ _ _ hS8
    · exact g_f_M_circles_B137 hk9 hk19 _ _ _ _ _ _ _ hS
theorem g_f_M_circles_L19 {S0 : AS} {k9 : AS → Option Nat → Int32 → Int32 → Int32 → Int32 → Option (Int32 × AS)} (hk9 : ∀ (z0 : AS) (z1 : Option Nat) (z2 : Int32) (z3 : Int32) (z4 : Int32) (z5 : Int32), GF S0 z0 → G2 S0 (k9 z0 z1 z2 z3 z4 z5)) : ∀ (n : Nat) (z0 : AS) (z1 : Option Nat) (z2 : Int32) (z3 : Int32) (z4 : Int32) (z5 : Int32) (z6 : Int32), GF S0 z0 → G2 S0 (f_M_circles_L19 k9 n z0 z1 z2 z3 z4 z5 z6)
  | 0, _, _, _, _, _, _, _, _ => g2_no
  | n + 1, z0, z1, z2, z3, z4, z5, z6, h => g_f_M_circles_C19 hk9 (g_f_M_circles_L19 hk9 n) z0 z1 z2 z3 z4 z5 z6 h
theorem g_f_M_circles_C9 {S0 : AS} {k9 : AS → Option Nat → Int32 → Int32 → Int32 → Int32 → Option (Int32 × AS)} (hk9 : ∀ (z0 : AS) (z1 : Option Nat) (z2 : Int32) (z3 : Int32) (z4 : Int32) (z5 : Int32), GF S0 z0 → G2 S0 (k9 z0 z1 z2 z3 z4 z5)) (S : AS) (x0 : Option Nat) (x1 : Int32) (x2 : Int32) (x3 : Int32) (x4 : Int32) (hS : GF S0 S) : G2 S0 (f_M_circles_C9 k9 S x0 x1 x2 x3 x4) := by
  unfold f_M_circles_C9
  refine g2_if ?_ ?_
  · refine g2_rd (fun u14 => ?_)
    exact g2_ret hS
  · exact g_f_M_circles_L19 hk9 _ _ _ _ _ _ _ _ hS
theorem g_f_M_circles_L9 {S0 : AS}  : ∀ (n : Nat) (z0 : AS) (z1 : Option Nat) (z2 : Int32) (z3 : Int32) (z4 : Int32) (z5 : Int32), GF S0 z0 → G2 S0 (f_M_circles_L9 n z0 z1 z2 z3 z4 z5)
  | 0, _, _, _, _, _, _, _ => g2_no
  | n + 1, z0, z1, z2, z3, z4, z5, h => g_f_M_circles_C9 (g_f_M_circles_L9 n) z0 z1 z2 z3 z4 z5 h
theorem g_f_M_circles {S0 : AS}  (S : AS) (a0 : Option Nat) (a1 : Int32) (hS : GF S0 S) : G2 S0 (f_M_circles S a0 a1) := by
  unfold f_M_circles
  refine g2_rd (fun i15 => ?_)
  exact g_f_M_circles_L9 _ _ _ _ _ _ _ hS
theorem g_f_M_may {S0 : AS}  (S : AS) (a0 : Option Nat) (a1 : Int32) (hS : GF S0 S) : G2 S0 (f_M_may S a0 a1) := by
  unfold f_M_may
  refine g2_if ?_ ?_
  · refine g2_bd (g1_pI hS) (fun S1 hS1 => ?_)
    refine g2_rd (fun u2 => ?_)
    exact g2_ret hS1
  · refine g2_bd (g1_pI hS) (fun S3 hS3 => ?_)
    refine g2_rd (fun u4 => ?_)
    exact g2_ret hS3
theorem g_f_M_publish_B94 {S0 : AS} {k27 : AS → Option Nat → Int32 → Int32 → Option (Int32 × AS)} (hk27 : ∀ (z0 : AS) (z1 : Option Nat) (z2 : Int32) (z3 : Int32), GF S0 z0 → G2 S0 (k27 z0 z1 z2 z3)) (S : AS) (x0 : Option Nat) (x2 : Int32) (y0 : Int32) (hS : GF S0 S) : G2 S0 (f_M_publish_B94 k27 S x0 x2 y0) := by
  unfold f_M_publish_B94
  refine g2_rd (fun i1 => ?_)
  exact hk27 _ _ _ _ hS
theorem g_f_M_publish_B89 {S0 : AS} {k27 : AS → Option Nat → Int32 → Int32 → Option (Int32 × AS)} (hk27 : ∀ (z0 : AS) (z1 : Option Nat) (z2 : Int32) (z3 : Int32), GF S0 z0 → G2 S0 (k27 z0 z1 z2 z3)) (S : AS) (x0 : Option Nat) (x2 : Int32) (hS : GF S0 S) : G2 S0 (f_M_publish_B89 k27 S x0 x2) := by
  unfold f_M_publish_B89
  exact g_f_M_publish_B94 hk27 _ _ _ _ hS
theorem g_f_M_publish_B93 {S0 : AS} {k27 : AS → Option Nat → Int32 → Int32 → Option (Int32 × AS)} (hk27 : ∀ (z0 : AS) (z1 : Option Nat) (z2 : Int32) (z3 : Int32), GF S0 z0 → G2 S0 (k27 z0 z1 z2 z3)) (S : AS) (x0 : Option Nat) (x2 : Int32) (hS : GF S0 S) : G2 S0 (f_M_publish_B93 k27 S x0 x2) := by
  unfold f_M_publish_B93
  exact g_f_M_publish_B94 hk27 _ _ _ _ hS
theorem g_f_M_publish_B146 {S0 : AS} {k103 : AS → Option Nat → Int32 → Int32 → Option (Int32 × AS)} (hk103 : ∀ (z0 : AS) (z1 : Option Nat) (z2 : Int32) (z3 : Int32), GF S0 z0 → G2 S0 (k103 z0 z1 z2 z3)) (S : AS) (x0 : Option Nat) (x2 : Int32) (y0 : Int32) (hS : GF S0 S) : G2 S0 (f_M_publish_B146 k103 S x0 x2 y0) := by
  unfold f_M_publish_B146
  refine g2_rd (fun i2 => ?_)
  exact hk103 _ _ _ _ hS
theorem g_f_M_publish_B141 {S0 : AS} {k103 : AS → Option Nat → Int32 → Int32 → Option (Int32 × AS)} (hk103 : ∀ (z0 : AS) (z1 : Option Nat) (z2 : Int32) (z3 : Int32), GF S0 z0 → G2 S0 (k103 z0 z1 z2 z3)) (S : AS) (x0 : Option Nat) (x2 : Int32) (hS : GF S0 S) : G2 S0 (f_M_publish_B141 k103 S x0 x2) := by
  unfold f_M_publish_B141
  exact g_f_M_publish_B146 hk103 _ _ _ _ hS
theorem g_f_M_publish_C165 {S0 : AS} {k165 : AS → Option Nat → Int32 → Option (Int32 × AS)} (hk165 : ∀ (z0 : AS) (z1 : Option Nat) (z2 : Int32), GF S0 z0 → G2 S0 (k165 z0 z1 z2)) (S : AS) (x0 : Option Nat) (x2 : Int32) (hS : GF S0 S) : G2 S0 (f_M_publish_C165 k165 S x0 x2) := by
  unfold f_M_publish_C165
  refine g2_rd (fun v3 => ?_)
  refine g2_rd (fun v4 => ?_)
  refine g2_if ?_ ?_
  · refine g2_rd (fun v5 => ?_)
    refine g2_rd (fun v6 => ?_)
    refine g2_rd (fun v7 => ?_)
    refine g2_rd (fun v8 => ?_)
    refine g2_bd (g1_bI hS) (fun S9 hS9 => ?_)
    refine g2_rd (fun v10 => ?_)
    refine g2_bd (g1_bI hS9) (fun S11 hS11 => ?_)
    refine g2_rd (fun v12 => ?_)
    refine g2_bd (g1_pI hS11) (fun S13 hS13 => ?_)
    refine g2_rd (fun v14 => ?_)
    exact g2_ret hS13
  · refine g2_rd (fun v15 => ?_)
    refine g2_rd (fun i16 => ?_)
    refine g2_rd (fun v17 => ?_)
    refine g2_rd (fun v18 => ?_)
    refine g2_rd (fun v19 => ?_)
    refine g2_bd (g1_bI hS) (fun S20 hS20 => ?_)
    refine g2_rd (fun v21 => ?_)
    refine g2_rd (fun v22 => ?_)
    refine g2_rd (fun v23 => ?_)
    refine g2_bd (g1_bI hS20) (fun S24 hS24 => ?_)
    refine g2_rd (fun v25 => ?_)
    refine g2_rd (fun v26 => ?_)
    refine g2_rd (fun v27 => ?_)
    refine g2_bd (g1_bI hS24) (fun S28 hS28 => ?_)
    refine g2_rd (fun v29 => ?_)
    refine g2_rd (fun v30 => ?_)
    refine g2_rd (fun v31 => ?_)
    refine g2_bd (g1_bI hS28) (fun S32 hS32 => ?_)
    refine g2_rd (fun v33 => ?_)
    refine g2_rd (fun v34 => ?_)
    refine g2_rd (fun v35 => ?_)
    refine g2_bd (g1_bI hS32) (fun S36 hS36 => ?_)
    refine g2_rd (fun i37 => ?_)
    exact hk165 _ _ _ hS36
theorem g_f_M_publish_L165 {S0 : AS}  : ∀ (n : Nat) (z0 : AS) (z1 : Option Nat) (z2 : Int32), GF S0 z0 → G2 S0 (f_M_publish_L165 n z0 z1 z2)
  | 0, _, _, _, _ => g2_no
  | n + 1, z0, z1, z2, h => g_f_M_publish_C165 (g_f_M_publish_L165 n) z0 z1 z2 h
theorem g_f_M_publish_B153 {S0 : AS}  (S : AS) (x0 : Option Nat) (x1 : Int32) (hS : GF S0 S) : G2 S0 (f_M_publish_B153 S x0 x1) := by
  unfold f_M_publish_B153
  refine g2_rd (fun u38 => ?_)
  refine g2_b2 (g_f_M_may _ _ _ hS) (fun v40 S39 hS39 => ?_)
  refine g2_if ?_ ?_
  · exact g2_ret hS39
  · exact g_f_M_publish_L165 _ _ _ _ hS39
theorem g_f_M_publish_C103 {S0 : AS} {k103 : AS → Option Nat → Int32 → Int32 → Option (Int32 × AS)} (hk103 : ∀ (z0 : AS) (z1 : Option Nat) (z2 : Int32) (z3 : Int32), GF S0 z0 → G2 S0 (k103 z0 z1 z2 z3)) (S : AS) (x0 : Option Nat) (x1 : Int32) (x2 : Int32) (hS : GF S0 S) : G2 S0 (f_M_publish_C103 k103 S x0 x1 x2) := by
  unfold f_M_publish_C103
  refine g2_rd (fun v41 => ?_)
  refine g2_rd (fun v42 => ?_)
  refine g2_if ?_ ?_
  · exact g_f_M_publish_B153 _ _ _ hS
  · refine g2_if ?_ ?_
    · exact g_f_M_publish_B153 _ _ _ hS
    · refine g2_rd (fun v43 => ?_)
      refine g2_rd (fun v44 => ?_)
      refine g2_b2 (g_f_M_isTest _ _ hS) (fun v46 S45 hS45 => ?_)
      refine g2_if ?_ ?_
      · exact g_f_M_publish_B141 hk103 _ _ _ hS45
      · refine g2_rd (fun u47 => ?_)
        refine g2_b2 (g_f_M_circles _ _ _ hS45) (fun v49 S48 hS48 => ?_)
        refine g2_if ?_ ?_
        · exact g_f_M_publish_B141 hk103 _ _ _ hS48
        · exact g_f_M_publish_B146 hk103 _ _ _ _ hS48
theorem g_f_M_publish_L103 {S0 : AS}  : ∀ (n : Nat) (z0 : AS) (z1 : Option Nat) (z2 : Int32) (z3 : Int32), GF S0 z0 → G2 S0 (f_M_publish_L103 n z0 z1 z2 z3)
  | 0, _, _, _, _, _ => g2_no
  | n + 1, z0, z1, z2, z3, h => g_f_M_publish_C103 (g_f_M_publish_L103 n) z0 z1 z2 z3 h
theorem g_f_M_publish_C27 {S0 : AS} {k27 : AS → Option Nat → Int32 → Int32 → Option (Int32 × AS)} (hk27 : ∀ (z0 : AS) (z1 : Option Nat) (z2 : Int32) (z3 : Int32), GF S0 z0 → G2 S0 (k27 z0 z1 z2 z3)) (S : AS) (x0 : Option Nat) (x1 : Int32) (x2 : Int32) (hS : GF S0 S) : G2 S0 (f_M_publish_C27 k27 S x0 x1 x2) := by
  unfold f_M_publish_C27
  refine g2_rd (fun v50 => ?_)
  refine g2_rd (fun v51 => ?_)
  refine g2_if ?_ ?_
  · exact g_f_M_publish_L103 _ _ _ _ _ hS
  · refine g2_rd (fun i52 => ?_)
    refine g2_if ?_ ?_
    · exact g_f_M_publish_B93 hk27 _ _ _ hS
    · refine g2_rd (fun v53 => ?_)
      refine g2_rd (fun v54 => ?_)
      refine g2_if ?_ ?_
      · exact g_f_M_publish_B89 hk27 _ _ _ hS
      · refine g2_rd (fun v55 => ?_)
        refine g2_rd (fun v56 => ?_)
        refine g2_rd (fun v57 => ?_)
        refine g2_rd (fun v58 => ?_)
        refine g2_if ?_ ?_
        · exact g_f_M_publish_B93 hk27 _ _ _ hS
        · refine g2_rd (fun v59 => ?_)
          refine g2_rd (fun v60 => ?_)
          refine g2_rd (fun v61 => ?_)
          refine g2_rd (fun v62 => ?_)
          refine g2_if ?_ ?_
          · exact g_f_M_publish_B93 hk27 _ _ _ hS
          · exact g_f_M_publish_B89 hk27 _ _ _ hS
theorem g_f_M_publish_L27 {S0 : AS}  : ∀ (n : Nat) (z0 : AS) (z1 : Option Nat) (z2 : Int32) (z3 : Int32), GF S0 z0 → G2 S0 (f_M_publish_L27 n z0 z1 z2 z3)
  | 0, _, _, _, _, _ => g2_no
  | n + 1, z0, z1, z2, z3, h => g_f_M_publish_C27 (g_f_M_publish_L27 n) z0 z1 z2 z3 h
theorem g_f_M_publish_B24 {S0 : AS}  (S : AS) (x0 : Option Nat) (y0 : Int32) (hS : GF S0 S) : G2 S0 (f_M_publish_B24 S x0 y0) := by
  unfold f_M_publish_B24
  exact g_f_M_publish_L27 _ _ _ _ _ hS
theorem g_f_M_publish_B23 {S0 : AS}  (S : AS) (x0 : Option Nat) (hS : GF S0 S) : G2 S0 (f_M_publish_B23 S x0) := by
  unfold f_M_publish_B23
  exact g_f_M_publish_B24 _ _ _ hS
theorem g_f_M_publish {S0 : AS}  (S : AS) (a0 : Option Nat) (hS : GF S0 S) : G2 S0 (f_M_publish S a0) := by
  unfold f_M_publish
  refine g2_rd (fun v63 => ?_)
  refine g2_rd (fun v64 => ?_)
  refine g2_if ?_ ?_
  · exact g_f_M_publish_B23 _ _ hS
  · refine g2_rd (fun v65 => ?_)
    refine g2_if ?_ ?_
    · exact g_f_M_publish_B23 _ _ hS
    · exact g_f_M_publish_B24 _ _ _ hS
theorem g_f_M_levelOf {S0 : AS}  (S : AS) (a0 : Int32) (hS : GF S0 S) : G2 S0 (f_M_levelOf S a0) := by
  unfold f_M_levelOf
  exact g2_ret hS
theorem g_f_M_meet {S0 : AS}  (S : AS) (a0 : Option Nat) (a1 : Int32) (a2 : Int32) (hS : GF S0 S) : G1 S0 (f_M_meet S a0 a1 a2) := by
  unfold f_M_meet
  refine g1_if ?_ ?_
  · exact g1_ret hS
  · refine g1_rd (fun v1 => ?_)
    refine g1_bd (g1_bZ hS) (fun S2 hS2 => ?_)
    exact g1_ret hS2
theorem g_f_M_weakest_B212 {S0 : AS} {k50 : AS → Option Nat → Int32 → Int32 → Option (Int32 × AS)} (hk50 : ∀ (z0 : AS) (z1 : Option Nat) (z2 : Int32) (z3 : Int32), GF S0 z0 → G2 S0 (k50 z0 z1 z2 z3)) {k58 : AS → Option Nat → Int32 → Int32 → Int32 → Option (Int32 × AS)} (hk58 : ∀ (z0 : AS) (z1 : Option Nat) (z2 : Int32) (z3 : Int32) (z4 : Int32), GF S0 z0 → G2 S0 (k58 z0 z1 z2 z3 z4)) (S : AS) (x0 : Option Nat) (x1 : Int32) (x2 : Int32) (x3 : Int32) (hS : GF S0 S) : G2 S0 (f_M_weakest_B212 k50 k58 S x0 x1 x2 x3) := by
  unfold f_M_weakest_B212
  refine g2_rd (fun i1 => ?_)
  exact hk58 _ _ _ _ _ hS
theorem g_f_M_weakest_B199 {S0 : AS} {k50 : AS → Option Nat → Int32 → Int32 → Option (Int32 × AS)} (hk50 : ∀ (z0 : AS) (z1 : Option Nat) (z2 : Int32) (z3 : Int32), GF S0 z0 → G2 S0 (k50 z0 z1 z2 z3)) {k58 : AS → Option Nat → Int32 → Int32 → Int32 → Option (Int32 × AS)} (hk58 : ∀ (z0 : AS) (z1 : Option Nat) (z2 : Int32) (z3 : Int32) (z4 : Int32), GF S0 z0 → G2 S0 (k58 z0 z1 z2 z3 z4)) (S : AS) (x0 : Option Nat) (x1 : Int32) (x2 : Int32) (x3 : Int32) (x4 : Int32) (x5 : Int32) (hS : GF S0 S) : G2 S0 (f_M_weakest_B199 k50 k58 S x0 x1 x2 x3 x4 x5) := by
  unfold f_M_weakest_B199
  refine g2_rd (fun v2 => ?_)
  refine g2_rd (fun v3 => ?_)
  refine g2_rd (fun u4 => ?_)
  refine g2_bd (g_f_M_meet _ _ _ _ hS) (fun S5 hS5 => ?_)
  exact g_f_M_weakest_B212 hk50 hk58 _ _ _ _ _ hS5
theorem g_f_M_weakest_B189 {S0 : AS} {k50 : AS → Option Nat → Int32 → Int32 → Option (Int32 × AS)} (hk50 : ∀ (z0 : AS) (z1 : Option Nat) (z2 : Int32) (z3 : Int32), GF S0 z0 → G2 S0 (k50 z0 z1 z2 z3)) {k58 : AS → Option Nat → Int32 → Int32 → Int32 → Option (Int32 × AS)} (hk58 : ∀ (z0 : AS) (z1 : Option Nat) (z2 : Int32) (z3 : Int32) (z4 : Int32), GF S0 z0 → G2 S0 (k58 z0 z1 z2 z3 z4)) (S : AS) (x0 : Option Nat) (x1 : Int32) (x2 : Int32) (x3 : Int32) (x4 : Int32) (x5 : Int32) (x6 : Int32) (x7 : Int32) (hS : GF S0 S) : G2 S0 (f_M_weakest_B189 k50 k58 S x0 x1 x2 x3 x4 x5 x6 x7) := by
  unfold f_M_weakest_B189
  refine g2_if ?_ ?_
  · exact g_f_M_weakest_B199 hk50 hk58 _ _ _ _ _ _ _ hS
  · refine g2_if ?_ ?_
    · exact g_f_M_weakest_B199 hk50 hk58 _ _ _ _ _ _ _ hS
    · exact g_f_M_weakest_B212 hk50 hk58 _ _ _ _ _ hS
theorem g_f_M_weakest_B186 {S0 : AS} {k50 : AS → Option Nat → Int32 → Int32 → Option (Int32 × AS)} (hk50 : ∀ (z0 : AS) (z1 : Option Nat) (z2 : Int32) (z3 : Int32), GF S0 z0 → G2 S0 (k50 z0 z1 z2 z3)) {k58 : AS → Option Nat → Int32 → Int32 → Int32 → Option (Int32 × AS)} (hk58 : ∀ (z0 : AS) (z1 : Option Nat) (z2 : Int32) (z3 : Int32) (z4 : Int32), GF S0 z0 → G2 S0 (k58 z0 z1 z2 z3 z4)) (S : AS) (x0 : Option Nat) (x1 : Int32) (x2 : Int32) (x3 : Int32) (x4 : Int32) (x5 : Int32) (x6 : Int32) (x7 : Int32) (y0 : Option Nat) (y1 : Int32) (y2 : Int32) (hS : GF S0 S) : G2 S0 (f_M_weakest_B186 k50 k58 S x0 x1 x2 x3 x4 x5 x6 x7 y0 y1 y2) := by
  unfold f_M_weakest_B186
  refine g2_rd (fun u6 => ?_)
  refine g2_bd (g_f_M_meet _ _ _ _ hS) (fun S7 hS7 => ?_)
  exact g_f_M_weakest_B189 hk50 hk58 _ _ _ _ _ _ _ _ _ hS7
theorem g_f_M_weakest_B151 {S0 : AS} {k50 : AS → Option Nat → Int32 → Int32 → Option (Int32 × AS)} (hk50 : ∀ (z0 : AS) (z1 : Option Nat) (z2 : Int32) (z3 : Int32), GF S0 z0 → G2 S0 (k50 z0 z1 z2 z3)) {k58 : AS → Option Nat → Int32 → Int32 → Int32 → Option (Int32 × AS)} (hk58 : ∀ (z0 : AS) (z1 : Option Nat) (z2 : Int32) (z3 : Int32) (z4 : Int32), GF S0 z0 → G2 S0 (k58 z0 z1 z2 z3 z4)) (S : AS) (x0 : Option Nat) (x1 : Int32) (x2 : Int32) (x3 : Int32) (x4 : Int32) (x5 : Int32) (x6 : Int32) (x7 : Int32) (hS : GF S0 S) : G2 S0 (f_M_weakest_B151 k50 k58 S x0 x1 x2 x3 x4 x5 x6 x7) := by
  unfold f_M_weakest_B151
  refine g2_rd (fun v8 => ?_)
  refine g2_rd (fun v9 => ?_)
  refine g2_rd (fun v10 => ?_)
  refine g2_rd (fun v11 => ?_)
  refine g2_if ?_ ?_
  · refine g2_rd (fun v12 => ?_)
    refine g2_rd (fun v13 => ?_)
    exact g_f_M_weakest_B186 hk50 hk58 _ _ _ _ _ _ _ _ _ _ _ _ hS
  · exact g_f_M_weakest_B186 hk50 hk58 _ _ _ _ _ _ _ _ _ _ _ _ hS
theorem g_f_M_weakest_B139 {S0 : AS} {k50 : AS → Option Nat → Int32 → Int32 → Option (Int32 × AS)} (hk50 : ∀ (z0 : AS) (z1 : Option Nat) (z2 : Int32) (z3 : Int32), GF S0 z0 → G2 S0 (k50 z0 z1 z2 z3)) {k58 : AS → Option Nat → Int32 → Int32 → Int32 → Option (Int32 × AS)} (hk58 : ∀ (z0 : AS) (z1 : Option Nat) (z2 : Int32) (z3 : Int32) (z4 : Int32), GF S0 z0 → G2 S0 (k58 z0 z1 z2 z3 z4)) (S : AS) (x0 : Option Nat) (x1 : Int32) (x2 : Int32) (x3 : Int32) (x4 : Int32) (x5 : Int32) (x6 : Int32) (y0 : Int32) (hS : GF S0 S) : G2 S0 (f_M_weakest_B139 k50 k58 S x0 x1 x2 x3 x4 x5 x6 y0) := by
  unfold f_M_weakest_B139
  refine g2_if ?_ ?_
  · exact g_f_M_weakest_B151 hk50 hk58 _ _ _ _ _ _ _ _ _ hS
  · refine g2_if ?_ ?_
    · exact g_f_M_weakest_B189 hk50 hk58 _ _ _ _ _ _ _ _ _ hS
    · exact g_f_M_weakest_B151 hk50 hk58 _ _ _ _ _ _ _ _ _ hS
theorem g_f_M_weakest_B117 {S0 : AS} {k50 : AS → Option Nat → Int32 → Int32 → Option (Int32 × AS)} (hk50 : ∀ (z0 : AS) (z1 : Option Nat) (z2 : Int32) (z3 : Int32), GF S0 z0 → G2 S0 (k50 z0 z1 z2 z3)) {k58 : AS → Option Nat → Int32 → Int32 → Int32 → Option (Int32 × AS)} (hk58 : ∀ (z0 : AS) (z1 : Option Nat) (z2 : Int32) (z3 : Int32) (z4 : Int32), GF S0 z0 → G2 S0 (k58 z0 z1 z2 z3 z4)) (S : AS) (x0 : Option Nat) (x1 : Int32) (x2 : Int32) (x3 : Int32) (x4 : Int32) (x5 : Int32) (y0 : Int32) (hS : GF S0 S) : G2 S0 (f_M_weakest_B117 k50 k58 S x0 x1 x2 x3 x4 x5 y0) := by
  unfold f_M_weakest_B117
  refine g2_b2 (g_f_M_levelOf _ _ hS) (fun v15 S14 hS14 => ?_)
  refine g2_rd (fun v16 => ?_)
  refine g2_rd (fun v17 => ?_)
  refine g2_if ?_ ?_
  · exact g_f_M_weakest_B139 hk50 hk58 _ _ _ _ _ _ _ _ _ hS14
  · exact g_f_M_weakest_B139 hk50 hk58 _ _ _ _ _ _ _ _ _ hS14
theorem g_f_M_weakest_C58 {S0 : AS} {k50 : AS → Option Nat → Int32 → Int32 → Option (Int32 × AS)} (hk50 : ∀ (z0 : AS) (z1 : Option Nat) (z2 : Int32) (z3 : Int32), GF S0 z0 → G2 S0 (k50 z0 z1 z2 z3)) {k58 : AS → Option Nat → Int32 → Int32 → Int32 → Option (Int32 × AS)} (hk58 : ∀ (z0 : AS) (z1 : Option Nat) (z2 : Int32) (z3 : Int32) (z4 : Int32), GF S0 z0 → G2 S0 (k58 z0 z1 z2 z3 z4)) (S : AS) (x0 : Option Nat) (x1 : Int32) (x2 : Int32) (x3 : Int32) (hS : GF S0 S) : G2 S0 (f_M_weakest_C58 k50 k58 S x0 x1 x2 x3) := by
  unfold f_M_weakest_C58
  refine g2_if ?_ ?_
  · refine g2_rd (fun i18 => ?_)
    exact hk50 _ _ _ _ hS
  · refine g2_rd (fun i19 => ?_)
    refine g2_rd (fun i20 => ?_)
    refine g2_rd (fun v21 => ?_)
    refine g2_rd (fun v22 => ?_)
    refine g2_if ?_ ?_
    · exact g_f_M_weakest_B212 hk50 hk58 _ _ _ _ _ hS
    · refine g2_rd (fun v23 => ?_)
      refine g2_rd (fun v24 => ?_)
      refine g2_if ?_ ?_
      · exact g_f_M_weakest_B212 hk50 hk58 _ _ _ _ _ hS
      · refine g2_rd (fun v25 => ?_)
        refine g2_rd (fun v26 => ?_)
        refine g2_if ?_ ?_
        · exact g_f_M_weakest_B117 hk50 hk58 _ _ _ _ _ _ _ _ hS
        · exact g_f_M_weakest_B117 hk50 hk58 _ _ _ _ _ _ _ _ hS
theorem g_f_M_weakest_L58 {S0 : AS} {k50 : AS → Option Nat → Int32 → Int32 → Option (Int32 × AS)} (hk50 : ∀ (z0 : AS) (z1 : Option Nat) (z2 : Int32) (z3 : Int32), GF S0 z0 → G2 S0 (k50 z0 z1 z2 z3)) : ∀ (n : Nat) (z0 : AS) (z1 : Option Nat) (z2 : Int32) (z3 : Int32) (z4 : Int32), GF S0 z0 → G2 S0 (f_M_weakest_L58 k50 n z0 z1 z2 z3 z4)
  | 0, _, _, _, _, _, _ => g2_no
  | n + 1, z0, z1, z2, z3, z4, h => g_f_M_weakest_C58 hk50 (g_f_M_weakest_L58 hk50 n) z0 z1 z2 z3 z4 h
theorem g_f_M_weakest_B300 {S0 : AS} {k228 : AS → Option Nat → Int32 → Int32 → Int32 → Option (Int32 × AS)} (hk228 : ∀ (z0 : AS) (z1 : Option Nat) (z2 : Int32) (z3 : Int32) (z4 : Int32), GF S0 z0 → G2 S0 (k228 z0 z1 z2 z3 z4)) (S : AS) (x0 : Option Nat) (x1 : Int32) (x3 : Int32) (y0 : Int32) (hS : GF S0 S) : G2 S0 (f_M_weakest_B300 k228 S x0 x1 x3 y0) := by
  unfold f_M_weakest_B300
  refine g2_rd (fun i27 => ?_)
  exact hk228 _ _ _ _ _ hS
theorem g_f_M_weakest_B289 {S0 : AS} {k228 : AS → Option Nat → Int32 → Int32 → Int32 → Option (Int32 × AS)} (hk228 : ∀ (z0 : AS) (z1 : Option Nat) (z2 : Int32) (z3 : Int32) (z4 : Int32), GF S0 z0 → G2 S0 (k228 z0 z1 z2 z3 z4)) (S : AS) (x0 : Option Nat) (x1 : Int32) (x3 : Int32) (hS : GF S0 S) : G2 S0 (f_M_weakest_B289 k228 S x0 x1 x3) := by
  unfold f_M_weakest_B289
  refine g2_b2 (g_f_M_levelOf _ _ hS) (fun v29 S28 hS28 => ?_)
  exact g_f_M_weakest_B300 hk228 _ _ _ _ _ hS28
theorem g_f_M_weakest_B299 {S0 : AS} {k228 : AS → Option Nat → Int32 → Int32 → Int32 → Option (Int32 × AS)} (hk228 : ∀ (z0 : AS) (z1 : Option Nat) (z2 : Int32) (z3 : Int32) (z4 : Int32), GF S0 z0 → G2 S0 (k228 z0 z1 z2 z3 z4)) (S : AS) (x0 : Option Nat) (x1 : Int32) (x2 : Int32) (x3 : Int32) (hS : GF S0 S) : G2 S0 (f_M_weakest_B299 k228 S x0 x1 x2 x3) := by
  unfold f_M_weakest_B299
  exact g_f_M_weakest_B300 hk228 _ _ _ _ _ hS
theorem g_f_M_weakest_B266 {S0 : AS} {k228 : AS → Option Nat → Int32 → Int32 → Int32 → Option (Int32 × AS)} (hk228 : ∀ (z0 : AS) (z1 : Option Nat) (z2 : Int32) (z3 : Int32) (z4 : Int32), GF S0 z0 → G2 S0 (k228 z0 z1 z2 z3 z4)) (S : AS) (x0 : Option Nat) (x1 : Int32) (x2 : Int32) (x3 : Int32) (y0 : Int32) (hS : GF S0 S) : G2 S0 (f_M_weakest_B266 k228 S x0 x1 x2 x3 y0) := by
  unfold f_M_weakest_B266
  refine g2_if ?_ ?_
  · exact g_f_M_weakest_B299 hk228 _ _ _ _ _ hS
  · refine g2_if ?_ ?_
    · exact g_f_M_weakest_B289 hk228 _ _ _ _ hS
    · refine g2_b2 (g_f_M_levelOf _ _ hS) (fun v31 S30 hS30 => ?_)
      refine g2_if ?_ ?_
      · exact g_f_M_weakest_B299 hk228 _ _ _ _ _ hS30
      · exact g_f_M_weakest_B289 hk228 _ _ _ _ hS30
theorem g_f_M_weakest_B265 {S0 : AS} {k228 : AS → Option Nat → Int32 → Int32 → Int32 → Option (Int32 × AS)} (hk228 : ∀ (z0 : AS) (z1 : Option Nat) (z2 : Int32) (z3 : Int32) (z4 : Int32), GF S0 z0 → G2 S0 (k228 z0 z1 z2 z3 z4)) (S : AS) (x0 : Option Nat) (x1 : Int32) (x2 : Int32) (x3 : Int32) (hS : GF S0 S) : G2 S0 (f_M_weakest_B265 k228 S x0 x1 x2 x3) := by
  unfold f_M_weakest_B265
  exact g_f_M_weakest_B266 hk228 _ _ _ _ _ _ hS
theorem g_f_M_weakest_C228 {S0 : AS} {k228 : AS → Option Nat → Int32 → Int32 → Int32 → Option (Int32 × AS)} (hk228 : ∀ (z0 : AS) (z1 : Option Nat) (z2 : Int32) (z3 : Int32) (z4 : Int32), GF S0 z0 → G2 S0 (k228 z0 z1 z2 z3 z4)) (S : AS) (x0 : Option Nat) (x1 : Int32) (x2 : Int32) (x3 : Int32) (hS : GF S0 S) : G2 S0 (f_M_weakest_C228 k228 S x0 x1 x2 x3) := by
  unfold f_M_weakest_C228
  refine g2_if ?_ ?_
  · exact g2_ret hS
  · refine g2_rd (fun v32 => ?_)
    refine g2_rd (fun v33 => ?_)
    refine g2_if ?_ ?_
    · exact g_f_M_weakest_B265 hk228 _ _ _ _ _ hS
    · refine g2_rd (fun v34 => ?_)
      refine g2_rd (fun v35 => ?_)
      refine g2_if ?_ ?_
      · exact g_f_M_weakest_B266 hk228 _ _ _ _ _ _ hS
      · exact g_f_M_weakest_B265 hk228 _ _ _ _ _ hS
theorem g_f_M_weakest_L228 {S0 : AS}  : ∀ (n : Nat) (z0 : AS) (z1 : Option Nat) (z2 : Int32) (z3 : Int32) (z4 : Int32), GF S0 z0 → G2 S0 (f_M_weakest_L228 n z0 z1 z2 z3 z4)
  | 0, _, _, _, _, _, _ => g2_no
  | n + 1, z0, z1, z2, z3, z4, h => g_f_M_weakest_C228 (g_f_M_weakest_L228 n) z0 z1 z2 z3 z4 h
theorem g_f_M_weakest_C50 {S0 : AS} {k50 : AS → Option Nat → Int32 → Int32 → Option (Int32 × AS)} (hk50 : ∀ (z0 : AS) (z1 : Option Nat) (z2 : Int32) (z3 : Int32), GF S0 z0 → G2 S0 (k50 z0 z1 z2 z3)) (S : AS) (x0 : Option Nat) (x1 : Int32) (x2 : Int32) (hS : GF S0 S) : G2 S0 (f_M_weakest_C50 k50 S x0 x1 x2) := by
  unfold f_M_weakest_C50
  refine g2_if ?_ ?_
  · exact g_f_M_weakest_L228 _ _ _ _ _ _ hS
  · exact g_f_M_weakest_L58 hk50 _ _ _ _ _ _ hS
theorem g_f_M_weakest_L50 {S0 : AS}  : ∀ (n : Nat) (z0 : AS) (z1 : Option Nat) (z2 : Int32) (z3 : Int32), GF S0 z0 → G2 S0 (f_M_weakest_L50 n z0 z1 z2 z3)
  | 0, _, _, _, _, _ => g2_no
  | n + 1, z0, z1, z2, z3, h => g_f_M_weakest_C50 (g_f_M_weakest_L50 n) z0 z1 z2 z3 h
theorem g_f_M_weakest_C22 {S0 : AS} {k22 : AS → Option Nat → Int32 → Int32 → Option (Int32 × AS)} (hk22 : ∀ (z0 : AS) (z1 : Option Nat) (z2 : Int32) (z3 : Int32), GF S0 z0 → G2 S0 (k22 z0 z1 z2 z3)) (S : AS) (x0 : Option Nat) (x1 : Int32) (x2 : Int32) (hS : GF S0 S) : G2 S0 (f_M_weakest_C22 k22 S x0 x1 x2) := by
  unfold f_M_weakest_C22
  refine g2_if ?_ ?_
  · refine g2_rd (fun v36 => ?_)
    refine g2_bd (g1_bZ hS) (fun S37 hS37 => ?_)
    exact g_f_M_weakest_L50 _ _ _ _ _ hS37
  · refine g2_rd (fun v38 => ?_)
    refine g2_bd (g1_bZ hS) (fun S39 hS39 => ?_)
    refine g2_rd (fun i40 => ?_)
    exact hk22 _ _ _ _ hS39
theorem g_f_M_weakest_L22 {S0 : AS}  : ∀ (n : Nat) (z0 : AS) (z1 : Option Nat) (z2 : Int32) (z3 : Int32), GF S0 z0 → G2 S0 (f_M_weakest_L22 n z0 z1 z2 z3)
  | 0, _, _, _, _, _ => g2_no
  | n + 1, z0, z1, z2, z3, h => g_f_M_weakest_C22 (g_f_M_weakest_L22 n) z0 z1 z2 z3 h
theorem g_f_M_weakest {S0 : AS}  (S : AS) (a0 : Option Nat) (a1 : Int32) (hS : GF S0 S) : G2 S0 (f_M_weakest S a0 a1) := by
  unfold f_M_weakest
  refine g2_rd (fun v41 => ?_)
  refine g2_b2 (g_f_M_isIn _ _ _ _ hS) (fun v43 S42 hS42 => ?_)
  refine g2_rd (fun u44 => ?_)
  refine g2_b2 (g_f_M_may _ _ _ hS42) (fun v46 S45 hS45 => ?_)
  refine g2_if ?_ ?_
  · exact g2_ret hS45
  · exact g_f_M_weakest_L22 _ _ _ _ _ hS45
theorem g_f_M_points_B59 {S0 : AS}  (S : AS) (x0 : Option Nat) (x1 : Int32) (x2 : Int32) (x3 : Int32) (y0 : Int32) (hS : GF S0 S) : G2 S0 (f_M_points_B59 S x0 x1 x2 x3 y0) := by
  unfold f_M_points_B59
  refine g2_if ?_ ?_
  · refine g2_rd (fun v1 => ?_)
    refine g2_bd (g1_bI hS) (fun S2 hS2 => ?_)
    exact g2_ret hS2
  · refine g2_rd (fun v3 => ?_)
    refine g2_bd (g1_bI hS) (fun S4 hS4 => ?_)
    exact g2_ret hS4
theorem g_f_M_points_B32 {S0 : AS}  (S : AS) (x0 : Option Nat) (x1 : Int32) (x2 : Int32) (x3 : Int32) (y0 : Option Nat) (y1 : Int32) (hS : GF S0 S) : G2 S0 (f_M_points_B32 S x0 x1 x2 x3 y0 y1) := by
  unfold f_M_points_B32
  refine g2_rd (fun u5 => ?_)
  refine g2_b2 (g_f_M_may _ _ _ hS) (fun v7 S6 hS6 => ?_)
  refine g2_if ?_ ?_
  · exact g2_ret hS6
  · refine g2_if ?_ ?_
    · refine g2_rd (fun v8 => ?_)
      refine g2_rd (fun v9 => ?_)
      exact g_f_M_points_B59 _ _ _ _ _ _ hS6
    · refine g2_rd (fun v10 => ?_)
      refine g2_rd (fun v11 => ?_)
      exact g_f_M_points_B59 _ _ _ _ _ _ hS6
theorem g_f_M_points_B31 {S0 : AS}  (S : AS) (x0 : Option Nat) (x1 : Int32) (x2 : Int32) (x3 : Int32) (y0 : Option Nat) (hS : GF S0 S) : G2 S0 (f_M_points_B31 S x0 x1 x2 x3 y0) := by
  unfold f_M_points_B31
  exact g_f_M_points_B32 _ _ _ _ _ _ _ hS
theorem g_f_M_points_B20 {S0 : AS}  (S : AS) (x0 : Option Nat) (x1 : Int32) (x2 : Int32) (x3 : Int32) (y0 : Option Nat) (y1 : Int32) (y2 : Int32) (hS : GF S0 S) : G2 S0 (f_M_points_B20 S x0 x1 x2 x3 y0 y1 y2) := by
  unfold f_M_points_B20
  refine g2_b2 (g_f_M_isIn _ _ _ _ hS) (fun v13 S12 hS12 => ?_)
  refine g2_if ?_ ?_
  · exact g_f_M_points_B31 _ _ _ _ _ _ hS12
  · exact g_f_M_points_B32 _ _ _ _ _ _ _ hS12
theorem g_f_M_points {S0 : AS}  (S : AS) (a0 : Option Nat) (a1 : Int32) (a2 : Int32) (a3 : Int32) (hS : GF S0 S) : G2 S0 (f_M_points S a0 a1 a2 a3) := by
  unfold f_M_points
  refine g2_b2 (g_f_M_isIn _ _ _ _ hS) (fun v15 S14 hS14 => ?_)
  refine g2_if ?_ ?_
  · exact g_f_M_points_B31 _ _ _ _ _ _ hS14
  · refine g2_if ?_ ?_
    · exact g_f_M_points_B20 _ _ _ _ _ _ _ _ hS14
    · exact g_f_M_points_B20 _ _ _ _ _ _ _ _ hS14
theorem g_f_M_wrongs_B35 {S0 : AS} {k4 : AS → Option Nat → Int32 → Int32 → Int32 → Option (Int32 × AS)} (hk4 : ∀ (z0 : AS) (z1 : Option Nat) (z2 : Int32) (z3 : Int32) (z4 : Int32), GF S0 z0 → G2 S0 (k4 z0 z1 z2 z3 z4)) (S : AS) (x0 : Option Nat) (x1 : Int32) (x3 : Int32) (y0 : Int32) (y1 : Int32) (hS : GF S0 S) : G2 S0 (f_M_wrongs_B35 k4 S x0 x1 x3 y0 y1) := by
  unfold f_M_wrongs_B35
  refine g2_rd (fun i1 => ?_)
  refine g2_rd (fun i2 => ?_)
  exact hk4 _ _ _ _ _ hS
theorem g_f_M_wrongs_C4 {S0 : AS} {k4 : AS → Option Nat → Int32 → Int32 → Int32 → Option (Int32 × AS)} (hk4 : ∀ (z0 : AS) (z1 : Option Nat) (z2 : Int32) (z3 : Int32) (z4 : Int32), GF S0 z0 → G2 S0 (k4 z0 z1 z2 z3 z4)) (S : AS) (x0 : Option Nat) (x1 : Int32) (x2 : Int32) (x3 : Int32) (hS : GF S0 S) : G2 S0 (f_M_wrongs_C4 k4 S x0 x1 x2 x3) := by
  unfold f_M_wrongs_C4
  refine g2_if ?_ ?_
  · exact g2_ret hS
  · refine g2_rd (fun v3 => ?_)
    refine g2_rd (fun v4 => ?_)
    refine g2_rd (fun v5 => ?_)
    refine g2_if ?_ ?_
    · exact g_f_M_wrongs_B35 hk4 _ _ _ _ _ _ hS
    · exact g_f_M_wrongs_B35 hk4 _ _ _ _ _ _ hS
theorem g_f_M_wrongs_L4 {S0 : AS}  : ∀ (n : Nat) (z0 : AS) (z1 : Option Nat) (z2 : Int32) (z3 : Int32) (z4 : Int32), GF S0 z0 → G2 S0 (f_M_wrongs_L4 n z0 z1 z2 z3 z4)
  | 0, _, _, _, _, _, _ => g2_no
  | n + 1, z0, z1, z2, z3, z4, h => g_f_M_wrongs_C4 (g_f_M_wrongs_L4 n) z0 z1 z2 z3 z4 h
theorem g_f_M_wrongs {S0 : AS}  (S : AS) (a0 : Option Nat) (a1 : Int32) (hS : GF S0 S) : G2 S0 (f_M_wrongs S a0 a1) := by
  unfold f_M_wrongs
  exact g_f_M_wrongs_L4 _ _ _ _ _ _ hS
theorem g_f_M_pointsOf_B23 {S0 : AS}  (S : AS) (x0 : Option Nat) (x1 : Int32) (hS : GF S0 S) : G2 S0 (f_M_pointsOf_B23 S x0 x1) := by
  unfold f_M_pointsOf_B23
  refine g2_rd (fun v1 => ?_)
  refine g2_rd (fun v2 => ?_)
  exact g2_ret hS
theorem g_f_M_pointsOf {S0 : AS}  (S : AS) (a0 : Option Nat) (a1 : Int32) (a2 : Int32) (hS : GF S0 S) : G2 S0 (f_M_pointsOf S a0 a1 a2) := by
  unfold f_M_pointsOf
  refine g2_if ?_ ?_
  · exact g_f_M_pointsOf_B23 _ _ _ hS
  · refine g2_rd (fun v3 => ?_)
    refine g2_rd (fun v4 => ?_)
    refine g2_if ?_ ?_
    · exact g_f_M_pointsOf_B23 _ _ _ hS
    · refine g2_rd (fun v5 => ?_)
      refine g2_rd (fun v6 => ?_)
      exact g2_ret hS
theorem g_f_M_riskOf_B52 {S0 : AS}  (S : AS) (x0 : Option Nat) (x1 : Int32) (x2 : Int32) (x3 : Int32) (y0 : Int32) (y1 : Int32) (hS : GF S0 S) : G2 S0 (f_M_riskOf_B52 S x0 x1 x2 x3 y0 y1) := by
  unfold f_M_riskOf_B52
  refine g2_rd (fun i1 => ?_)
  refine g2_rd (fun v2 => ?_)
  refine g2_rd (fun v3 => ?_)
  refine g2_rd (fun v4 => ?_)
  refine g2_rd (fun v5 => ?_)
  refine g2_if ?_ ?_
  · refine g2_rd (fun u6 => ?_)
    refine g2_b2 (g_f_M_pointsOf _ _ _ _ hS) (fun v8 S7 hS7 => ?_)
    exact g2_ret hS7
  · exact g2_ret hS
theorem g_f_M_riskOf {S0 : AS}  (S : AS) (a0 : Option Nat) (a1 : Int32) (a2 : Int32) (hS : GF S0 S) : G2 S0 (f_M_riskOf S a0 a1 a2) := by
  unfold f_M_riskOf
  refine g2_rd (fun v9 => ?_)
  refine g2_rd (fun v10 => ?_)
  refine g2_rd (fun u11 => ?_)
  refine g2_b2 (g_f_M_wrongs _ _ _ hS) (fun v13 S12 hS12 => ?_)
  refine g2_rd (fun u14 => ?_)
  refine g2_b2 (g_f_M_pointsOf _ _ _ _ hS12) (fun v16 S15 hS15 => ?_)
  refine g2_rd (fun i17 => ?_)
  refine g2_rd (fun v18 => ?_)
  refine g2_rd (fun v19 => ?_)
  refine g2_rd (fun v20 => ?_)
  refine g2_rd (fun v21 => ?_)
  refine g2_if ?_ ?_
  · refine g2_rd (fun u22 => ?_)
    refine g2_b2 (g_f_M_pointsOf _ _ _ _ hS15) (fun v24 S23 hS23 => ?_)
    exact g_f_M_riskOf_B52 _ _ _ _ _ _ _ hS23
  · exact g_f_M_riskOf_B52 _ _ _ _ _ _ _ hS15
theorem g_f_M_shownIn_B31 {S0 : AS} {k4 : AS → Option Nat → Int32 → Int32 → Int32 → Option (Int32 × AS)} (hk4 : ∀ (z0 : AS) (z1 : Option Nat) (z2 : Int32) (z3 : Int32) (z4 : Int32), GF S0 z0 → G2 S0 (k4 z0 z1 z2 z3 z4)) (S : AS) (x0 : Option Nat) (x1 : Int32) (x3 : Int32) (y0 : Int32) (y1 : Int32) (hS : GF S0 S) : G2 S0 (f_M_shownIn_B31 k4 S x0 x1 x3 y0 y1) := by
  unfold f_M_shownIn_B31
  refine g2_rd (fun i1 => ?_)
  refine g2_rd (fun i2 => ?_)
  exact hk4 _ _ _ _ _ hS
theorem g_f_M_shownIn_C4 {S0 : AS} {k4 : AS → Option Nat → Int32 → Int32 → Int32 → Option (Int32 × AS)} (hk4 : ∀ (z0 : AS) (z1 : Option Nat) (z2 : Int32) (z3 : Int32) (z4 : Int32), GF S0 z0 → G2 S0 (k4 z0 z1 z2 z3 z4)) (S : AS) (x0 : Option Nat) (x1 : Int32) (x2 : Int32) (x3 : Int32) (hS : GF S0 S) : G2 S0 (f_M_shownIn_C4 k4 S x0 x1 x2 x3) := by
  unfold f_M_shownIn_C4
  refine g2_if ?_ ?_
  · exact g2_ret hS
  · refine g2_rd (fun v3 => ?_)
    refine g2_rd (fun v4 => ?_)
    refine g2_if ?_ ?_
    · exact g_f_M_shownIn_B31 hk4 _ _ _ _ _ _ hS
    · exact g_f_M_shownIn_B31 hk4 _ _ _ _ _ _ hS
theorem g_f_M_shownIn_L4 {S0 : AS}  : ∀ (n : Nat) (z0 : AS) (z1 : Option Nat) (z2 : Int32) (z3 : Int32) (z4 : Int32), GF S0 z0 → G2 S0 (f_M_shownIn_L4 n z0 z1 z2 z3 z4)
  | 0, _, _, _, _, _, _ => g2_no
  | n + 1, z0, z1, z2, z3, z4, h => g_f_M_shownIn_C4 (g_f_M_shownIn_L4 n) z0 z1 z2 z3 z4 h
theorem g_f_M_shownIn {S0 : AS}  (S : AS) (a0 : Option Nat) (a1 : Int32) (hS : GF S0 S) : G2 S0 (f_M_shownIn S a0 a1) := by
  unfold f_M_shownIn
  exact g_f_M_shownIn_L4 _ _ _ _ _ _ hS
theorem g_f_M_holds {S0 : AS}  (S : AS) (a0 : Option Nat) (a1 : Int32) (a2 : Int32) (hS : GF S0 S) : G2 S0 (f_M_holds S a0 a1 a2) := by
  unfold f_M_holds
  refine g2_rd (fun v1 => ?_)
  refine g2_rd (fun v2 => ?_)
  refine g2_rd (fun v3 => ?_)
  refine g2_rd (fun v4 => ?_)
  refine g2_if ?_ ?_
  · refine g2_rd (fun v5 => ?_)
    refine g2_rd (fun v6 => ?_)
    refine g2_rd (fun v7 => ?_)
    refine g2_rd (fun v8 => ?_)
    refine g2_rd (fun u9 => ?_)
    exact g2_ret hS
  · refine g2_rd (fun v10 => ?_)
    refine g2_rd (fun v11 => ?_)
    refine g2_if ?_ ?_
    · refine g2_rd (fun u12 => ?_)
      refine g2_b2 (g_f_M_riskOf _ _ _ _ hS) (fun v14 S13 hS13 => ?_)
      refine g2_rd (fun v15 => ?_)
      refine g2_rd (fun v16 => ?_)
      refine g2_if ?_ ?_
      · exact g2_ret hS13
      · exact g2_ret hS13
    · refine g2_rd (fun v17 => ?_)
      refine g2_rd (fun v18 => ?_)
      refine g2_if ?_ ?_
      · refine g2_rd (fun v19 => ?_)
        refine g2_rd (fun v20 => ?_)
        refine g2_rd (fun v21 => ?_)
        refine g2_rd (fun v22 => ?_)
        refine g2_if ?_ ?_
        · exact g2_ret hS
        · exact g2_ret hS
      · refine g2_rd (fun u23 => ?_)
        refine g2_b2 (g_f_M_shownIn _ _ _ hS) (fun v25 S24 hS24 => ?_)
        refine g2_b2 (g_f_M_levelOf _ _ hS24) (fun v27 S26 hS26 => ?_)
        refine g2_rd (fun v28 => ?_)
        refine g2_rd (fun v29 => ?_)
        refine g2_if ?_ ?_
        · exact g2_ret hS26
        · exact g2_ret hS26
theorem g_f_M_newSession_C49 {S0 : AS} {k49 : AS → Option Nat → Int32 → Int32 → Option (Int32 × AS)} (hk49 : ∀ (z0 : AS) (z1 : Option Nat) (z2 : Int32) (z3 : Int32), GF S0 z0 → G2 S0 (k49 z0 z1 z2 z3)) (S : AS) (x0 : Option Nat) (x3 : Int32) (x4 : Int32) (hS : GF S0 S) : G2 S0 (f_M_newSession_C49 k49 S x0 x3 x4) := by
  unfold f_M_newSession_C49
  refine g2_if ?_ ?_
  · refine g2_rd (fun v1 => ?_)
    refine g2_bd (g1_pI hS) (fun S2 hS2 => ?_)
    refine g2_rd (fun u3 => ?_)
    refine g2_bd (g_f_M_write _ _ _ _ hS2) (fun S4 hS4 => ?_)
    exact g2_ret hS4
  · refine g2_rd (fun v5 => ?_)
    refine g2_bd (g1_bI hS) (fun S6 hS6 => ?_)
    refine g2_rd (fun i7 => ?_)
    exact hk49 _ _ _ _ hS6
theorem g_f_M_newSession_L49 {S0 : AS}  : ∀ (n : Nat) (z0 : AS) (z1 : Option Nat) (z2 : Int32) (z3 : Int32), GF S0 z0 → G2 S0 (f_M_newSession_L49 n z0 z1 z2 z3)
  | 0, _, _, _, _, _ => g2_no
  | n + 1, z0, z1, z2, z3, h => g_f_M_newSession_C49 (g_f_M_newSession_L49 n) z0 z1 z2 z3 h
theorem g_f_M_newSession {S0 : AS}  (S : AS) (a0 : Option Nat) (a1 : Int32) (a2 : Int32) (hS : GF S0 S) : G2 S0 (f_M_newSession S a0 a1 a2) := by
  unfold f_M_newSession
  refine g2_rd (fun v8 => ?_)
  refine g2_rd (fun v9 => ?_)
  refine g2_bd (g1_bI hS) (fun S10 hS10 => ?_)
  refine g2_rd (fun v11 => ?_)
  refine g2_rd (fun v12 => ?_)
  refine g2_bd (g1_bI hS10) (fun S13 hS13 => ?_)
  refine g2_rd (fun v14 => ?_)
  refine g2_rd (fun v15 => ?_)
  refine g2_bd (g1_bI hS13) (fun S16 hS16 => ?_)
  refine g2_rd (fun v17 => ?_)
  refine g2_bd (g1_bI hS16) (fun S18 hS18 => ?_)
  refine g2_rd (fun v19 => ?_)
  refine g2_bd (g1_bZ hS18) (fun S20 hS20 => ?_)
  exact g_f_M_newSession_L49 _ _ _ _ _ hS20
theorem g_f_M_grant_C45 {S0 : AS} {k45 : AS → Option Nat → Int32 → Int32 → Int32 → Option AS} (hk45 : ∀ (z0 : AS) (z1 : Option Nat) (z2 : Int32) (z3 : Int32) (z4 : Int32), GF S0 z0 → G1 S0 (k45 z0 z1 z2 z3 z4)) (S : AS) (x0 : Option Nat) (x1 : Int32) (x2 : Int32) (x3 : Int32) (hS : GF S0 S) : G1 S0 (f_M_grant_C45 k45 S x0 x1 x2 x3) := by
  unfold f_M_grant_C45
  refine g1_if ?_ ?_
  · refine g1_rd (fun v1 => ?_)
    refine g1_rd (fun v2 => ?_)
    refine g1_rd (fun v3 => ?_)
    refine g1_bd (g1_bZ hS) (fun S4 hS4 => ?_)
    refine g1_rd (fun v5 => ?_)
    refine g1_rd (fun v6 => ?_)
    refine g1_rd (fun v7 => ?_)
    refine g1_bd (g1_bZ hS4) (fun S8 hS8 => ?_)
    exact g1_ret hS8
  · refine g1_rd (fun v9 => ?_)
    refine g1_rd (fun v10 => ?_)
    refine g1_rd (fun v11 => ?_)
    refine g1_rd (fun v12 => ?_)
    refine g1_rd (fun v13 => ?_)
    refine g1_bd (g1_bI hS) (fun S14 hS14 => ?_)
    refine g1_rd (fun i15 => ?_)
    exact hk45 _ _ _ _ _ hS14
theorem g_f_M_grant_L45 {S0 : AS}  : ∀ (n : Nat) (z0 : AS) (z1 : Option Nat) (z2 : Int32) (z3 : Int32) (z4 : Int32), GF S0 z0 → G1 S0 (f_M_grant_L45 n z0 z1 z2 z3 z4)
  | 0, _, _, _, _, _, _ => g1_no
  | n + 1, z0, z1, z2, z3, z4, h => g_f_M_grant_C45 (g_f_M_grant_L45 n) z0 z1 z2 z3 z4 h
theorem g_f_M_grant {S0 : AS}  (S : AS) (a0 : Option Nat) (a1 : Int32) (hS : GF S0 S) : G1 S0 (f_M_grant S a0 a1) := by
  unfold f_M_grant
  refine g1_rd (fun v16 => ?_)
  refine g1_if ?_ ?_
  · refine g1_rd (fun v17 => ?_)
    refine g1_bd (g1_bI hS) (fun S18 hS18 => ?_)
    exact g1_ret hS18
  · refine g1_rd (fun v19 => ?_)
    refine g1_rd (fun v20 => ?_)
    refine g1_rd (fun v21 => ?_)
    refine g1_bd (g1_bI hS) (fun S22 hS22 => ?_)
    refine g1_rd (fun v23 => ?_)
    refine g1_rd (fun u24 => ?_)
    refine g1_b2 (g_f_M_newSession _ _ _ _ hS22) (fun v26 S25 hS25 => ?_)
    refine g1_bd (g1_bI hS25) (fun S27 hS27 => ?_)
    exact g_f_M_grant_L45 _ _ _ _ _ _ hS27
theorem g_f_M_go_B60 {S0 : AS} {k15 : AS → Option Nat → Int32 → Int32 → Int32 → Option AS} (hk15 : ∀ (z0 : AS) (z1 : Option Nat) (z2 : Int32) (z3 : Int32) (z4 : Int32), GF S0 z0 → G1 S0 (k15 z0 z1 z2 z3 z4)) (S : AS) (x0 : Option Nat) (x1 : Int32) (y0 : Int32) (hS : GF S0 S) : G1 S0 (f_M_go_B60 k15 S x0 x1 y0) := by
  unfold f_M_go_B60
  refine g1_rd (fun v1 => ?_)
  refine g1_rd (fun v2 => ?_)
  refine g1_rd (fun i3 => ?_)
  exact hk15 _ _ _ _ _ hS
theorem g_f_M_go_B108 {S0 : AS}  (S : AS) (x0 : Option Nat) (x1 : Int32) (hS : GF S0 S) : G1 S0 (f_M_go_B108 S x0 x1) := by
  unfold f_M_go_B108
  refine g1_rd (fun v4 => ?_)
  refine g1_bd (g1_bI hS) (fun S5 hS5 => ?_)
  exact g1_ret hS5
theorem g_f_M_go_B77 {S0 : AS}  (S : AS) (x0 : Option Nat) (x1 : Int32) (x3 : Int32) (x4 : Int32) (hS : GF S0 S) : G1 S0 (f_M_go_B77 S x0 x1 x3 x4) := by
  unfold f_M_go_B77
  refine g1_rd (fun v6 => ?_)
  refine g1_bd (g1_bI hS) (fun S7 hS7 => ?_)
  refine g1_rd (fun v8 => ?_)
  refine g1_bd (g1_bI hS7) (fun S9 hS9 => ?_)
  refine g1_if ?_ ?_
  · exact g_f_M_go_B108 _ _ _ hS9
  · refine g1_rd (fun v10 => ?_)
    refine g1_rd (fun v11 => ?_)
    refine g1_if ?_ ?_
    · exact g_f_M_go_B108 _ _ _ hS9
    · refine g1_rd (fun v12 => ?_)
      refine g1_rd (fun v13 => ?_)
      refine g1_if ?_ ?_
      · refine g1_rd (fun u14 => ?_)
        refine g1_bd (g_f_M_grant _ _ _ hS9) (fun S15 hS15 => ?_)
        exact g1_ret hS15
      · exact g1_ret hS9
theorem g_f_M_go_C15 {S0 : AS} {k15 : AS → Option Nat → Int32 → Int32 → Int32 → Option AS} (hk15 : ∀ (z0 : AS) (z1 : Option Nat) (z2 : Int32) (z3 : Int32) (z4 : Int32), GF S0 z0 → G1 S0 (k15 z0 z1 z2 z3 z4)) (S : AS) (x0 : Option Nat) (x1 : Int32) (x3 : Int32) (x4 : Int32) (hS : GF S0 S) : G1 S0 (f_M_go_C15 k15 S x0 x1 x3 x4) := by
  unfold f_M_go_C15
  refine g1_if ?_ ?_
  · exact g_f_M_go_B77 _ _ _ _ _ hS
  · refine g1_rd (fun v16 => ?_)
    refine g1_rd (fun v17 => ?_)
    refine g1_b2 (g_f_M_isTest _ _ hS) (fun v19 S18 hS18 => ?_)
    refine g1_if ?_ ?_
    · exact g_f_M_go_B77 _ _ _ _ _ hS18
    · refine g1_rd (fun u20 => ?_)
      refine g1_b2 (g_f_M_holds _ _ _ _ hS18) (fun v22 S21 hS21 => ?_)
      refine g1_if ?_ ?_
      · refine g1_rd (fun v23 => ?_)
        refine g1_rd (fun v24 => ?_)
        exact g_f_M_go_B60 hk15 _ _ _ _ hS21
      · refine g1_rd (fun v25 => ?_)
        refine g1_rd (fun v26 => ?_)
        exact g_f_M_go_B60 hk15 _ _ _ _ hS21
theorem g_f_M_go_L15 {S0 : AS}  : ∀ (n : Nat) (z0 : AS) (z1 : Option Nat) (z2 : Int32) (z3 : Int32) (z4 : Int32), GF S0 z0 → G1 S0 (f_M_go_L15 n z0 z1 z2 z3 z4)
  | 0, _, _, _, _, _, _ => g1_no
  | n + 1, z0, z1, z2, z3, z4, h => g_f_M_go_C15 (g_f_M_go_L15 n) z0 z1 z2 z3 z4 h
theorem g_f_M_go {S0 : AS}  (S : AS) (a0 : Option Nat) (a1 : Int32) (a2 : Int32) (hS : GF S0 S) : G1 S0 (f_M_go S a0 a1 a2) := by
  unfold f_M_go
  refine g1_rd (fun v27 => ?_)
  refine g1_rd (fun v28 => ?_)
  refine g1_rd (fun i29 => ?_)
  exact g_f_M_go_L15 _ _ _ _ _ _ hS
theorem g_f_M_begin_C136 {S0 : AS} {k136 : AS → Option Nat → Int32 → Int32 → Option (Int32 × AS)} (hk136 : ∀ (z0 : AS) (z1 : Option Nat) (z2 : Int32) (z3 : Int32), GF S0 z0 → G2 S0 (k136 z0 z1 z2 z3)) (S : AS) (x0 : Option Nat) (x5 : Int32) (x6 : Int32) (hS : GF S0 S) : G2 S0 (f_M_begin_C136 k136 S x0 x5 x6) := by
  unfold f_M_begin_C136
  refine g2_if ?_ ?_
  · refine g2_rd (fun v1 => ?_)
    refine g2_bd (g1_pI hS) (fun S2 hS2 => ?_)
    refine g2_rd (fun u3 => ?_)
    refine g2_bd (g_f_M_go _ _ _ _ hS2) (fun S4 hS4 => ?_)
    exact g2_ret hS4
  · refine g2_rd (fun v5 => ?_)
    refine g2_bd (g1_bI hS) (fun S6 hS6 => ?_)
    refine g2_rd (fun i7 => ?_)
    exact hk136 _ _ _ _ hS6
theorem g_f_M_begin_L136 {S0 : AS}  : ∀ (n : Nat) (z0 : AS) (z1 : Option Nat) (z2 : Int32) (z3 : Int32), GF S0 z0 → G2 S0 (f_M_begin_L136 n z0 z1 z2 z3)
  | 0, _, _, _, _, _ => g2_no
  | n + 1, z0, z1, z2, z3, h => g_f_M_begin_C136 (g_f_M_begin_L136 n) z0 z1 z2 z3 h
theorem g_f_M_begin_B66 {S0 : AS}  (S : AS) (x0 : Option Nat) (x1 : Int32) (x2 : Int32) (x3 : Int32) (y0 : Option Nat) (y1 : Int32) (y2 : Int32) (hS : GF S0 S) : G2 S0 (f_M_begin_B66 S x0 x1 x2 x3 y0 y1 y2) := by
  unfold f_M_begin_B66
  refine g2_rd (fun u8 => ?_)
  refine g2_b2 (g_f_M_mayBoth _ _ _ _ hS) (fun v10 S9 hS9 => ?_)
  refine g2_if ?_ ?_
  · exact g2_ret hS9
  · refine g2_rd (fun v11 => ?_)
    refine g2_rd (fun v12 => ?_)
    refine g2_bd (g1_bI hS9) (fun S13 hS13 => ?_)
    refine g2_rd (fun v14 => ?_)
    refine g2_bd (g1_bI hS13) (fun S15 hS15 => ?_)
    refine g2_rd (fun v16 => ?_)
    refine g2_bd (g1_bI hS15) (fun S17 hS17 => ?_)
    refine g2_rd (fun v18 => ?_)
    refine g2_rd (fun v19 => ?_)
    refine g2_bd (g1_bI hS17) (fun S20 hS20 => ?_)
    refine g2_rd (fun v21 => ?_)
    refine g2_bd (g1_bI hS20) (fun S22 hS22 => ?_)
    refine g2_rd (fun v23 => ?_)
    refine g2_bd (g1_bI hS22) (fun S24 hS24 => ?_)
    exact g_f_M_begin_L136 _ _ _ _ _ hS24
theorem g_f_M_begin_B65 {S0 : AS}  (S : AS) (x0 : Option Nat) (x1 : Int32) (x2 : Int32) (x3 : Int32) (y0 : Option Nat) (y1 : Int32) (hS : GF S0 S) : G2 S0 (f_M_begin_B65 S x0 x1 x2 x3 y0 y1) := by
  unfold f_M_begin_B65
  exact g_f_M_begin_B66 _ _ _ _ _ _ _ _ hS
theorem g_f_M_begin_B26 {S0 : AS}  (S : AS) (x0 : Option Nat) (x1 : Int32) (x2 : Int32) (x3 : Int32) (y0 : Int32) (hS : GF S0 S) : G2 S0 (f_M_begin_B26 S x0 x1 x2 x3 y0) := by
  unfold f_M_begin_B26
  refine g2_if ?_ ?_
  · exact g_f_M_begin_B65 _ _ _ _ _ _ _ hS
  · refine g2_rd (fun v25 => ?_)
    refine g2_if ?_ ?_
    · exact g_f_M_begin_B65 _ _ _ _ _ _ _ hS
    · refine g2_rd (fun v26 => ?_)
      refine g2_rd (fun v27 => ?_)
      refine g2_if ?_ ?_
      · refine g2_rd (fun v28 => ?_)
        refine g2_if ?_ ?_
        · exact g_f_M_begin_B65 _ _ _ _ _ _ _ hS
        · exact g_f_M_begin_B66 _ _ _ _ _ _ _ _ hS
      · exact g_f_M_begin_B65 _ _ _ _ _ _ _ hS
theorem g_f_M_begin_B25 {S0 : AS}  (S : AS) (x0 : Option Nat) (x1 : Int32) (x2 : Int32) (x3 : Int32) (hS : GF S0 S) : G2 S0 (f_M_begin_B25 S x0 x1 x2 x3) := by
  unfold f_M_begin_B25
  exact g_f_M_begin_B26 _ _ _ _ _ _ hS
theorem g_f_M_begin {S0 : AS}  (S : AS) (a0 : Option Nat) (a1 : Int32) (a2 : Int32) (a3 : Int32) (hS : GF S0 S) : G2 S0 (f_M_begin S a0 a1 a2 a3) := by
  unfold f_M_begin
  refine g2_b2 (g_f_M_isSix _ _ hS) (fun v30 S29 hS29 => ?_)
  refine g2_if ?_ ?_
  · exact g_f_M_begin_B25 _ _ _ _ _ hS29
  · refine g2_b2 (g_f_M_isSix _ _ hS29) (fun v32 S31 hS31 => ?_)
    refine g2_if ?_ ?_
    · exact g_f_M_begin_B25 _ _ _ _ _ hS31
    · refine g2_b2 (g_f_M_isSix _ _ hS31) (fun v34 S33 hS33 => ?_)
      refine g2_if ?_ ?_
      · exact g_f_M_begin_B25 _ _ _ _ _ hS33
      · exact g_f_M_begin_B26 _ _ _ _ _ _ hS33
theorem g_f_M_isAttempt {S0 : AS}  (S : AS) (a0 : Option Nat) (a1 : Int32) (hS : GF S0 S) : G2 S0 (f_M_isAttempt S a0 a1) := by
  unfold f_M_isAttempt
  refine g2_rd (fun v1 => ?_)
  refine g2_b2 (g_f_M_isIn _ _ _ _ hS) (fun v3 S2 hS2 => ?_)
  refine g2_rd (fun u4 => ?_)
  exact g2_ret hS2
theorem g_f_M_mayAll_B26 {S0 : AS}  (S : AS) (x0 : Option Nat) (y0 : Option Nat) (y1 : Int32) (hS : GF S0 S) : G2 S0 (f_M_mayAll_B26 S x0 y0 y1) := by
  unfold f_M_mayAll_B26
  refine g2_bd (g1_pI hS) (fun S1 hS1 => ?_)
  refine g2_rd (fun v2 => ?_)
  refine g2_if ?_ ?_
  · exact g2_ret hS1
  · exact g2_ret hS1
theorem g_f_M_mayAll {S0 : AS}  (S : AS) (a0 : Option Nat) (a1 : Int32) (a2 : Int32) (a3 : Int32) (hS : GF S0 S) : G2 S0 (f_M_mayAll S a0 a1 a2 a3) := by
  unfold f_M_mayAll
  refine g2_if ?_ ?_
  · exact g_f_M_mayAll_B26 _ _ _ _ hS
  · refine g2_if ?_ ?_
    · exact g_f_M_mayAll_B26 _ _ _ _ hS
    · refine g2_if ?_ ?_
      · exact g_f_M_mayAll_B26 _ _ _ _ hS
      · exact g_f_M_mayAll_B26 _ _ _ _ hS
theorem g_f_M_suspend {S0 : AS}  (S : AS) (a0 : Option Nat) (a1 : Int32) (a2 : Int32) (hS : GF S0 S) : G1 S0 (f_M_suspend S a0 a1 a2) := by
  unfold f_M_suspend
  refine g1_rd (fun v1 => ?_)
  refine g1_bd (g1_bI hS) (fun S2 hS2 => ?_)
  refine g1_rd (fun u3 => ?_)
  refine g1_bd (g_f_M_write _ _ _ _ hS2) (fun S4 hS4 => ?_)
  exact g1_ret hS4
theorem g_f_M_answers_B118 {S0 : AS}  (S : AS) (x0 : Option Nat) (x1 : Int32) (hS : GF S0 S) : G2 S0 (f_M_answers_B118 S x0 x1) := by
  unfold f_M_answers_B118
  refine g2_rd (fun v1 => ?_)
  refine g2_rd (fun v2 => ?_)
  refine g2_rd (fun v3 => ?_)
  refine g2_bd (g1_bI hS) (fun S4 hS4 => ?_)
  refine g2_rd (fun v5 => ?_)
  refine g2_rd (fun v6 => ?_)
  refine g2_rd (fun v7 => ?_)
  refine g2_bd (g1_bI hS4) (fun S8 hS8 => ?_)
  refine g2_rd (fun v9 => ?_)
  refine g2_rd (fun v10 => ?_)
  refine g2_bd (g1_bI hS8) (fun S11 hS11 => ?_)
  exact g2_ret hS11
theorem g_f_M_answers_B112 {S0 : AS}  (S : AS) (x0 : Option Nat) (x1 : Int32) (x2 : Int32) (hS : GF S0 S) : G2 S0 (f_M_answers_B112 S x0 x1 x2) := by
  unfold f_M_answers_B112
  refine g2_rd (fun u12 => ?_)
  refine g2_bd (g_f_M_suspend _ _ _ _ hS) (fun S13 hS13 => ?_)
  exact g_f_M_answers_B118 _ _ _ hS13
theorem g_f_M_answers_B94 {S0 : AS}  (S : AS) (x0 : Option Nat) (x1 : Int32) (x2 : Int32) (x5 : Int32) (x6 : Int32) (y0 : Option Nat) (y1 : Int32) (y2 : Int32) (y3 : Int32) (hS : GF S0 S) : G2 S0 (f_M_answers_B94 S x0 x1 x2 x5 x6 y0 y1 y2 y3) := by
  unfold f_M_answers_B94
  refine g2_bd (g1_bI hS) (fun S14 hS14 => ?_)
  refine g2_if ?_ ?_
  · refine g2_rd (fun v15 => ?_)
    refine g2_rd (fun v16 => ?_)
    refine g2_if ?_ ?_
    · exact g_f_M_answers_B112 _ _ _ _ hS14
    · exact g_f_M_answers_B118 _ _ _ hS14
  · exact g_f_M_answers_B112 _ _ _ _ hS14
theorem g_f_M_answers_B77 {S0 : AS}  (S : AS) (x0 : Option Nat) (x1 : Int32) (x2 : Int32) (x3 : Int32) (x5 : Int32) (x6 : Int32) (hS : GF S0 S) : G2 S0 (f_M_answers_B77 S x0 x1 x2 x3 x5 x6) := by
  unfold f_M_answers_B77
  refine g2_rd (fun v17 => ?_)
  refine g2_rd (fun v18 => ?_)
  refine g2_if ?_ ?_
  · exact g_f_M_answers_B94 _ _ _ _ _ _ _ _ _ _ hS
  · exact g_f_M_answers_B94 _ _ _ _ _ _ _ _ _ _ hS
theorem g_f_M_answers_B43 {S0 : AS}  (S : AS) (x0 : Option Nat) (x1 : Int32) (x2 : Int32) (x3 : Int32) (x4 : Int32) (x5 : Int32) (y0 : Int32) (hS : GF S0 S) : G2 S0 (f_M_answers_B43 S x0 x1 x2 x3 x4 x5 y0) := by
  unfold f_M_answers_B43
  refine g2_if ?_ ?_
  · exact g_f_M_answers_B77 _ _ _ _ _ _ _ hS
  · refine g2_if ?_ ?_
    · refine g2_rd (fun v19 => ?_)
      refine g2_bd (g1_bI hS) (fun S20 hS20 => ?_)
      refine g2_if ?_ ?_
      · refine g2_rd (fun v21 => ?_)
        refine g2_bd (g1_bI hS20) (fun S22 hS22 => ?_)
        exact g2_ret hS22
      · exact g2_ret hS20
    · exact g_f_M_answers_B77 _ _ _ _ _ _ _ hS
theorem g_f_M_answers_B42 {S0 : AS}  (S : AS) (x0 : Option Nat) (x1 : Int32) (x2 : Int32) (x3 : Int32) (x4 : Int32) (x5 : Int32) (hS : GF S0 S) : G2 S0 (f_M_answers_B42 S x0 x1 x2 x3 x4 x5) := by
  unfold f_M_answers_B42
  exact g_f_M_answers_B43 _ _ _ _ _ _ _ _ hS
theorem g_f_M_answers {S0 : AS}  (S : AS) (a0 : Option Nat) (a1 : Int32) (a2 : Int32) (a3 : Int32) (a4 : Int32) (hS : GF S0 S) : G2 S0 (f_M_answers S a0 a1 a2 a3 a4) := by
  unfold f_M_answers
  refine g2_rd (fun i23 => ?_)
  refine g2_rd (fun v24 => ?_)
  refine g2_rd (fun v25 => ?_)
  refine g2_if ?_ ?_
  · refine g2_if ?_ ?_
    · refine g2_if ?_ ?_
      · exact g_f_M_answers_B42 _ _ _ _ _ _ _ hS
      · refine g2_rd (fun v26 => ?_)
        refine g2_rd (fun v27 => ?_)
        refine g2_if ?_ ?_
        · exact g_f_M_answers_B42 _ _ _ _ _ _ _ hS
        · exact g_f_M_answers_B43 _ _ _ _ _ _ _ _ hS
    · exact g_f_M_answers_B42 _ _ _ _ _ _ _ hS
  · exact g_f_M_answers_B118 _ _ _ hS
theorem g_f_M_answer_B195 {S0 : AS}  (S : AS) (x0 : Option Nat) (x1 : Int32) (hS : GF S0 S) : G2 S0 (f_M_answer_B195 S x0 x1) := by
  unfold f_M_answer_B195
  refine g2_rd (fun v1 => ?_)
  refine g2_rd (fun v2 => ?_)
  exact g2_ret hS
theorem g_f_M_answer_B168 {S0 : AS}  (S : AS) (x0 : Option Nat) (x1 : Int32) (hS : GF S0 S) : G2 S0 (f_M_answer_B168 S x0 x1) := by
  unfold f_M_answer_B168
  refine g2_rd (fun v3 => ?_)
  refine g2_rd (fun v4 => ?_)
  refine g2_if ?_ ?_
  · refine g2_rd (fun v5 => ?_)
    refine g2_rd (fun v6 => ?_)
    refine g2_if ?_ ?_
    · refine g2_rd (fun v7 => ?_)
      refine g2_bd (g1_bI hS) (fun S8 hS8 => ?_)
      exact g_f_M_answer_B195 _ _ _ hS8
    · exact g_f_M_answer_B195 _ _ _ hS
  · exact g_f_M_answer_B195 _ _ _ hS
theorem g_f_M_answer_B37 {S0 : AS}  (S : AS) (x0 : Option Nat) (x1 : Int32) (x2 : Int32) (x3 : Int32) (y0 : Option Nat) (y1 : Int32) (y2 : Int32) (y3 : Int32) (hS : GF S0 S) : G2 S0 (f_M_answer_B37 S x0 x1 x2 x3 y0 y1 y2 y3) := by
  unfold f_M_answer_B37
  refine g2_rd (fun u9 => ?_)
  refine g2_b2 (g_f_M_mayAll _ _ _ _ _ hS) (fun v11 S10 hS10 => ?_)
  refine g2_if ?_ ?_
  · exact g2_ret hS10
  · refine g2_rd (fun v12 => ?_)
    refine g2_rd (fun v13 => ?_)
    refine g2_rd (fun v14 => ?_)
    refine g2_rd (fun v15 => ?_)
    refine g2_rd (fun i16 => ?_)
    refine g2_rd (fun v17 => ?_)
    refine g2_rd (fun v18 => ?_)
    refine g2_bd (g1_bI hS10) (fun S19 hS19 => ?_)
    refine g2_rd (fun v20 => ?_)
    refine g2_rd (fun v21 => ?_)
    refine g2_rd (fun v22 => ?_)
    refine g2_rd (fun v23 => ?_)
    refine g2_rd (fun u24 => ?_)
    refine g2_b2 (g_f_M_answers _ _ _ _ _ _ hS19) (fun v26 S25 hS25 => ?_)
    refine g2_if ?_ ?_
    · refine g2_rd (fun v27 => ?_)
      refine g2_rd (fun v28 => ?_)
      refine g2_bd (g1_bI hS25) (fun S29 hS29 => ?_)
      refine g2_rd (fun v30 => ?_)
      refine g2_rd (fun v31 => ?_)
      refine g2_rd (fun v32 => ?_)
      refine g2_rd (fun v33 => ?_)
      refine g2_if ?_ ?_
      · refine g2_rd (fun v34 => ?_)
        refine g2_rd (fun v35 => ?_)
        refine g2_rd (fun u36 => ?_)
        refine g2_bd (g_f_M_go _ _ _ _ hS29) (fun S37 hS37 => ?_)
        exact g_f_M_answer_B168 _ _ _ hS37
      · exact g_f_M_answer_B168 _ _ _ hS29
    · refine g2_rd (fun v38 => ?_)
      refine g2_rd (fun v39 => ?_)
      refine g2_rd (fun v40 => ?_)
      refine g2_rd (fun v41 => ?_)
      refine g2_bd (g1_bI hS25) (fun S42 hS42 => ?_)
      refine g2_rd (fun v43 => ?_)
      refine g2_rd (fun v44 => ?_)
      refine g2_rd (fun u45 => ?_)
      refine g2_bd (g_f_M_go _ _ _ _ hS42) (fun S46 hS46 => ?_)
      exact g_f_M_answer_B168 _ _ _ hS46
theorem g_f_M_answer_B36 {S0 : AS}  (S : AS) (x0 : Option Nat) (x1 : Int32) (x2 : Int32) (x3 : Int32) (y0 : Option Nat) (y1 : Int32) (y2 : Int32) (hS : GF S0 S) : G2 S0 (f_M_answer_B36 S x0 x1 x2 x3 y0 y1 y2) := by
  unfold f_M_answer_B36
  exact g_f_M_answer_B37 _ _ _ _ _ _ _ _ _ hS
theorem g_f_M_answer {S0 : AS}  (S : AS) (a0 : Option Nat) (a1 : Int32) (a2 : Int32) (a3 : Int32) (hS : GF S0 S) : G2 S0 (f_M_answer S a0 a1 a2 a3) := by
  unfold f_M_answer
  refine g2_rd (fun u47 => ?_)
  refine g2_b2 (g_f_M_isAttempt _ _ _ hS) (fun v49 S48 hS48 => ?_)
  refine g2_b2 (g_f_M_isIn _ _ _ _ hS48) (fun v51 S50 hS50 => ?_)
  refine g2_if ?_ ?_
  · exact g_f_M_answer_B36 _ _ _ _ _ _ _ _ hS50
  · refine g2_rd (fun v52 => ?_)
    refine g2_rd (fun v53 => ?_)
    refine g2_if ?_ ?_
    · exact g_f_M_answer_B37 _ _ _ _ _ _ _ _ _ hS50
    · exact g_f_M_answer_B36 _ _ _ _ _ _ _ _ hS50
theorem g_f_M_state {S0 : AS}  (S : AS) (a0 : Option Nat) (a1 : Int32) (hS : GF S0 S) : G2 S0 (f_M_state S a0 a1) := by
  unfold f_M_state
  refine g2_rd (fun u1 => ?_)
  refine g2_b2 (g_f_M_isAttempt _ _ _ hS) (fun v3 S2 hS2 => ?_)
  refine g2_rd (fun u4 => ?_)
  refine g2_b2 (g_f_M_may _ _ _ hS2) (fun v6 S5 hS5 => ?_)
  refine g2_if ?_ ?_
  · exact g2_ret hS5
  · refine g2_rd (fun v7 => ?_)
    refine g2_rd (fun v8 => ?_)
    exact g2_ret hS5
theorem g_f_M_asked {S0 : AS}  (S : AS) (a0 : Option Nat) (a1 : Int32) (hS : GF S0 S) : G2 S0 (f_M_asked S a0 a1) := by
  unfold f_M_asked
  refine g2_rd (fun u1 => ?_)
  refine g2_b2 (g_f_M_isAttempt _ _ _ hS) (fun v3 S2 hS2 => ?_)
  refine g2_rd (fun u4 => ?_)
  refine g2_b2 (g_f_M_may _ _ _ hS2) (fun v6 S5 hS5 => ?_)
  refine g2_if ?_ ?_
  · exact g2_ret hS5
  · refine g2_rd (fun v7 => ?_)
    refine g2_rd (fun v8 => ?_)
    refine g2_if ?_ ?_
    · refine g2_rd (fun v9 => ?_)
      refine g2_rd (fun v10 => ?_)
      refine g2_rd (fun v11 => ?_)
      refine g2_rd (fun v12 => ?_)
      refine g2_rd (fun v13 => ?_)
      refine g2_rd (fun v14 => ?_)
      exact g2_ret hS5
    · exact g2_ret hS5
theorem g_f_M_sessionOf {S0 : AS}  (S : AS) (a0 : Option Nat) (a1 : Int32) (hS : GF S0 S) : G2 S0 (f_M_sessionOf S a0 a1) := by
  unfold f_M_sessionOf
  refine g2_rd (fun u1 => ?_)
  refine g2_b2 (g_f_M_isAttempt _ _ _ hS) (fun v3 S2 hS2 => ?_)
  refine g2_rd (fun u4 => ?_)
  refine g2_b2 (g_f_M_may _ _ _ hS2) (fun v6 S5 hS5 => ?_)
  refine g2_if ?_ ?_
  · exact g2_ret hS5
  · refine g2_rd (fun v7 => ?_)
    refine g2_rd (fun v8 => ?_)
    exact g2_ret hS5
theorem g_f_M_risk {S0 : AS}  (S : AS) (a0 : Option Nat) (a1 : Int32) (hS : GF S0 S) : G2 S0 (f_M_risk S a0 a1) := by
  unfold f_M_risk
  refine g2_rd (fun u1 => ?_)
  refine g2_b2 (g_f_M_isAttempt _ _ _ hS) (fun v3 S2 hS2 => ?_)
  refine g2_rd (fun u4 => ?_)
  refine g2_b2 (g_f_M_may _ _ _ hS2) (fun v6 S5 hS5 => ?_)
  refine g2_if ?_ ?_
  · exact g2_ret hS5
  · refine g2_rd (fun u7 => ?_)
    refine g2_b2 (g_f_M_riskOf _ _ _ _ hS5) (fun v9 S8 hS8 => ?_)
    exact g2_ret hS8
theorem g_f_M_trialRisk {S0 : AS}  (S : AS) (a0 : Option Nat) (a1 : Int32) (hS : GF S0 S) : G2 S0 (f_M_trialRisk S a0 a1) := by
  unfold f_M_trialRisk
  refine g2_rd (fun u1 => ?_)
  refine g2_b2 (g_f_M_isAttempt _ _ _ hS) (fun v3 S2 hS2 => ?_)
  refine g2_rd (fun u4 => ?_)
  refine g2_b2 (g_f_M_may _ _ _ hS2) (fun v6 S5 hS5 => ?_)
  refine g2_if ?_ ?_
  · exact g2_ret hS5
  · refine g2_rd (fun u7 => ?_)
    refine g2_b2 (g_f_M_riskOf _ _ _ _ hS5) (fun v9 S8 hS8 => ?_)
    exact g2_ret hS8
theorem g_f_M_sessions {S0 : AS}  (S : AS) (a0 : Option Nat) (hS : GF S0 S) : G2 S0 (f_M_sessions S a0) := by
  unfold f_M_sessions
  refine g2_bd (g1_pI hS) (fun S1 hS1 => ?_)
  refine g2_rd (fun v2 => ?_)
  exact g2_ret hS1
theorem g_f_M_isSession {S0 : AS}  (S : AS) (a0 : Option Nat) (a1 : Int32) (hS : GF S0 S) : G2 S0 (f_M_isSession S a0 a1) := by
  unfold f_M_isSession
  refine g2_rd (fun v1 => ?_)
  refine g2_b2 (g_f_M_isIn _ _ _ _ hS) (fun v3 S2 hS2 => ?_)
  refine g2_rd (fun u4 => ?_)
  exact g2_ret hS2
theorem g_f_M_isLive {S0 : AS}  (S : AS) (a0 : Option Nat) (a1 : Int32) (hS : GF S0 S) : G2 S0 (f_M_isLive S a0 a1) := by
  unfold f_M_isLive
  refine g2_rd (fun u1 => ?_)
  refine g2_b2 (g_f_M_isSession _ _ _ hS) (fun v3 S2 hS2 => ?_)
  refine g2_rd (fun u4 => ?_)
  refine g2_b2 (g_f_M_may _ _ _ hS2) (fun v6 S5 hS5 => ?_)
  refine g2_if ?_ ?_
  · exact g2_ret hS5
  · refine g2_rd (fun v7 => ?_)
    refine g2_rd (fun v8 => ?_)
    refine g2_if ?_ ?_
    · exact g2_ret hS5
    · exact g2_ret hS5
theorem g_f_M_isLiveByAudit_B64 {S0 : AS} {k18 : AS → Option Nat → Int32 → Int32 → Int32 → Option (Int32 × AS)} (hk18 : ∀ (z0 : AS) (z1 : Option Nat) (z2 : Int32) (z3 : Int32) (z4 : Int32), GF S0 z0 → G2 S0 (k18 z0 z1 z2 z3 z4)) (S : AS) (x0 : Option Nat) (x1 : Int32) (x3 : Int32) (y0 : Int32) (hS : GF S0 S) : G2 S0 (f_M_isLiveByAudit_B64 k18 S x0 x1 x3 y0) := by
  unfold f_M_isLiveByAudit_B64
  refine g2_rd (fun i1 => ?_)
  exact hk18 _ _ _ _ _ hS
theorem g_f_M_isLiveByAudit_B63 {S0 : AS} {k18 : AS → Option Nat → Int32 → Int32 → Int32 → Option (Int32 × AS)} (hk18 : ∀ (z0 : AS) (z1 : Option Nat) (z2 : Int32) (z3 : Int32) (z4 : Int32), GF S0 z0 → G2 S0 (k18 z0 z1 z2 z3 z4)) (S : AS) (x0 : Option Nat) (x1 : Int32) (x2 : Int32) (x3 : Int32) (hS : GF S0 S) : G2 S0 (f_M_isLiveByAudit_B63 k18 S x0 x1 x2 x3) := by
  unfold f_M_isLiveByAudit_B63
  exact g_f_M_isLiveByAudit_B64 hk18 _ _ _ _ _ hS
theorem g_f_M_isLiveByAudit_C18 {S0 : AS} {k18 : AS → Option Nat → Int32 → Int32 → Int32 → Option (Int32 × AS)} (hk18 : ∀ (z0 : AS) (z1 : Option Nat) (z2 : Int32) (z3 : Int32) (z4 : Int32), GF S0 z0 → G2 S0 (k18 z0 z1 z2 z3 z4)) (S : AS) (x0 : Option Nat) (x1 : Int32) (x2 : Int32) (x3 : Int32) (hS : GF S0 S) : G2 S0 (f_M_isLiveByAudit_C18 k18 S x0 x1 x2 x3) := by
  unfold f_M_isLiveByAudit_C18
  refine g2_rd (fun v2 => ?_)
  refine g2_if ?_ ?_
  · refine g2_rd (fun u3 => ?_)
    exact g2_ret hS
  · refine g2_rd (fun v4 => ?_)
    refine g2_rd (fun v5 => ?_)
    refine g2_if ?_ ?_
    · refine g2_rd (fun v6 => ?_)
      refine g2_rd (fun v7 => ?_)
      refine g2_if ?_ ?_
      · exact g_f_M_isLiveByAudit_B63 hk18 _ _ _ _ _ hS
      · refine g2_rd (fun v8 => ?_)
        refine g2_rd (fun v9 => ?_)
        refine g2_if ?_ ?_
        · exact g_f_M_isLiveByAudit_B64 hk18 _ _ _ _ _ hS
        · exact g_f_M_isLiveByAudit_B64 hk18 _ _ _ _ _ hS
    · exact g_f_M_isLiveByAudit_B63 hk18 _ _ _ _ _ hS
theorem g_f_M_isLiveByAudit_L18 {S0 : AS}  : ∀ (n : Nat) (z0 : AS) (z1 : Option Nat) (z2 : Int32) (z3 : Int32) (z4 : Int32), GF S0 z0 → G2 S0 (f_M_isLiveByAudit_L18 n z0 z1 z2 z3 z4)
  | 0, _, _, _, _, _, _ => g2_no
  | n + 1, z0, z1, z2, z3, z4, h => g_f_M_isLiveByAudit_C18 (g_f_M_isLiveByAudit_L18 n) z0 z1 z2 z3 z4 h
theorem g_f_M_isLiveByAudit {S0 : AS}  (S : AS) (a0 : Option Nat) (a1 : Int32) (hS : GF S0 S) : G2 S0 (f_M_isLiveByAudit S a0 a1) := by
  unfold f_M_isLiveByAudit
  refine g2_rd (fun u10 => ?_)
  refine g2_b2 (g_f_M_isSession _ _ _ hS) (fun v12 S11 hS11 => ?_)
  refine g2_rd (fun u13 => ?_)
  refine g2_b2 (g_f_M_may _ _ _ hS11) (fun v15 S14 hS14 => ?_)
  refine g2_if ?_ ?_
  · exact g2_ret hS14
  · exact g_f_M_isLiveByAudit_L18 _ _ _ _ _ _ hS14
theorem g_f_M_levelNow_B47 {S0 : AS} {k4 : AS → Option Nat → Int32 → Int32 → Int32 → Option (Int32 × AS)} (hk4 : ∀ (z0 : AS) (z1 : Option Nat) (z2 : Int32) (z3 : Int32) (z4 : Int32), GF S0 z0 → G2 S0 (k4 z0 z1 z2 z3 z4)) (S : AS) (x0 : Option Nat) (x1 : Int32) (x3 : Int32) (y0 : Int32) (y1 : Int32) (hS : GF S0 S) : G2 S0 (f_M_levelNow_B47 k4 S x0 x1 x3 y0 y1) := by
  unfold f_M_levelNow_B47
  refine g2_rd (fun i1 => ?_)
  refine g2_rd (fun i2 => ?_)
  exact hk4 _ _ _ _ _ hS
theorem g_f_M_levelNow_B46 {S0 : AS} {k4 : AS → Option Nat → Int32 → Int32 → Int32 → Option (Int32 × AS)} (hk4 : ∀ (z0 : AS) (z1 : Option Nat) (z2 : Int32) (z3 : Int32) (z4 : Int32), GF S0 z0 → G2 S0 (k4 z0 z1 z2 z3 z4)) (S : AS) (x0 : Option Nat) (x1 : Int32) (x3 : Int32) (y0 : Int32) (hS : GF S0 S) : G2 S0 (f_M_levelNow_B46 k4 S x0 x1 x3 y0) := by
  unfold f_M_levelNow_B46
  exact g_f_M_levelNow_B47 hk4 _ _ _ _ _ _ hS
theorem g_f_M_levelNow_C4 {S0 : AS} {k4 : AS → Option Nat → Int32 → Int32 → Int32 → Option (Int32 × AS)} (hk4 : ∀ (z0 : AS) (z1 : Option Nat) (z2 : Int32) (z3 : Int32) (z4 : Int32), GF S0 z0 → G2 S0 (k4 z0 z1 z2 z3 z4)) (S : AS) (x0 : Option Nat) (x1 : Int32) (x2 : Int32) (x3 : Int32) (hS : GF S0 S) : G2 S0 (f_M_levelNow_C4 k4 S x0 x1 x2 x3) := by
  unfold f_M_levelNow_C4
  refine g2_if ?_ ?_
  · refine g2_b2 (g_f_M_levelOf _ _ hS) (fun v4 S3 hS3 => ?_)
    exact g2_ret hS3
  · refine g2_rd (fun v5 => ?_)
    refine g2_rd (fun v6 => ?_)
    refine g2_if ?_ ?_
    · exact g_f_M_levelNow_B46 hk4 _ _ _ _ _ hS
    · refine g2_rd (fun v7 => ?_)
      refine g2_if ?_ ?_
      · exact g_f_M_levelNow_B46 hk4 _ _ _ _ _ hS
      · exact g_f_M_levelNow_B47 hk4 _ _ _ _ _ _ hS
theorem g_f_M_levelNow_L4 {S0 : AS}  : ∀ (n : Nat) (z0 : AS) (z1 : Option Nat) (z2 : Int32) (z3 : Int32) (z4 : Int32), GF S0 z0 → G2 S0 (f_M_levelNow_L4 n z0 z1 z2 z3 z4)
  | 0, _, _, _, _, _, _ => g2_no
  | n + 1, z0, z1, z2, z3, z4, h => g_f_M_levelNow_C4 (g_f_M_levelNow_L4 n) z0 z1 z2 z3 z4 h
theorem g_f_M_levelNow {S0 : AS}  (S : AS) (a0 : Option Nat) (a1 : Int32) (hS : GF S0 S) : G2 S0 (f_M_levelNow S a0 a1) := by
  unfold f_M_levelNow
  exact g_f_M_levelNow_L4 _ _ _ _ _ _ hS
theorem g_f_M_level {S0 : AS}  (S : AS) (a0 : Option Nat) (a1 : Int32) (hS : GF S0 S) : G2 S0 (f_M_level S a0 a1) := by
  unfold f_M_level
  refine g2_rd (fun u1 => ?_)
  refine g2_b2 (g_f_M_isSession _ _ _ hS) (fun v3 S2 hS2 => ?_)
  refine g2_rd (fun u4 => ?_)
  refine g2_b2 (g_f_M_may _ _ _ hS2) (fun v6 S5 hS5 => ?_)
  refine g2_if ?_ ?_
  · exact g2_ret hS5
  · refine g2_rd (fun u7 => ?_)
    refine g2_b2 (g_f_M_levelNow _ _ _ hS5) (fun v9 S8 hS8 => ?_)
    exact g2_ret hS8
theorem g_f_M_stepUp_B112 {S0 : AS}  (S : AS) (x0 : Option Nat) (x1 : Int32) (hS : GF S0 S) : G2 S0 (f_M_stepUp_B112 S x0 x1) := by
  unfold f_M_stepUp_B112
  refine g2_rd (fun u1 => ?_)
  refine g2_b2 (g_f_M_levelNow _ _ _ hS) (fun v3 S2 hS2 => ?_)
  exact g2_ret hS2
theorem g_f_M_stepUp_B63 {S0 : AS}  (S : AS) (x0 : Option Nat) (x1 : Int32) (x2 : Int32) (x3 : Int32) (x4 : Int32) (y0 : Option Nat) (y1 : Int32) (y2 : Int32) (y3 : Int32) (hS : GF S0 S) : G2 S0 (f_M_stepUp_B63 S x0 x1 x2 x3 x4 y0 y1 y2 y3) := by
  unfold f_M_stepUp_B63
  refine g2_rd (fun u4 => ?_)
  refine g2_b2 (g_f_M_mayAll _ _ _ _ _ hS) (fun v6 S5 hS5 => ?_)
  refine g2_if ?_ ?_
  · exact g2_ret hS5
  · refine g2_rd (fun v7 => ?_)
    refine g2_rd (fun v8 => ?_)
    refine g2_bd (g1_bI hS5) (fun S9 hS9 => ?_)
    refine g2_rd (fun v10 => ?_)
    refine g2_rd (fun v11 => ?_)
    refine g2_rd (fun u12 => ?_)
    refine g2_b2 (g_f_M_answers _ _ _ _ _ _ hS9) (fun v14 S13 hS13 => ?_)
    refine g2_if ?_ ?_
    · exact g_f_M_stepUp_B112 _ _ _ hS13
    · refine g2_rd (fun v15 => ?_)
      refine g2_rd (fun v16 => ?_)
      refine g2_bd (g1_bI hS13) (fun S17 hS17 => ?_)
      exact g_f_M_stepUp_B112 _ _ _ hS17
theorem g_f_M_stepUp_B62 {S0 : AS}  (S : AS) (x0 : Option Nat) (x1 : Int32) (x2 : Int32) (x3 : Int32) (x4 : Int32) (y0 : Option Nat) (y1 : Int32) (y2 : Int32) (hS : GF S0 S) : G2 S0 (f_M_stepUp_B62 S x0 x1 x2 x3 x4 y0 y1 y2) := by
  unfold f_M_stepUp_B62
  exact g_f_M_stepUp_B63 _ _ _ _ _ _ _ _ _ _ hS
theorem g_f_M_stepUp_B34 {S0 : AS}  (S : AS) (x0 : Option Nat) (x1 : Int32) (x2 : Int32) (x3 : Int32) (x4 : Int32) (x5 : Int32) (y0 : Option Nat) (y1 : Int32) (y2 : Int32) (hS : GF S0 S) : G2 S0 (f_M_stepUp_B34 S x0 x1 x2 x3 x4 x5 y0 y1 y2) := by
  unfold f_M_stepUp_B34
  refine g2_if ?_ ?_
  · exact g_f_M_stepUp_B62 _ _ _ _ _ _ _ _ _ hS
  · refine g2_rd (fun v18 => ?_)
    refine g2_rd (fun v19 => ?_)
    refine g2_if ?_ ?_
    · exact g_f_M_stepUp_B62 _ _ _ _ _ _ _ _ _ hS
    · refine g2_rd (fun v20 => ?_)
      refine g2_rd (fun v21 => ?_)
      refine g2_if ?_ ?_
      · exact g_f_M_stepUp_B63 _ _ _ _ _ _ _ _ _ _ hS
      · exact g_f_M_stepUp_B62 _ _ _ _ _ _ _ _ _ hS
theorem g_f_M_stepUp_B33 {S0 : AS}  (S : AS) (x0 : Option Nat) (x1 : Int32) (x2 : Int32) (x3 : Int32) (x4 : Int32) (x5 : Int32) (y0 : Option Nat) (y1 : Int32) (hS : GF S0 S) : G2 S0 (f_M_stepUp_B33 S x0 x1 x2 x3 x4 x5 y0 y1) := by
  unfold f_M_stepUp_B33
  exact g_f_M_stepUp_B34 _ _ _ _ _ _ _ _ _ _ hS
theorem g_f_M_stepUp {S0 : AS}  (S : AS) (a0 : Option Nat) (a1 : Int32) (a2 : Int32) (a3 : Int32) (a4 : Int32) (hS : GF S0 S) : G2 S0 (f_M_stepUp S a0 a1 a2 a3 a4) := by
  unfold f_M_stepUp
  refine g2_rd (fun u22 => ?_)
  refine g2_b2 (g_f_M_isSession _ _ _ hS) (fun v24 S23 hS23 => ?_)
  refine g2_b2 (g_f_M_isFactor _ _ hS23) (fun v26 S25 hS25 => ?_)
  refine g2_if ?_ ?_
  · exact g_f_M_stepUp_B33 _ _ _ _ _ _ _ _ _ hS25
  · refine g2_b2 (g_f_M_isIn _ _ _ _ hS25) (fun v28 S27 hS27 => ?_)
    refine g2_if ?_ ?_
    · exact g_f_M_stepUp_B33 _ _ _ _ _ _ _ _ _ hS27
    · exact g_f_M_stepUp_B34 _ _ _ _ _ _ _ _ _ _ hS27
theorem g_f_M_signOut_B26 {S0 : AS}  (S : AS) (x0 : Option Nat) (x1 : Int32) (y0 : Option Nat) (y1 : Int32) (y2 : Int32) (hS : GF S0 S) : G2 S0 (f_M_signOut_B26 S x0 x1 y0 y1 y2) := by
  unfold f_M_signOut_B26
  refine g2_rd (fun u1 => ?_)
  refine g2_b2 (g_f_M_mayBoth _ _ _ _ hS) (fun v3 S2 hS2 => ?_)
  refine g2_if ?_ ?_
  · exact g2_ret hS2
  · refine g2_rd (fun u4 => ?_)
    refine g2_b2 (g_f_M_endSession _ _ _ hS2) (fun v6 S5 hS5 => ?_)
    exact g2_ret hS5
theorem g_f_M_signOut_B25 {S0 : AS}  (S : AS) (x0 : Option Nat) (x1 : Int32) (y0 : Option Nat) (y1 : Int32) (hS : GF S0 S) : G2 S0 (f_M_signOut_B25 S x0 x1 y0 y1) := by
  unfold f_M_signOut_B25
  exact g_f_M_signOut_B26 _ _ _ _ _ _ hS
theorem g_f_M_signOut {S0 : AS}  (S : AS) (a0 : Option Nat) (a1 : Int32) (hS : GF S0 S) : G2 S0 (f_M_signOut S a0 a1) := by
  unfold f_M_signOut
  refine g2_rd (fun u7 => ?_)
  refine g2_b2 (g_f_M_isSession _ _ _ hS) (fun v9 S8 hS8 => ?_)
  refine g2_if ?_ ?_
  · exact g_f_M_signOut_B25 _ _ _ _ _ hS8
  · refine g2_rd (fun v10 => ?_)
    refine g2_rd (fun v11 => ?_)
    refine g2_if ?_ ?_
    · exact g_f_M_signOut_B25 _ _ _ _ _ hS8
    · exact g_f_M_signOut_B26 _ _ _ _ _ _ hS8
theorem g_f_M_helper_B32 {S0 : AS}  (S : AS) (x0 : Option Nat) (x1 : Int32) (y0 : Option Nat) (y1 : Int32) (y2 : Int32) (hS : GF S0 S) : G2 S0 (f_M_helper_B32 S x0 x1 y0 y1 y2) := by
  unfold f_M_helper_B32
  refine g2_bd (g1_bZ hS) (fun S1 hS1 => ?_)
  refine g2_rd (fun v2 => ?_)
  refine g2_rd (fun v3 => ?_)
  refine g2_rd (fun u4 => ?_)
  exact g2_ret hS1
theorem g_f_M_helper {S0 : AS}  (S : AS) (a0 : Option Nat) (a1 : Int32) (hS : GF S0 S) : G2 S0 (f_M_helper S a0 a1) := by
  unfold f_M_helper
  refine g2_b2 (g_f_M_isSix _ _ hS) (fun v6 S5 hS5 => ?_)
  refine g2_rd (fun u7 => ?_)
  refine g2_b2 (g_f_M_may _ _ _ hS5) (fun v9 S8 hS8 => ?_)
  refine g2_if ?_ ?_
  · exact g2_ret hS8
  · refine g2_rd (fun v10 => ?_)
    refine g2_rd (fun v11 => ?_)
    refine g2_rd (fun v12 => ?_)
    refine g2_if ?_ ?_
    · exact g_f_M_helper_B32 _ _ _ _ _ _ hS8
    · exact g_f_M_helper_B32 _ _ _ _ _ _ hS8
theorem g_f_M_act_C137 {S0 : AS} {k137 : AS → Option Nat → Int32 → Int32 → Int32 → Option (Int32 × AS)} (hk137 : ∀ (z0 : AS) (z1 : Option Nat) (z2 : Int32) (z3 : Int32) (z4 : Int32), GF S0 z0 → G2 S0 (k137 z0 z1 z2 z3 z4)) (S : AS) (x0 : Option Nat) (x1 : Int32) (x5 : Int32) (x6 : Int32) (hS : GF S0 S) : G2 S0 (f_M_act_C137 k137 S x0 x1 x5 x6) := by
  unfold f_M_act_C137
  refine g2_if ?_ ?_
  · exact g2_ret hS
  · refine g2_rd (fun v1 => ?_)
    refine g2_rd (fun v2 => ?_)
    refine g2_rd (fun v3 => ?_)
    refine g2_bd (g1_bI hS) (fun S4 hS4 => ?_)
    refine g2_rd (fun i5 => ?_)
    exact hk137 _ _ _ _ _ hS4
theorem g_f_M_act_L137 {S0 : AS}  : ∀ (n : Nat) (z0 : AS) (z1 : Option Nat) (z2 : Int32) (z3 : Int32) (z4 : Int32), GF S0 z0 → G2 S0 (f_M_act_L137 n z0 z1 z2 z3 z4)
  | 0, _, _, _, _, _, _ => g2_no
  | n + 1, z0, z1, z2, z3, z4, h => g_f_M_act_C137 (g_f_M_act_L137 n) z0 z1 z2 z3 z4 h
theorem g_f_M_act_B112 {S0 : AS}  (S : AS) (x0 : Option Nat) (x1 : Int32) (x2 : Int32) (x3 : Int32) (y0 : Int32) (hS : GF S0 S) : G2 S0 (f_M_act_B112 S x0 x1 x2 x3 y0) := by
  unfold f_M_act_B112
  refine g2_rd (fun u6 => ?_)
  refine g2_b2 (g_f_M_mayBoth _ _ _ _ hS) (fun v8 S7 hS7 => ?_)
  refine g2_if ?_ ?_
  · exact g2_ret hS7
  · refine g2_rd (fun u9 => ?_)
    refine g2_b2 (g_f_M_newSession _ _ _ _ hS7) (fun v11 S10 hS10 => ?_)
    exact g_f_M_act_L137 _ _ _ _ _ _ hS10
theorem g_f_M_act_B111 {S0 : AS}  (S : AS) (x0 : Option Nat) (x1 : Int32) (x2 : Int32) (x3 : Int32) (hS : GF S0 S) : G2 S0 (f_M_act_B111 S x0 x1 x2 x3) := by
  unfold f_M_act_B111
  exact g_f_M_act_B112 _ _ _ _ _ _ hS
theorem g_f_M_act_B72 {S0 : AS}  (S : AS) (x0 : Option Nat) (x1 : Int32) (x2 : Int32) (x3 : Int32) (y0 : Int32) (hS : GF S0 S) : G2 S0 (f_M_act_B72 S x0 x1 x2 x3 y0) := by
  unfold f_M_act_B72
  refine g2_if ?_ ?_
  · exact g_f_M_act_B111 _ _ _ _ _ hS
  · refine g2_rd (fun v12 => ?_)
    refine g2_rd (fun v13 => ?_)
    refine g2_if ?_ ?_
    · exact g_f_M_act_B111 _ _ _ _ _ hS
    · refine g2_rd (fun v14 => ?_)
      refine g2_rd (fun v15 => ?_)
      refine g2_if ?_ ?_
      · refine g2_rd (fun v16 => ?_)
        refine g2_if ?_ ?_
        · exact g_f_M_act_B111 _ _ _ _ _ hS
        · exact g_f_M_act_B112 _ _ _ _ _ _ hS
      · exact g_f_M_act_B111 _ _ _ _ _ hS
theorem g_f_M_act_B71 {S0 : AS}  (S : AS) (x0 : Option Nat) (x1 : Int32) (x2 : Int32) (x3 : Int32) (hS : GF S0 S) : G2 S0 (f_M_act_B71 S x0 x1 x2 x3) := by
  unfold f_M_act_B71
  exact g_f_M_act_B72 _ _ _ _ _ _ hS
theorem g_f_M_act_B20 {S0 : AS}  (S : AS) (x0 : Option Nat) (x1 : Int32) (x2 : Int32) (y0 : Int32) (hS : GF S0 S) : G2 S0 (f_M_act_B20 S x0 x1 x2 y0) := by
  unfold f_M_act_B20
  refine g2_if ?_ ?_
  · exact g_f_M_act_B71 _ _ _ _ _ hS
  · refine g2_rd (fun v17 => ?_)
    refine g2_rd (fun v18 => ?_)
    refine g2_if ?_ ?_
    · exact g_f_M_act_B71 _ _ _ _ _ hS
    · refine g2_rd (fun v19 => ?_)
      refine g2_rd (fun v20 => ?_)
      refine g2_if ?_ ?_
      · refine g2_rd (fun u21 => ?_)
        refine g2_b2 (g_f_M_levelNow _ _ _ hS) (fun v23 S22 hS22 => ?_)
        refine g2_if ?_ ?_
        · exact g_f_M_act_B71 _ _ _ _ _ hS22
        · refine g2_rd (fun v24 => ?_)
          refine g2_rd (fun v25 => ?_)
          refine g2_rd (fun v26 => ?_)
          refine g2_rd (fun v27 => ?_)
          refine g2_if ?_ ?_
          · exact g_f_M_act_B71 _ _ _ _ _ hS22
          · exact g_f_M_act_B72 _ _ _ _ _ _ hS22
      · exact g_f_M_act_B71 _ _ _ _ _ hS
theorem g_f_M_act_B19 {S0 : AS}  (S : AS) (x0 : Option Nat) (x1 : Int32) (x2 : Int32) (hS : GF S0 S) : G2 S0 (f_M_act_B19 S x0 x1 x2) := by
  unfold f_M_act_B19
  exact g_f_M_act_B20 _ _ _ _ _ hS
theorem g_f_M_act {S0 : AS}  (S : AS) (a0 : Option Nat) (a1 : Int32) (a2 : Int32) (hS : GF S0 S) : G2 S0 (f_M_act S a0 a1 a2) := by
  unfold f_M_act
  refine g2_rd (fun u28 => ?_)
  refine g2_b2 (g_f_M_isSession _ _ _ hS) (fun v30 S29 hS29 => ?_)
  refine g2_if ?_ ?_
  · exact g_f_M_act_B19 _ _ _ _ hS29
  · refine g2_b2 (g_f_M_isSix _ _ hS29) (fun v32 S31 hS31 => ?_)
    refine g2_if ?_ ?_
    · exact g_f_M_act_B19 _ _ _ _ hS31
    · exact g_f_M_act_B20 _ _ _ _ _ hS31
theorem g_f_M_isService {S0 : AS}  (S : AS) (a0 : Int32) (hS : GF S0 S) : G2 S0 (f_M_isService S a0) := by
  unfold f_M_isService
  refine g2_b2 (g_f_M_isIn _ _ _ _ hS) (fun v2 S1 hS1 => ?_)
  refine g2_rd (fun u3 => ?_)
  exact g2_ret hS1
theorem g_f_M_consent_B53 {S0 : AS}  (S : AS) (x0 : Option Nat) (x2 : Int32) (x3 : Int32) (y0 : Int32) (y1 : Int32) (hS : GF S0 S) : G2 S0 (f_M_consent_B53 S x0 x2 x3 y0 y1) := by
  unfold f_M_consent_B53
  refine g2_rd (fun i1 => ?_)
  refine g2_rd (fun v2 => ?_)
  refine g2_rd (fun v3 => ?_)
  refine g2_bd (g1_bI hS) (fun S4 hS4 => ?_)
  refine g2_rd (fun v5 => ?_)
  refine g2_rd (fun v6 => ?_)
  exact g2_ret hS4
theorem g_f_M_consent_B21 {S0 : AS}  (S : AS) (x0 : Option Nat) (x1 : Int32) (x2 : Int32) (x3 : Int32) (y0 : Int32) (hS : GF S0 S) : G2 S0 (f_M_consent_B21 S x0 x1 x2 x3 y0) := by
  unfold f_M_consent_B21
  refine g2_b2 (g_f_M_isIn _ _ _ _ hS) (fun v8 S7 hS7 => ?_)
  refine g2_rd (fun u9 => ?_)
  refine g2_b2 (g_f_M_mayBoth _ _ _ _ hS7) (fun v11 S10 hS10 => ?_)
  refine g2_if ?_ ?_
  · exact g2_ret hS10
  · refine g2_if ?_ ?_
    · exact g_f_M_consent_B53 _ _ _ _ _ _ hS10
    · exact g_f_M_consent_B53 _ _ _ _ _ _ hS10
theorem g_f_M_consent_B20 {S0 : AS}  (S : AS) (x0 : Option Nat) (x1 : Int32) (x2 : Int32) (x3 : Int32) (hS : GF S0 S) : G2 S0 (f_M_consent_B20 S x0 x1 x2 x3) := by
  unfold f_M_consent_B20
  exact g_f_M_consent_B21 _ _ _ _ _ _ hS
theorem g_f_M_consent {S0 : AS}  (S : AS) (a0 : Option Nat) (a1 : Int32) (a2 : Int32) (a3 : Int32) (hS : GF S0 S) : G2 S0 (f_M_consent S a0 a1 a2 a3) := by
  unfold f_M_consent
  refine g2_b2 (g_f_M_isIn _ _ _ _ hS) (fun v13 S12 hS12 => ?_)
  refine g2_if ?_ ?_
  · exact g_f_M_consent_B20 _ _ _ _ _ hS12
  · refine g2_b2 (g_f_M_isService _ _ hS12) (fun v15 S14 hS14 => ?_)
    refine g2_if ?_ ?_
    · exact g_f_M_consent_B20 _ _ _ _ _ hS14
    · exact g_f_M_consent_B21 _ _ _ _ _ _ hS14
theorem g_f_M_withdraw_B131 {S0 : AS} {k44 : AS → Option Nat → Int32 → Int32 → Int32 → Int32 → Option (Int32 × AS)} (hk44 : ∀ (z0 : AS) (z1 : Option Nat) (z2 : Int32) (z3 : Int32) (z4 : Int32) (z5 : Int32), GF S0 z0 → G2 S0 (k44 z0 z1 z2 z3 z4 z5)) (S : AS) (x0 : Option Nat) (x1 : Int32) (x2 : Int32) (x3 : Int32) (x4 : Int32) (hS : GF S0 S) : G2 S0 (f_M_withdraw_B131 k44 S x0 x1 x2 x3 x4) := by
  unfold f_M_withdraw_B131
  refine g2_rd (fun i1 => ?_)
  exact hk44 _ _ _ _ _ _ hS
theorem g_f_M_withdraw_B118 {S0 : AS} {k44 : AS → Option Nat → Int32 → Int32 → Int32 → Int32 → Option (Int32 × AS)} (hk44 : ∀ (z0 : AS) (z1 : Option Nat) (z2 : Int32) (z3 : Int32) (z4 : Int32) (z5 : Int32), GF S0 z0 → G2 S0 (k44 z0 z1 z2 z3 z4 z5)) (S : AS) (x0 : Option Nat) (x1 : Int32) (x2 : Int32) (x4 : Int32) (x5 : Int32) (y0 : Int32) (y1 : Int32) (hS : GF S0 S) : G2 S0 (f_M_withdraw_B118 k44 S x0 x1 x2 x4 x5 y0 y1) := by
  unfold f_M_withdraw_B118
  refine g2_rd (fun i2 => ?_)
  refine g2_if ?_ ?_
  · exact g_f_M_withdraw_B131 hk44 _ _ _ _ _ _ hS
  · refine g2_rd (fun u3 => ?_)
    refine g2_bd (g_f_M_endFamily _ _ _ hS) (fun S4 hS4 => ?_)
    exact g_f_M_withdraw_B131 hk44 _ _ _ _ _ _ hS4
theorem g_f_M_withdraw_B105 {S0 : AS} {k44 : AS → Option Nat → Int32 → Int32 → Int32 → Int32 → Option (Int32 × AS)} (hk44 : ∀ (z0 : AS) (z1 : Option Nat) (z2 : Int32) (z3 : Int32) (z4 : Int32) (z5 : Int32), GF S0 z0 → G2 S0 (k44 z0 z1 z2 z3 z4 z5)) (S : AS) (x0 : Option Nat) (x1 : Int32) (x2 : Int32) (x3 : Int32) (x4 : Int32) (y0 : Int32) (hS : GF S0 S) : G2 S0 (f_M_withdraw_B105 k44 S x0 x1 x2 x3 x4 y0) := by
  unfold f_M_withdraw_B105
  refine g2_if ?_ ?_
  · exact g_f_M_withdraw_B118 hk44 _ _ _ _ _ _ _ _ hS
  · exact g_f_M_withdraw_B118 hk44 _ _ _ _ _ _ _ _ hS
theorem g_f_M_withdraw_B104 {S0 : AS} {k44 : AS → Option Nat → Int32 → Int32 → Int32 → Int32 → Option (Int32 × AS)} (hk44 : ∀ (z0 : AS) (z1 : Option Nat) (z2 : Int32) (z3 : Int32) (z4 : Int32) (z5 : Int32), GF S0 z0 → G2 S0 (k44 z0 z1 z2 z3 z4 z5)) (S : AS) (x0 : Option Nat) (x1 : Int32) (x2 : Int32) (x3 : Int32) (x4 : Int32) (hS : GF S0 S) : G2 S0 (f_M_withdraw_B104 k44 S x0 x1 x2 x3 x4) := by
  unfold f_M_withdraw_B104
  exact g_f_M_withdraw_B105 hk44 _ _ _ _ _ _ _ hS
theorem g_f_M_withdraw_C44 {S0 : AS} {k44 : AS → Option Nat → Int32 → Int32 → Int32 → Int32 → Option (Int32 × AS)} (hk44 : ∀ (z0 : AS) (z1 : Option Nat) (z2 : Int32) (z3 : Int32) (z4 : Int32) (z5 : Int32), GF S0 z0 → G2 S0 (k44 z0 z1 z2 z3 z4 z5)) (S : AS) (x0 : Option Nat) (x1 : Int32) (x2 : Int32) (x3 : Int32) (x4 : Int32) (hS : GF S0 S) : G2 S0 (f_M_withdraw_C44 k44 S x0 x1 x2 x3 x4) := by
  unfold f_M_withdraw_C44
  refine g2_rd (fun v5 => ?_)
  refine g2_if ?_ ?_
  · exact g2_ret hS
  · refine g2_rd (fun v6 => ?_)
    refine g2_rd (fun v7 => ?_)
    refine g2_if ?_ ?_
    · exact g_f_M_withdraw_B104 hk44 _ _ _ _ _ _ hS
    · refine g2_rd (fun v8 => ?_)
      refine g2_rd (fun v9 => ?_)
      refine g2_rd (fun v10 => ?_)
      refine g2_rd (fun v11 => ?_)
      refine g2_rd (fun v12 => ?_)
      refine g2_rd (fun v13 => ?_)
      refine g2_if ?_ ?_
      · refine g2_rd (fun v14 => ?_)
        refine g2_rd (fun v15 => ?_)
        refine g2_rd (fun v16 => ?_)
        refine g2_rd (fun v17 => ?_)
        refine g2_if ?_ ?_
        · exact g_f_M_withdraw_B105 hk44 _ _ _ _ _ _ _ hS
        · exact g_f_M_withdraw_B104 hk44 _ _ _ _ _ _ hS
      · exact g_f_M_withdraw_B104 hk44 _ _ _ _ _ _ hS
theorem g_f_M_withdraw_L44 {S0 : AS}  : ∀ (n : Nat) (z0 : AS) (z1 : Option Nat) (z2 : Int32) (z3 : Int32) (z4 : Int32) (z5 : Int32), GF S0 z0 → G2 S0 (f_M_withdraw_L44 n z0 z1 z2 z3 z4 z5)
  | 0, _, _, _, _, _, _, _ => g2_no
  | n + 1, z0, z1, z2, z3, z4, z5, h => g_f_M_withdraw_C44 (g_f_M_withdraw_L44 n) z0 z1 z2 z3 z4 z5 h
theorem g_f_M_withdraw_B20 {S0 : AS}  (S : AS) (x0 : Option Nat) (x1 : Int32) (x2 : Int32) (y0 : Option Nat) (y1 : Int32) (hS : GF S0 S) : G2 S0 (f_M_withdraw_B20 S x0 x1 x2 y0 y1) := by
  unfold f_M_withdraw_B20
  refine g2_rd (fun u18 => ?_)
  refine g2_b2 (g_f_M_may _ _ _ hS) (fun v20 S19 hS19 => ?_)
  refine g2_if ?_ ?_
  · exact g2_ret hS19
  · refine g2_rd (fun v21 => ?_)
    refine g2_bd (g1_bI hS19) (fun S22 hS22 => ?_)
    exact g_f_M_withdraw_L44 _ _ _ _ _ _ _ hS22
theorem g_f_M_withdraw_B19 {S0 : AS}  (S : AS) (x0 : Option Nat) (x1 : Int32) (x2 : Int32) (y0 : Option Nat) (hS : GF S0 S) : G2 S0 (f_M_withdraw_B19 S x0 x1 x2 y0) := by
  unfold f_M_withdraw_B19
  exact g_f_M_withdraw_B20 _ _ _ _ _ _ hS
theorem g_f_M_withdraw {S0 : AS}  (S : AS) (a0 : Option Nat) (a1 : Int32) (a2 : Int32) (hS : GF S0 S) : G2 S0 (f_M_withdraw S a0 a1 a2) := by
  unfold f_M_withdraw
  refine g2_b2 (g_f_M_isSix _ _ hS) (fun v24 S23 hS23 => ?_)
  refine g2_if ?_ ?_
  · exact g_f_M_withdraw_B19 _ _ _ _ _ hS23
  · refine g2_b2 (g_f_M_isService _ _ hS23) (fun v26 S25 hS25 => ?_)
    refine g2_if ?_ ?_
    · exact g_f_M_withdraw_B19 _ _ _ _ _ hS25
    · exact g_f_M_withdraw_B20 _ _ _ _ _ _ hS25
theorem g_f_M_need {S0 : AS}  (S : AS) (a0 : Option Nat) (a1 : Int32) (a2 : Int32) (hS : GF S0 S) : G2 S0 (f_M_need S a0 a1 a2) := by
  unfold f_M_need
  refine g2_b2 (g_f_M_isService _ _ hS) (fun v2 S1 hS1 => ?_)
  refine g2_b2 (g_f_M_isIn _ _ _ _ hS1) (fun v4 S3 hS3 => ?_)
  refine g2_rd (fun u5 => ?_)
  refine g2_b2 (g_f_M_mayBoth _ _ _ _ hS3) (fun v7 S6 hS6 => ?_)
  refine g2_if ?_ ?_
  · exact g2_ret hS6
  · refine g2_rd (fun v8 => ?_)
    refine g2_rd (fun v9 => ?_)
    refine g2_rd (fun v10 => ?_)
    refine g2_bd (g1_bI hS6) (fun S11 hS11 => ?_)
    exact g2_ret hS11
theorem g_f_M_authorize_B68 {S0 : AS}  (S : AS) (x0 : Option Nat) (x1 : Int32) (x2 : Int32) (x3 : Int32) (x4 : Int32) (y0 : Option Nat) (y1 : Int32) (y2 : Int32) (y3 : Int32) (hS : GF S0 S) : G2 S0 (f_M_authorize_B68 S x0 x1 x2 x3 x4 y0 y1 y2 y3) := by
  unfold f_M_authorize_B68
  refine g2_rd (fun u1 => ?_)
  refine g2_b2 (g_f_M_mayAll _ _ _ _ _ hS) (fun v3 S2 hS2 => ?_)
  refine g2_if ?_ ?_
  · exact g2_ret hS2
  · refine g2_rd (fun v4 => ?_)
    refine g2_rd (fun v5 => ?_)
    refine g2_bd (g1_bI hS2) (fun S6 hS6 => ?_)
    refine g2_rd (fun v7 => ?_)
    refine g2_rd (fun v8 => ?_)
    refine g2_rd (fun v9 => ?_)
    refine g2_rd (fun v10 => ?_)
    refine g2_rd (fun v11 => ?_)
    refine g2_rd (fun v12 => ?_)
    refine g2_rd (fun i13 => ?_)
    refine g2_if ?_ ?_
    · refine g2_rd (fun u14 => ?_)
      refine g2_b2 (g_f_M_levelNow _ _ _ hS6) (fun v16 S15 hS15 => ?_)
      refine g2_rd (fun v17 => ?_)
      refine g2_rd (fun v18 => ?_)
      refine g2_if ?_ ?_
      · refine g2_rd (fun v19 => ?_)
        refine g2_rd (fun v20 => ?_)
        refine g2_bd (g1_bI hS15) (fun S21 hS21 => ?_)
        refine g2_rd (fun v22 => ?_)
        refine g2_rd (fun v23 => ?_)
        refine g2_bd (g1_bI hS21) (fun S24 hS24 => ?_)
        refine g2_rd (fun v25 => ?_)
        refine g2_rd (fun v26 => ?_)
        refine g2_bd (g1_bI hS24) (fun S27 hS27 => ?_)
        refine g2_rd (fun v28 => ?_)
        refine g2_rd (fun v29 => ?_)
        refine g2_bd (g1_bI hS27) (fun S30 hS30 => ?_)
        refine g2_rd (fun v31 => ?_)
        refine g2_rd (fun v32 => ?_)
        refine g2_rd (fun v33 => ?_)
        refine g2_bd (g1_bI hS30) (fun S34 hS34 => ?_)
        refine g2_rd (fun v35 => ?_)
        refine g2_rd (fun v36 => ?_)
        refine g2_bd (g1_bI hS34) (fun S37 hS37 => ?_)
        refine g2_rd (fun v38 => ?_)
        refine g2_bd (g1_pI hS37) (fun S39 hS39 => ?_)
        refine g2_rd (fun v40 => ?_)
        exact g2_ret hS39
      · exact g2_ret hS15
    · exact g2_ret hS6
theorem g_f_M_authorize_B67 {S0 : AS}  (S : AS) (x0 : Option Nat) (x1 : Int32) (x2 : Int32) (x3 : Int32) (x4 : Int32) (y0 : Option Nat) (y1 : Int32) (y2 : Int32) (hS : GF S0 S) : G2 S0 (f_M_authorize_B67 S x0 x1 x2 x3 x4 y0 y1 y2) := by
  unfold f_M_authorize_B67
  exact g_f_M_authorize_B68 _ _ _ _ _ _ _ _ _ _ hS
theorem g_f_M_authorize_B27 {S0 : AS}  (S : AS) (x0 : Option Nat) (x1 : Int32) (x2 : Int32) (x3 : Int32) (x4 : Int32) (y0 : Int32) (hS : GF S0 S) : G2 S0 (f_M_authorize_B27 S x0 x1 x2 x3 x4 y0) := by
  unfold f_M_authorize_B27
  refine g2_b2 (g_f_M_isIn _ _ _ _ hS) (fun v42 S41 hS41 => ?_)
  refine g2_if ?_ ?_
  · exact g_f_M_authorize_B67 _ _ _ _ _ _ _ _ _ hS41
  · refine g2_rd (fun v43 => ?_)
    refine g2_rd (fun v44 => ?_)
    refine g2_if ?_ ?_
    · exact g_f_M_authorize_B67 _ _ _ _ _ _ _ _ _ hS41
    · refine g2_rd (fun v45 => ?_)
      refine g2_if ?_ ?_
      · exact g_f_M_authorize_B67 _ _ _ _ _ _ _ _ _ hS41
      · exact g_f_M_authorize_B68 _ _ _ _ _ _ _ _ _ _ hS41
theorem g_f_M_authorize_B26 {S0 : AS}  (S : AS) (x0 : Option Nat) (x1 : Int32) (x2 : Int32) (x3 : Int32) (x4 : Int32) (hS : GF S0 S) : G2 S0 (f_M_authorize_B26 S x0 x1 x2 x3 x4) := by
  unfold f_M_authorize_B26
  exact g_f_M_authorize_B27 _ _ _ _ _ _ _ hS
theorem g_f_M_authorize {S0 : AS}  (S : AS) (a0 : Option Nat) (a1 : Int32) (a2 : Int32) (a3 : Int32) (a4 : Int32) (hS : GF S0 S) : G2 S0 (f_M_authorize S a0 a1 a2 a3 a4) := by
  unfold f_M_authorize
  refine g2_rd (fun u46 => ?_)
  refine g2_b2 (g_f_M_isSession _ _ _ hS) (fun v48 S47 hS47 => ?_)
  refine g2_if ?_ ?_
  · exact g_f_M_authorize_B26 _ _ _ _ _ _ hS47
  · refine g2_b2 (g_f_M_isService _ _ hS47) (fun v50 S49 hS49 => ?_)
    refine g2_if ?_ ?_
    · exact g_f_M_authorize_B26 _ _ _ _ _ _ hS49
    · refine g2_b2 (g_f_M_isService _ _ hS49) (fun v52 S51 hS51 => ?_)
      refine g2_if ?_ ?_
      · exact g_f_M_authorize_B26 _ _ _ _ _ _ hS51
      · exact g_f_M_authorize_B27 _ _ _ _ _ _ _ hS51
theorem g_f_M_newToken {S0 : AS}  (S : AS) (a0 : Option Nat) (a1 : Int32) (a2 : Int32) (a3 : Int32) (a4 : Int32) (a5 : Int32) (a6 : Int32) (hS : GF S0 S) : G2 S0 (f_M_newToken S a0 a1 a2 a3 a4 a5 a6) := by
  unfold f_M_newToken
  refine g2_rd (fun v1 => ?_)
  refine g2_rd (fun v2 => ?_)
  refine g2_bd (g1_bI hS) (fun S3 hS3 => ?_)
  refine g2_rd (fun v4 => ?_)
  refine g2_bd (g1_bI hS3) (fun S5 hS5 => ?_)
  refine g2_rd (fun v6 => ?_)
  refine g2_bd (g1_bI hS5) (fun S7 hS7 => ?_)
  refine g2_rd (fun v8 => ?_)
  refine g2_bd (g1_bI hS7) (fun S9 hS9 => ?_)
  refine g2_rd (fun v10 => ?_)
  refine g2_bd (g1_bI hS9) (fun S11 hS11 => ?_)
  refine g2_rd (fun v12 => ?_)
  refine g2_bd (g1_bI hS11) (fun S13 hS13 => ?_)
  refine g2_rd (fun v14 => ?_)
  refine g2_rd (fun v15 => ?_)
  refine g2_bd (g1_bI hS13) (fun S16 hS16 => ?_)
  refine g2_rd (fun v17 => ?_)
  refine g2_bd (g1_bI hS16) (fun S18 hS18 => ?_)
  refine g2_rd (fun v19 => ?_)
  refine g2_bd (g1_pI hS18) (fun S20 hS20 => ?_)
  exact g2_ret hS20
theorem g_f_M_firstToken {S0 : AS}  (S : AS) (a0 : Option Nat) (a1 : Int32) (hS : GF S0 S) : G1 S0 (f_M_firstToken S a0 a1) := by
  unfold f_M_firstToken
  refine g1_rd (fun v1 => ?_)
  refine g1_rd (fun v2 => ?_)
  refine g1_rd (fun v3 => ?_)
  refine g1_rd (fun v4 => ?_)
  refine g1_rd (fun v5 => ?_)
  refine g1_rd (fun v6 => ?_)
  refine g1_rd (fun v7 => ?_)
  refine g1_rd (fun v8 => ?_)
  refine g1_rd (fun v9 => ?_)
  refine g1_rd (fun u10 => ?_)
  refine g1_b2 (g_f_M_newToken _ _ _ _ _ _ _ _ hS) (fun v12 S11 hS11 => ?_)
  exact g1_ret hS11
theorem g_f_M_redeem_B82 {S0 : AS}  (S : AS) (x0 : Option Nat) (x1 : Int32) (x3 : Int32) (y0 : Option Nat) (y1 : Int32) (y2 : Int32) (hS : GF S0 S) : G2 S0 (f_M_redeem_B82 S x0 x1 x3 y0 y1 y2) := by
  unfold f_M_redeem_B82
  refine g2_rd (fun u1 => ?_)
  refine g2_b2 (g_f_M_mayBoth _ _ _ _ hS) (fun v3 S2 hS2 => ?_)
  refine g2_if ?_ ?_
  · exact g2_ret hS2
  · refine g2_if ?_ ?_
    · refine g2_rd (fun v4 => ?_)
      refine g2_rd (fun v5 => ?_)
      refine g2_if ?_ ?_
      · exact g2_ret hS2
      · refine g2_rd (fun v6 => ?_)
        refine g2_rd (fun v7 => ?_)
        refine g2_rd (fun u8 => ?_)
        refine g2_bd (g_f_M_endFamily _ _ _ hS2) (fun S9 hS9 => ?_)
        exact g2_ret hS9
    · refine g2_rd (fun v10 => ?_)
      refine g2_rd (fun v11 => ?_)
      refine g2_bd (g1_bI hS2) (fun S12 hS12 => ?_)
      refine g2_rd (fun v13 => ?_)
      refine g2_bd (g1_bI hS12) (fun S14 hS14 => ?_)
      refine g2_rd (fun v15 => ?_)
      refine g2_rd (fun v16 => ?_)
      refine g2_bd (g1_bI hS14) (fun S17 hS17 => ?_)
      refine g2_rd (fun v18 => ?_)
      refine g2_bd (g1_bZ hS17) (fun S19 hS19 => ?_)
      refine g2_rd (fun v20 => ?_)
      refine g2_bd (g1_bI hS19) (fun S21 hS21 => ?_)
      refine g2_rd (fun v22 => ?_)
      refine g2_bd (g1_pI hS21) (fun S23 hS23 => ?_)
      refine g2_rd (fun u24 => ?_)
      refine g2_bd (g_f_M_write _ _ _ _ hS23) (fun S25 hS25 => ?_)
      refine g2_rd (fun u26 => ?_)
      refine g2_bd (g_f_M_firstToken _ _ _ hS25) (fun S27 hS27 => ?_)
      exact g2_ret hS27
theorem g_f_M_redeem_B77 {S0 : AS}  (S : AS) (x0 : Option Nat) (x1 : Int32) (x3 : Int32) (y0 : Option Nat) (y1 : Int32) (hS : GF S0 S) : G2 S0 (f_M_redeem_B77 S x0 x1 x3 y0 y1) := by
  unfold f_M_redeem_B77
  exact g_f_M_redeem_B82 _ _ _ _ _ _ _ hS
theorem g_f_M_redeem_B60 {S0 : AS}  (S : AS) (x0 : Option Nat) (x1 : Int32) (x2 : Int32) (y0 : Int32) (hS : GF S0 S) : G2 S0 (f_M_redeem_B60 S x0 x1 x2 y0) := by
  unfold f_M_redeem_B60
  refine g2_if ?_ ?_
  · exact g_f_M_redeem_B77 _ _ _ _ _ _ hS
  · refine g2_rd (fun v28 => ?_)
    refine g2_if ?_ ?_
    · exact g_f_M_redeem_B82 _ _ _ _ _ _ _ hS
    · exact g_f_M_redeem_B77 _ _ _ _ _ _ hS
theorem g_f_M_redeem_B59 {S0 : AS}  (S : AS) (x0 : Option Nat) (x1 : Int32) (x2 : Int32) (hS : GF S0 S) : G2 S0 (f_M_redeem_B59 S x0 x1 x2) := by
  unfold f_M_redeem_B59
  exact g_f_M_redeem_B60 _ _ _ _ _ hS
theorem g_f_M_redeem {S0 : AS}  (S : AS) (a0 : Option Nat) (a1 : Int32) (hS : GF S0 S) : G2 S0 (f_M_redeem S a0 a1) := by
  unfold f_M_redeem
  refine g2_rd (fun v29 => ?_)
  refine g2_b2 (g_f_M_isIn _ _ _ _ hS) (fun v31 S30 hS30 => ?_)
  refine g2_if ?_ ?_
  · exact g_f_M_redeem_B59 _ _ _ _ hS30
  · refine g2_rd (fun v32 => ?_)
    refine g2_rd (fun v33 => ?_)
    refine g2_if ?_ ?_
    · refine g2_rd (fun v34 => ?_)
      refine g2_rd (fun v35 => ?_)
      refine g2_rd (fun v36 => ?_)
      refine g2_if ?_ ?_
      · exact g_f_M_redeem_B59 _ _ _ _ hS30
      · refine g2_rd (fun v37 => ?_)
        refine g2_rd (fun v38 => ?_)
        refine g2_rd (fun v39 => ?_)
        refine g2_rd (fun v40 => ?_)
        refine g2_if ?_ ?_
        · exact g_f_M_redeem_B59 _ _ _ _ hS30
        · exact g_f_M_redeem_B60 _ _ _ _ _ hS30
    · exact g_f_M_redeem_B59 _ _ _ _ hS30
theorem g_f_M_isFamily {S0 : AS}  (S : AS) (a0 : Option Nat) (a1 : Int32) (hS : GF S0 S) : G2 S0 (f_M_isFamily S a0 a1) := by
  unfold f_M_isFamily
  refine g2_rd (fun v1 => ?_)
  refine g2_b2 (g_f_M_isIn _ _ _ _ hS) (fun v3 S2 hS2 => ?_)
  refine g2_rd (fun u4 => ?_)
  exact g2_ret hS2
theorem g_f_M_refresh_B227 {S0 : AS}  (S : AS) (x0 : Option Nat) (x1 : Int32) (hS : GF S0 S) : G2 S0 (f_M_refresh_B227 S x0 x1) := by
  unfold f_M_refresh_B227
  refine g2_rd (fun u1 => ?_)
  refine g2_bd (g_f_M_endFamily _ _ _ hS) (fun S2 hS2 => ?_)
  exact g2_ret hS2
theorem g_f_M_refresh_B121 {S0 : AS}  (S : AS) (x0 : Option Nat) (x1 : Int32) (x2 : Int32) (x5 : Int32) (x6 : Int32) (y0 : Option Nat) (y1 : Int32) (y2 : Int32) (y3 : Int32) (hS : GF S0 S) : G2 S0 (f_M_refresh_B121 S x0 x1 x2 x5 x6 y0 y1 y2 y3) := by
  unfold f_M_refresh_B121
  refine g2_rd (fun u3 => ?_)
  refine g2_b2 (g_f_M_mayAll _ _ _ _ _ hS) (fun v5 S4 hS4 => ?_)
  refine g2_if ?_ ?_
  · exact g2_ret hS4
  · refine g2_if ?_ ?_
    · exact g2_ret hS4
    · refine g2_if ?_ ?_
      · refine g2_rd (fun v6 => ?_)
        refine g2_rd (fun v7 => ?_)
        refine g2_if ?_ ?_
        · refine g2_rd (fun v8 => ?_)
          refine g2_rd (fun v9 => ?_)
          refine g2_rd (fun v10 => ?_)
          refine g2_if ?_ ?_
          · exact g_f_M_refresh_B227 _ _ _ hS4
          · refine g2_rd (fun v11 => ?_)
            refine g2_rd (fun v12 => ?_)
            exact g2_ret hS4
        · exact g_f_M_refresh_B227 _ _ _ hS4
      · refine g2_rd (fun v13 => ?_)
        refine g2_rd (fun v14 => ?_)
        refine g2_bd (g1_bI hS4) (fun S15 hS15 => ?_)
        refine g2_rd (fun v16 => ?_)
        refine g2_rd (fun v17 => ?_)
        refine g2_bd (g1_bI hS15) (fun S18 hS18 => ?_)
        refine g2_rd (fun u19 => ?_)
        refine g2_bd (g_f_M_firstToken _ _ _ hS18) (fun S20 hS20 => ?_)
        refine g2_rd (fun v21 => ?_)
        refine g2_rd (fun v22 => ?_)
        refine g2_rd (fun v23 => ?_)
        refine g2_rd (fun v24 => ?_)
        refine g2_rd (fun v25 => ?_)
        refine g2_rd (fun v26 => ?_)
        refine g2_bd (g1_bI hS20) (fun S27 hS27 => ?_)
        refine g2_rd (fun v28 => ?_)
        refine g2_rd (fun v29 => ?_)
        exact g2_ret hS27
theorem g_f_M_refresh_B116 {S0 : AS}  (S : AS) (x0 : Option Nat) (x1 : Int32) (x2 : Int32) (x5 : Int32) (x6 : Int32) (y0 : Option Nat) (y1 : Int32) (y2 : Int32) (hS : GF S0 S) : G2 S0 (f_M_refresh_B116 S x0 x1 x2 x5 x6 y0 y1 y2) := by
  unfold f_M_refresh_B116
  exact g_f_M_refresh_B121 _ _ _ _ _ _ _ _ _ _ hS
theorem g_f_M_refresh_B95 {S0 : AS}  (S : AS) (x0 : Option Nat) (x1 : Int32) (x2 : Int32) (x3 : Int32) (x4 : Int32) (x5 : Int32) (y0 : Int32) (hS : GF S0 S) : G2 S0 (f_M_refresh_B95 S x0 x1 x2 x3 x4 x5 y0) := by
  unfold f_M_refresh_B95
  refine g2_if ?_ ?_
  · exact g_f_M_refresh_B116 _ _ _ _ _ _ _ _ _ hS
  · refine g2_rd (fun v30 => ?_)
    refine g2_if ?_ ?_
    · exact g_f_M_refresh_B121 _ _ _ _ _ _ _ _ _ _ hS
    · exact g_f_M_refresh_B116 _ _ _ _ _ _ _ _ _ hS
theorem g_f_M_refresh_B94 {S0 : AS}  (S : AS) (x0 : Option Nat) (x1 : Int32) (x2 : Int32) (x3 : Int32) (x4 : Int32) (x5 : Int32) (hS : GF S0 S) : G2 S0 (f_M_refresh_B94 S x0 x1 x2 x3 x4 x5) := by
  unfold f_M_refresh_B94
  exact g_f_M_refresh_B95 _ _ _ _ _ _ _ _ hS
theorem g_f_M_refresh_B68 {S0 : AS}  (S : AS) (x0 : Option Nat) (x1 : Int32) (x2 : Int32) (x3 : Int32) (x4 : Int32) (y0 : Int32) (hS : GF S0 S) : G2 S0 (f_M_refresh_B68 S x0 x1 x2 x3 x4 y0) := by
  unfold f_M_refresh_B68
  refine g2_if ?_ ?_
  · exact g_f_M_refresh_B94 _ _ _ _ _ _ _ hS
  · refine g2_if ?_ ?_
    · exact g_f_M_refresh_B94 _ _ _ _ _ _ _ hS
    · refine g2_rd (fun v31 => ?_)
      refine g2_rd (fun v32 => ?_)
      refine g2_if ?_ ?_
      · exact g_f_M_refresh_B95 _ _ _ _ _ _ _ _ hS
      · exact g_f_M_refresh_B94 _ _ _ _ _ _ _ hS
theorem g_f_M_refresh_B67 {S0 : AS}  (S : AS) (x0 : Option Nat) (x1 : Int32) (x2 : Int32) (x3 : Int32) (x4 : Int32) (hS : GF S0 S) : G2 S0 (f_M_refresh_B67 S x0 x1 x2 x3 x4) := by
  unfold f_M_refresh_B67
  exact g_f_M_refresh_B68 _ _ _ _ _ _ _ hS
theorem g_f_M_refresh_B29 {S0 : AS}  (S : AS) (x0 : Option Nat) (x1 : Int32) (x2 : Int32) (x3 : Int32) (y0 : Int32) (hS : GF S0 S) : G2 S0 (f_M_refresh_B29 S x0 x1 x2 x3 y0) := by
  unfold f_M_refresh_B29
  refine g2_if ?_ ?_
  · exact g_f_M_refresh_B67 _ _ _ _ _ _ hS
  · refine g2_rd (fun v33 => ?_)
    refine g2_rd (fun v34 => ?_)
    refine g2_if ?_ ?_
    · exact g_f_M_refresh_B67 _ _ _ _ _ _ hS
    · refine g2_rd (fun v35 => ?_)
      refine g2_rd (fun v36 => ?_)
      refine g2_rd (fun v37 => ?_)
      refine g2_rd (fun v38 => ?_)
      refine g2_rd (fun v39 => ?_)
      refine g2_rd (fun v40 => ?_)
      refine g2_if ?_ ?_
      · exact g_f_M_refresh_B67 _ _ _ _ _ _ hS
      · exact g_f_M_refresh_B68 _ _ _ _ _ _ _ hS
theorem g_f_M_refresh_B28 {S0 : AS}  (S : AS) (x0 : Option Nat) (x1 : Int32) (x2 : Int32) (x3 : Int32) (hS : GF S0 S) : G2 S0 (f_M_refresh_B28 S x0 x1 x2 x3) := by
  unfold f_M_refresh_B28
  exact g_f_M_refresh_B29 _ _ _ _ _ _ hS
theorem g_f_M_refresh {S0 : AS}  (S : AS) (a0 : Option Nat) (a1 : Int32) (a2 : Int32) (hS : GF S0 S) : G2 S0 (f_M_refresh S a0 a1 a2) := by
  unfold f_M_refresh
  refine g2_rd (fun u41 => ?_)
  refine g2_b2 (g_f_M_isFamily _ _ _ hS) (fun v43 S42 hS42 => ?_)
  refine g2_if ?_ ?_
  · exact g_f_M_refresh_B28 _ _ _ _ _ hS42
  · refine g2_rd (fun v44 => ?_)
    refine g2_rd (fun v45 => ?_)
    refine g2_b2 (g_f_M_isIn _ _ _ _ hS42) (fun v47 S46 hS46 => ?_)
    refine g2_if ?_ ?_
    · exact g_f_M_refresh_B28 _ _ _ _ _ hS46
    · exact g_f_M_refresh_B29 _ _ _ _ _ _ hS46
theorem g_f_M_isGood {S0 : AS}  (S : AS) (a0 : Option Nat) (a1 : Int32) (hS : GF S0 S) : G2 S0 (f_M_isGood S a0 a1) := by
  unfold f_M_isGood
  refine g2_rd (fun u1 => ?_)
  refine g2_b2 (g_f_M_isFamily _ _ _ hS) (fun v3 S2 hS2 => ?_)
  refine g2_rd (fun u4 => ?_)
  refine g2_b2 (g_f_M_may _ _ _ hS2) (fun v6 S5 hS5 => ?_)
  refine g2_if ?_ ?_
  · exact g2_ret hS5
  · refine g2_rd (fun v7 => ?_)
    refine g2_rd (fun v8 => ?_)
    refine g2_if ?_ ?_
    · exact g2_ret hS5
    · exact g2_ret hS5
theorem g_f_M_tokenOf {S0 : AS}  (S : AS) (a0 : Option Nat) (a1 : Int32) (hS : GF S0 S) : G2 S0 (f_M_tokenOf S a0 a1) := by
  unfold f_M_tokenOf
  refine g2_rd (fun u1 => ?_)
  refine g2_b2 (g_f_M_isFamily _ _ _ hS) (fun v3 S2 hS2 => ?_)
  refine g2_rd (fun u4 => ?_)
  refine g2_b2 (g_f_M_may _ _ _ hS2) (fun v6 S5 hS5 => ?_)
  refine g2_if ?_ ?_
  · exact g2_ret hS5
  · refine g2_rd (fun v7 => ?_)
    refine g2_rd (fun v8 => ?_)
    exact g2_ret hS5
theorem g_f_M_isToken {S0 : AS}  (S : AS) (a0 : Option Nat) (a1 : Int32) (hS : GF S0 S) : G2 S0 (f_M_isToken S a0 a1) := by
  unfold f_M_isToken
  refine g2_rd (fun v1 => ?_)
  refine g2_b2 (g_f_M_isIn _ _ _ _ hS) (fun v3 S2 hS2 => ?_)
  refine g2_rd (fun u4 => ?_)
  exact g2_ret hS2
theorem g_f_M_exchange_B114 {S0 : AS}  (S : AS) (x0 : Option Nat) (x1 : Int32) (x2 : Int32) (x3 : Int32) (x4 : Int32) (x5 : Int32) (y0 : Int32) (hS : GF S0 S) : G2 S0 (f_M_exchange_B114 S x0 x1 x2 x3 x4 x5 y0) := by
  unfold f_M_exchange_B114
  refine g2_rd (fun u1 => ?_)
  refine g2_b2 (g_f_M_mayAll _ _ _ _ _ hS) (fun v3 S2 hS2 => ?_)
  refine g2_if ?_ ?_
  · exact g2_ret hS2
  · refine g2_rd (fun v4 => ?_)
    refine g2_rd (fun v5 => ?_)
    refine g2_rd (fun v6 => ?_)
    refine g2_rd (fun v7 => ?_)
    refine g2_rd (fun v8 => ?_)
    refine g2_rd (fun v9 => ?_)
    refine g2_rd (fun u10 => ?_)
    refine g2_b2 (g_f_M_levelNow _ _ _ hS2) (fun v12 S11 hS11 => ?_)
    refine g2_rd (fun v13 => ?_)
    refine g2_rd (fun v14 => ?_)
    refine g2_if ?_ ?_
    · refine g2_rd (fun v15 => ?_)
      refine g2_rd (fun v16 => ?_)
      refine g2_rd (fun v17 => ?_)
      refine g2_rd (fun v18 => ?_)
      refine g2_rd (fun v19 => ?_)
      refine g2_rd (fun v20 => ?_)
      refine g2_rd (fun u21 => ?_)
      refine g2_b2 (g_f_M_newToken _ _ _ _ _ _ _ _ hS11) (fun v23 S22 hS22 => ?_)
      exact g2_ret hS22
    · exact g2_ret hS11
theorem g_f_M_exchange_B113 {S0 : AS}  (S : AS) (x0 : Option Nat) (x1 : Int32) (x2 : Int32) (x3 : Int32) (x4 : Int32) (x5 : Int32) (hS : GF S0 S) : G2 S0 (f_M_exchange_B113 S x0 x1 x2 x3 x4 x5) := by
  unfold f_M_exchange_B113
  exact g_f_M_exchange_B114 _ _ _ _ _ _ _ _ hS
theorem g_f_M_exchange_B55 {S0 : AS}  (S : AS) (x0 : Option Nat) (x1 : Int32) (x2 : Int32) (x3 : Int32) (x4 : Int32) (y0 : Int32) (hS : GF S0 S) : G2 S0 (f_M_exchange_B55 S x0 x1 x2 x3 x4 y0) := by
  unfold f_M_exchange_B55
  refine g2_if ?_ ?_
  · exact g_f_M_exchange_B113 _ _ _ _ _ _ _ hS
  · refine g2_rd (fun v24 => ?_)
    refine g2_rd (fun v25 => ?_)
    refine g2_rd (fun v26 => ?_)
    refine g2_if ?_ ?_
    · exact g_f_M_exchange_B113 _ _ _ _ _ _ _ hS
    · refine g2_rd (fun v27 => ?_)
      refine g2_rd (fun v28 => ?_)
      refine g2_rd (fun v29 => ?_)
      refine g2_rd (fun v30 => ?_)
      refine g2_if ?_ ?_
      · exact g_f_M_exchange_B113 _ _ _ _ _ _ _ hS
      · refine g2_rd (fun v31 => ?_)
        refine g2_rd (fun v32 => ?_)
        refine g2_if ?_ ?_
        · exact g_f_M_exchange_B113 _ _ _ _ _ _ _ hS
        · refine g2_rd (fun v33 => ?_)
          refine g2_if ?_ ?_
          · exact g_f_M_exchange_B113 _ _ _ _ _ _ _ hS
          · exact g_f_M_exchange_B114 _ _ _ _ _ _ _ _ hS
theorem g_f_M_exchange_B54 {S0 : AS}  (S : AS) (x0 : Option Nat) (x1 : Int32) (x2 : Int32) (x3 : Int32) (x4 : Int32) (hS : GF S0 S) : G2 S0 (f_M_exchange_B54 S x0 x1 x2 x3 x4) := by
  unfold f_M_exchange_B54
  exact g_f_M_exchange_B55 _ _ _ _ _ _ _ hS
theorem g_f_M_exchange_B20 {S0 : AS}  (S : AS) (x0 : Option Nat) (x1 : Int32) (x2 : Int32) (x3 : Int32) (y0 : Int32) (hS : GF S0 S) : G2 S0 (f_M_exchange_B20 S x0 x1 x2 x3 y0) := by
  unfold f_M_exchange_B20
  refine g2_if ?_ ?_
  · exact g_f_M_exchange_B54 _ _ _ _ _ _ hS
  · refine g2_b2 (g_f_M_isIn _ _ _ _ hS) (fun v35 S34 hS34 => ?_)
    refine g2_if ?_ ?_
    · exact g_f_M_exchange_B54 _ _ _ _ _ _ hS34
    · refine g2_rd (fun v36 => ?_)
      refine g2_rd (fun v37 => ?_)
      refine g2_if ?_ ?_
      · exact g_f_M_exchange_B55 _ _ _ _ _ _ _ hS34
      · exact g_f_M_exchange_B54 _ _ _ _ _ _ hS34
theorem g_f_M_exchange_B19 {S0 : AS}  (S : AS) (x0 : Option Nat) (x1 : Int32) (x2 : Int32) (x3 : Int32) (hS : GF S0 S) : G2 S0 (f_M_exchange_B19 S x0 x1 x2 x3) := by
  unfold f_M_exchange_B19
  exact g_f_M_exchange_B20 _ _ _ _ _ _ hS
theorem g_f_M_exchange {S0 : AS}  (S : AS) (a0 : Option Nat) (a1 : Int32) (a2 : Int32) (a3 : Int32) (hS : GF S0 S) : G2 S0 (f_M_exchange S a0 a1 a2 a3) := by
  unfold f_M_exchange
  refine g2_rd (fun u38 => ?_)
  refine g2_b2 (g_f_M_isToken _ _ _ hS) (fun v40 S39 hS39 => ?_)
  refine g2_if ?_ ?_
  · exact g_f_M_exchange_B19 _ _ _ _ _ hS39
  · refine g2_b2 (g_f_M_isService _ _ hS39) (fun v42 S41 hS41 => ?_)
    refine g2_if ?_ ?_
    · exact g_f_M_exchange_B19 _ _ _ _ _ hS41
    · exact g_f_M_exchange_B20 _ _ _ _ _ _ hS41
theorem g_f_M_token {S0 : AS}  (S : AS) (a0 : Option Nat) (a1 : Int32) (hS : GF S0 S) : G2 S0 (f_M_token S a0 a1) := by
  unfold f_M_token
  refine g2_rd (fun u1 => ?_)
  refine g2_b2 (g_f_M_isToken _ _ _ hS) (fun v3 S2 hS2 => ?_)
  refine g2_rd (fun u4 => ?_)
  refine g2_b2 (g_f_M_may _ _ _ hS2) (fun v6 S5 hS5 => ?_)
  refine g2_if ?_ ?_
  · exact g2_ret hS5
  · refine g2_rd (fun v7 => ?_)
    refine g2_rd (fun v8 => ?_)
    refine g2_rd (fun v9 => ?_)
    refine g2_rd (fun v10 => ?_)
    refine g2_rd (fun v11 => ?_)
    refine g2_rd (fun v12 => ?_)
    refine g2_rd (fun v13 => ?_)
    refine g2_rd (fun v14 => ?_)
    exact g2_ret hS5
theorem g_f_M_turn_B23 {S0 : AS}  (S : AS) (x0 : Option Nat) (y0 : Option Nat) (y1 : Int32) (hS : GF S0 S) : G2 S0 (f_M_turn_B23 S x0 y0 y1) := by
  unfold f_M_turn_B23
  refine g2_rd (fun u1 => ?_)
  refine g2_b2 (g_f_M_may _ _ _ hS) (fun v3 S2 hS2 => ?_)
  refine g2_if ?_ ?_
  · exact g2_ret hS2
  · refine g2_rd (fun v4 => ?_)
    refine g2_bd (g1_pI hS2) (fun S5 hS5 => ?_)
    refine g2_rd (fun v6 => ?_)
    refine g2_bd (g1_pI hS5) (fun S7 hS7 => ?_)
    refine g2_rd (fun v8 => ?_)
    refine g2_bd (g1_pI hS7) (fun S9 hS9 => ?_)
    refine g2_rd (fun v10 => ?_)
    exact g2_ret hS9
theorem g_f_M_turn_B22 {S0 : AS}  (S : AS) (x0 : Option Nat) (y0 : Option Nat) (hS : GF S0 S) : G2 S0 (f_M_turn_B22 S x0 y0) := by
  unfold f_M_turn_B22
  exact g_f_M_turn_B23 _ _ _ _ hS
theorem g_f_M_turn {S0 : AS}  (S : AS) (a0 : Option Nat) (hS : GF S0 S) : G2 S0 (f_M_turn S a0) := by
  unfold f_M_turn
  refine g2_rd (fun v11 => ?_)
  refine g2_if ?_ ?_
  · refine g2_rd (fun v12 => ?_)
    refine g2_if ?_ ?_
    · exact g_f_M_turn_B22 _ _ _ hS
    · exact g_f_M_turn_B23 _ _ _ _ hS
  · exact g_f_M_turn_B22 _ _ _ hS
theorem g_f_M_emergency_B67 {S0 : AS}  (S : AS) (x0 : Option Nat) (hS : GF S0 S) : G2 S0 (f_M_emergency_B67 S x0) := by
  unfold f_M_emergency_B67
  refine g2_rd (fun v1 => ?_)
  refine g2_bd (g1_pI hS) (fun S2 hS2 => ?_)
  refine g2_bd (g1_pI hS2) (fun S3 hS3 => ?_)
  refine g2_rd (fun v4 => ?_)
  refine g2_rd (fun u5 => ?_)
  refine g2_bd (g_f_M_write _ _ _ _ hS3) (fun S6 hS6 => ?_)
  refine g2_rd (fun v7 => ?_)
  exact g2_ret hS6
theorem g_f_M_emergency_B23 {S0 : AS}  (S : AS) (x0 : Option Nat) (y0 : Option Nat) (y1 : Int32) (hS : GF S0 S) : G2 S0 (f_M_emergency_B23 S x0 y0 y1) := by
  unfold f_M_emergency_B23
  refine g2_rd (fun u8 => ?_)
  refine g2_b2 (g_f_M_may _ _ _ hS) (fun v10 S9 hS9 => ?_)
  refine g2_if ?_ ?_
  · exact g2_ret hS9
  · refine g2_rd (fun v11 => ?_)
    refine g2_rd (fun v12 => ?_)
    refine g2_bd (g1_bZ hS9) (fun S13 hS13 => ?_)
    refine g2_rd (fun v14 => ?_)
    refine g2_if ?_ ?_
    · refine g2_rd (fun v15 => ?_)
      refine g2_bd (g1_pI hS13) (fun S16 hS16 => ?_)
      refine g2_rd (fun v17 => ?_)
      refine g2_bd (g1_pI hS16) (fun S18 hS18 => ?_)
      exact g_f_M_emergency_B67 _ _ hS18
    · exact g_f_M_emergency_B67 _ _ hS13
theorem g_f_M_emergency_B18 {S0 : AS}  (S : AS) (x0 : Option Nat) (y0 : Option Nat) (hS : GF S0 S) : G2 S0 (f_M_emergency_B18 S x0 y0) := by
  unfold f_M_emergency_B18
  exact g_f_M_emergency_B23 _ _ _ _ hS
theorem g_f_M_emergency {S0 : AS}  (S : AS) (a0 : Option Nat) (hS : GF S0 S) : G2 S0 (f_M_emergency S a0) := by
  unfold f_M_emergency
  refine g2_rd (fun v19 => ?_)
  refine g2_if ?_ ?_
  · refine g2_rd (fun v20 => ?_)
    refine g2_if ?_ ?_
    · exact g_f_M_emergency_B23 _ _ _ _ hS
    · exact g_f_M_emergency_B18 _ _ _ hS
  · exact g_f_M_emergency_B18 _ _ _ hS
theorem g_f_M_signing {S0 : AS}  (S : AS) (a0 : Option Nat) (hS : GF S0 S) : G2 S0 (f_M_signing S a0) := by
  unfold f_M_signing
  refine g2_bd (g1_pI hS) (fun S1 hS1 => ?_)
  refine g2_rd (fun v2 => ?_)
  exact g2_ret hS1
theorem g_f_M_isOpenKey_B40 {S0 : AS}  (S : AS) (hS : GF S0 S) : G2 S0 (f_M_isOpenKey_B40 S) := by
  unfold f_M_isOpenKey_B40
  exact g2_ret hS
theorem g_f_M_isOpenKey {S0 : AS}  (S : AS) (a0 : Option Nat) (a1 : Int32) (hS : GF S0 S) : G2 S0 (f_M_isOpenKey S a0 a1) := by
  unfold f_M_isOpenKey
  refine g2_rd (fun v1 => ?_)
  refine g2_if ?_ ?_
  · exact g2_ret hS
  · refine g2_rd (fun v2 => ?_)
    refine g2_rd (fun v3 => ?_)
    refine g2_if ?_ ?_
    · refine g2_rd (fun v4 => ?_)
      refine g2_rd (fun v5 => ?_)
      refine g2_if ?_ ?_
      · exact g_f_M_isOpenKey_B40 _ hS
      · refine g2_rd (fun v6 => ?_)
        refine g2_rd (fun v7 => ?_)
        refine g2_rd (fun v8 => ?_)
        refine g2_if ?_ ?_
        · exact g2_ret hS
        · exact g_f_M_isOpenKey_B40 _ hS
    · exact g2_ret hS
theorem g_f_M_isPublished {S0 : AS}  (S : AS) (a0 : Option Nat) (a1 : Int32) (hS : GF S0 S) : G2 S0 (f_M_isPublished S a0 a1) := by
  unfold f_M_isPublished
  refine g2_rd (fun v1 => ?_)
  refine g2_b2 (g_f_M_isIn _ _ _ _ hS) (fun v3 S2 hS2 => ?_)
  refine g2_rd (fun u4 => ?_)
  refine g2_b2 (g_f_M_may _ _ _ hS2) (fun v6 S5 hS5 => ?_)
  refine g2_if ?_ ?_
  · exact g2_ret hS5
  · refine g2_rd (fun u7 => ?_)
    refine g2_b2 (g_f_M_isOpenKey _ _ _ hS5) (fun v9 S8 hS8 => ?_)
    refine g2_if ?_ ?_
    · exact g2_ret hS8
    · exact g2_ret hS8
theorem g_f_M_line_B139 {S0 : AS} {k37 : AS → Option Nat → Int32 → Int32 → Int32 → Option (Int32 × AS)} (hk37 : ∀ (z0 : AS) (z1 : Option Nat) (z2 : Int32) (z3 : Int32) (z4 : Int32), GF S0 z0 → G2 S0 (k37 z0 z1 z2 z3 z4)) (S : AS) (x0 : Option Nat) (x1 : Int32) (x3 : Int32) (y0 : Int32) (y1 : Int32) (hS : GF S0 S) : G2 S0 (f_M_line_B139 k37 S x0 x1 x3 y0 y1) := by
  unfold f_M_line_B139
  refine g2_rd (fun i1 => ?_)
  refine g2_rd (fun i2 => ?_)
  exact hk37 _ _ _ _ _ hS
theorem g_f_M_line_B127 {S0 : AS} {k37 : AS → Option Nat → Int32 → Int32 → Int32 → Option (Int32 × AS)} (hk37 : ∀ (z0 : AS) (z1 : Option Nat) (z2 : Int32) (z3 : Int32) (z4 : Int32), GF S0 z0 → G2 S0 (k37 z0 z1 z2 z3 z4)) (S : AS) (x0 : Option Nat) (x1 : Int32) (x2 : Int32) (x3 : Int32) (x4 : Int32) (y0 : Option Nat) (y1 : Int32) (y2 : Int32) (hS : GF S0 S) : G2 S0 (f_M_line_B127 k37 S x0 x1 x2 x3 x4 y0 y1 y2) := by
  unfold f_M_line_B127
  refine g2_bd (g1_bZ hS) (fun S3 hS3 => ?_)
  refine g2_if ?_ ?_
  · exact g_f_M_line_B139 hk37 _ _ _ _ _ _ hS3
  · exact g_f_M_line_B139 hk37 _ _ _ _ _ _ hS3
theorem g_f_M_line_B122 {S0 : AS} {k37 : AS → Option Nat → Int32 → Int32 → Int32 → Option (Int32 × AS)} (hk37 : ∀ (z0 : AS) (z1 : Option Nat) (z2 : Int32) (z3 : Int32) (z4 : Int32), GF S0 z0 → G2 S0 (k37 z0 z1 z2 z3 z4)) (S : AS) (x0 : Option Nat) (x1 : Int32) (x2 : Int32) (x3 : Int32) (x4 : Int32) (y0 : Option Nat) (y1 : Int32) (hS : GF S0 S) : G2 S0 (f_M_line_B122 k37 S x0 x1 x2 x3 x4 y0 y1) := by
  unfold f_M_line_B122
  exact g_f_M_line_B127 hk37 _ _ _ _ _ _ _ _ _ hS
theorem g_f_M_line_B91 {S0 : AS} {k37 : AS → Option Nat → Int32 → Int32 → Int32 → Option (Int32 × AS)} (hk37 : ∀ (z0 : AS) (z1 : Option Nat) (z2 : Int32) (z3 : Int32) (z4 : Int32), GF S0 z0 → G2 S0 (k37 z0 z1 z2 z3 z4)) (S : AS) (x0 : Option Nat) (x1 : Int32) (x2 : Int32) (x3 : Int32) (y0 : Int32) (hS : GF S0 S) : G2 S0 (f_M_line_B91 k37 S x0 x1 x2 x3 y0) := by
  unfold f_M_line_B91
  refine g2_rd (fun v4 => ?_)
  refine g2_rd (fun v5 => ?_)
  refine g2_rd (fun v6 => ?_)
  refine g2_if ?_ ?_
  · refine g2_if ?_ ?_
    · exact g_f_M_line_B127 hk37 _ _ _ _ _ _ _ _ _ hS
    · exact g_f_M_line_B122 hk37 _ _ _ _ _ _ _ _ hS
  · exact g_f_M_line_B122 hk37 _ _ _ _ _ _ _ _ hS
theorem g_f_M_line_B90 {S0 : AS} {k37 : AS → Option Nat → Int32 → Int32 → Int32 → Option (Int32 × AS)} (hk37 : ∀ (z0 : AS) (z1 : Option Nat) (z2 : Int32) (z3 : Int32) (z4 : Int32), GF S0 z0 → G2 S0 (k37 z0 z1 z2 z3 z4)) (S : AS) (x0 : Option Nat) (x1 : Int32) (x2 : Int32) (x3 : Int32) (hS : GF S0 S) : G2 S0 (f_M_line_B90 k37 S x0 x1 x2 x3) := by
  unfold f_M_line_B90
  exact g_f_M_line_B91 hk37 _ _ _ _ _ _ hS
theorem g_f_M_line_C37 {S0 : AS} {k37 : AS → Option Nat → Int32 → Int32 → Int32 → Option (Int32 × AS)} (hk37 : ∀ (z0 : AS) (z1 : Option Nat) (z2 : Int32) (z3 : Int32) (z4 : Int32), GF S0 z0 → G2 S0 (k37 z0 z1 z2 z3 z4)) (S : AS) (x0 : Option Nat) (x1 : Int32) (x2 : Int32) (x3 : Int32) (hS : GF S0 S) : G2 S0 (f_M_line_C37 k37 S x0 x1 x2 x3) := by
  unfold f_M_line_C37
  refine g2_rd (fun v7 => ?_)
  refine g2_if ?_ ?_
  · exact g2_ret hS
  · refine g2_rd (fun v8 => ?_)
    refine g2_rd (fun v9 => ?_)
    refine g2_if ?_ ?_
    · refine g2_rd (fun v10 => ?_)
      refine g2_rd (fun v11 => ?_)
      refine g2_if ?_ ?_
      · refine g2_rd (fun v12 => ?_)
        refine g2_rd (fun v13 => ?_)
        refine g2_if ?_ ?_
        · refine g2_rd (fun u14 => ?_)
          refine g2_b2 (g_f_M_hears _ _ _ _ hS) (fun v16 S15 hS15 => ?_)
          refine g2_if ?_ ?_
          · exact g_f_M_line_B90 hk37 _ _ _ _ _ hS15
          · exact g_f_M_line_B91 hk37 _ _ _ _ _ _ hS15
        · exact g_f_M_line_B90 hk37 _ _ _ _ _ hS
      · exact g_f_M_line_B90 hk37 _ _ _ _ _ hS
    · exact g2_ret hS
theorem g_f_M_line_L37 {S0 : AS}  : ∀ (n : Nat) (z0 : AS) (z1 : Option Nat) (z2 : Int32) (z3 : Int32) (z4 : Int32), GF S0 z0 → G2 S0 (f_M_line_L37 n z0 z1 z2 z3 z4)
  | 0, _, _, _, _, _, _ => g2_no
  | n + 1, z0, z1, z2, z3, z4, h => g_f_M_line_C37 (g_f_M_line_L37 n) z0 z1 z2 z3 z4 h
theorem g_f_M_line_B32 {S0 : AS}  (S : AS) (x0 : Option Nat) (x1 : Int32) (y0 : Option Nat) (y1 : Int32) (y2 : Int32) (hS : GF S0 S) : G2 S0 (f_M_line_B32 S x0 x1 y0 y1 y2) := by
  unfold f_M_line_B32
  refine g2_bd (g1_bZ hS) (fun S17 hS17 => ?_)
  exact g_f_M_line_L37 _ _ _ _ _ _ hS17
theorem g_f_M_line {S0 : AS}  (S : AS) (a0 : Option Nat) (a1 : Int32) (hS : GF S0 S) : G2 S0 (f_M_line S a0 a1) := by
  unfold f_M_line
  refine g2_b2 (g_f_M_isService _ _ hS) (fun v19 S18 hS18 => ?_)
  refine g2_rd (fun u20 => ?_)
  refine g2_b2 (g_f_M_may _ _ _ hS18) (fun v22 S21 hS21 => ?_)
  refine g2_if ?_ ?_
  · exact g2_ret hS21
  · refine g2_rd (fun v23 => ?_)
    refine g2_rd (fun v24 => ?_)
    refine g2_rd (fun v25 => ?_)
    refine g2_if ?_ ?_
    · exact g_f_M_line_B32 _ _ _ _ _ _ hS21
    · exact g_f_M_line_B32 _ _ _ _ _ _ hS21
theorem g_f_M_check_B150 {S0 : AS} {k119 : AS → Option Nat → Int32 → Int32 → Int32 → Int32 → Option (Int32 × AS)} (hk119 : ∀ (z0 : AS) (z1 : Option Nat) (z2 : Int32) (z3 : Int32) (z4 : Int32) (z5 : Int32), GF S0 z0 → G2 S0 (k119 z0 z1 z2 z3 z4 z5)) (S : AS) (x0 : Option Nat) (x1 : Int32) (x2 : Int32) (x3 : Int32) (x5 : Int32) (y0 : Option Nat) (y1 : Int32) (y2 : Int32) (y3 : Int32) (hS : GF S0 S) : G2 S0 (f_M_check_B150 k119 S x0 x1 x2 x3 x5 y0 y1 y2 y3) := by
  unfold f_M_check_B150
  refine g2_bd (g1_bI hS) (fun S1 hS1 => ?_)
  refine g2_rd (fun i2 => ?_)
  exact hk119 _ _ _ _ _ _ hS1
theorem g_f_M_check_B168 {S0 : AS}  (S : AS) (x0 : Option Nat) (x1 : Int32) (x2 : Int32) (x3 : Int32) (hS : GF S0 S) : G2 S0 (f_M_check_B168 S x0 x1 x2 x3) := by
  unfold f_M_check_B168
  refine g2_rd (fun v3 => ?_)
  refine g2_rd (fun v4 => ?_)
  refine g2_rd (fun v5 => ?_)
  refine g2_rd (fun v6 => ?_)
  refine g2_if ?_ ?_
  · exact g2_ret hS
  · refine g2_rd (fun v7 => ?_)
    refine g2_rd (fun v8 => ?_)
    refine g2_rd (fun v9 => ?_)
    refine g2_rd (fun v10 => ?_)
    refine g2_if ?_ ?_
    · refine g2_rd (fun v11 => ?_)
      refine g2_rd (fun v12 => ?_)
      refine g2_if ?_ ?_
      · exact g2_ret hS
      · exact g2_ret hS
    · exact g2_ret hS
theorem g_f_M_check_C119 {S0 : AS} {k119 : AS → Option Nat → Int32 → Int32 → Int32 → Int32 → Option (Int32 × AS)} (hk119 : ∀ (z0 : AS) (z1 : Option Nat) (z2 : Int32) (z3 : Int32) (z4 : Int32) (z5 : Int32), GF S0 z0 → G2 S0 (k119 z0 z1 z2 z3 z4 z5)) (S : AS) (x0 : Option Nat) (x1 : Int32) (x2 : Int32) (x3 : Int32) (x5 : Int32) (hS : GF S0 S) : G2 S0 (f_M_check_C119 k119 S x0 x1 x2 x3 x5) := by
  unfold f_M_check_C119
  refine g2_if ?_ ?_
  · refine g2_rd (fun v13 => ?_)
    refine g2_rd (fun v14 => ?_)
    refine g2_bd (g1_bI hS) (fun S15 hS15 => ?_)
    exact g_f_M_check_B168 _ _ _ _ _ hS15
  · refine g2_rd (fun v16 => ?_)
    refine g2_rd (fun v17 => ?_)
    refine g2_rd (fun u18 => ?_)
    refine g2_b2 (g_f_M_isOpenKey _ _ _ hS) (fun v20 S19 hS19 => ?_)
    refine g2_if ?_ ?_
    · exact g_f_M_check_B150 hk119 _ _ _ _ _ _ _ _ _ _ hS19
    · exact g_f_M_check_B150 hk119 _ _ _ _ _ _ _ _ _ _ hS19
theorem g_f_M_check_L119 {S0 : AS}  : ∀ (n : Nat) (z0 : AS) (z1 : Option Nat) (z2 : Int32) (z3 : Int32) (z4 : Int32) (z5 : Int32), GF S0 z0 → G2 S0 (f_M_check_L119 n z0 z1 z2 z3 z4 z5)
  | 0, _, _, _, _, _, _, _ => g2_no
  | n + 1, z0, z1, z2, z3, z4, z5, h => g_f_M_check_C119 (g_f_M_check_L119 n) z0 z1 z2 z3 z4 z5 h
theorem g_f_M_check_B109 {S0 : AS}  (S : AS) (x0 : Option Nat) (x1 : Int32) (x2 : Int32) (x3 : Int32) (hS : GF S0 S) : G2 S0 (f_M_check_B109 S x0 x1 x2 x3) := by
  unfold f_M_check_B109
  refine g2_rd (fun v21 => ?_)
  refine g2_bd (g1_bI hS) (fun S22 hS22 => ?_)
  exact g_f_M_check_L119 _ _ _ _ _ _ _ hS22
theorem g_f_M_check_B20 {S0 : AS}  (S : AS) (x0 : Option Nat) (x1 : Int32) (x2 : Int32) (x3 : Int32) (y0 : Int32) (hS : GF S0 S) : G2 S0 (f_M_check_B20 S x0 x1 x2 x3 y0) := by
  unfold f_M_check_B20
  refine g2_b2 (g_f_M_isIn _ _ _ _ hS) (fun v24 S23 hS23 => ?_)
  refine g2_rd (fun u25 => ?_)
  refine g2_b2 (g_f_M_mayBoth _ _ _ _ hS23) (fun v27 S26 hS26 => ?_)
  refine g2_if ?_ ?_
  · exact g2_ret hS26
  · refine g2_rd (fun v28 => ?_)
    refine g2_rd (fun v29 => ?_)
    refine g2_if ?_ ?_
    · refine g2_rd (fun v30 => ?_)
      refine g2_rd (fun v31 => ?_)
      refine g2_rd (fun v32 => ?_)
      refine g2_if ?_ ?_
      · refine g2_rd (fun v33 => ?_)
        refine g2_rd (fun v34 => ?_)
        refine g2_if ?_ ?_
        · refine g2_rd (fun v35 => ?_)
          refine g2_rd (fun v36 => ?_)
          refine g2_rd (fun v37 => ?_)
          refine g2_if ?_ ?_
          · exact g_f_M_check_B109 _ _ _ _ _ hS26
          · refine g2_rd (fun v38 => ?_)
            refine g2_rd (fun v39 => ?_)
            refine g2_rd (fun v40 => ?_)
            refine g2_rd (fun v41 => ?_)
            refine g2_if ?_ ?_
            · exact g_f_M_check_B109 _ _ _ _ _ hS26
            · exact g_f_M_check_B168 _ _ _ _ _ hS26
        · exact g_f_M_check_B168 _ _ _ _ _ hS26
      · exact g2_ret hS26
    · exact g2_ret hS26
theorem g_f_M_check_B19 {S0 : AS}  (S : AS) (x0 : Option Nat) (x1 : Int32) (x2 : Int32) (x3 : Int32) (hS : GF S0 S) : G2 S0 (f_M_check_B19 S x0 x1 x2 x3) := by
  unfold f_M_check_B19
  exact g_f_M_check_B20 _ _ _ _ _ _ hS
theorem g_f_M_check {S0 : AS}  (S : AS) (a0 : Option Nat) (a1 : Int32) (a2 : Int32) (a3 : Int32) (hS : GF S0 S) : G2 S0 (f_M_check S a0 a1 a2 a3) := by
  unfold f_M_check
  refine g2_b2 (g_f_M_isService _ _ hS) (fun v43 S42 hS42 => ?_)
  refine g2_if ?_ ?_
  · exact g_f_M_check_B19 _ _ _ _ _ hS42
  · refine g2_rd (fun u44 => ?_)
    refine g2_b2 (g_f_M_isToken _ _ _ hS42) (fun v46 S45 hS45 => ?_)
    refine g2_if ?_ ?_
    · exact g_f_M_check_B19 _ _ _ _ _ hS45
    · exact g_f_M_check_B20 _ _ _ _ _ _ hS45
theorem g_f_M_lag_B70 {S0 : AS}  (S : AS) (x0 : Option Nat) (x1 : Int32) (y0 : Int32) (hS : GF S0 S) : G2 S0 (f_M_lag_B70 S x0 x1 y0) := by
  unfold f_M_lag_B70
  refine g2_if ?_ ?_
  · exact g2_ret hS
  · refine g2_rd (fun v1 => ?_)
    refine g2_rd (fun v2 => ?_)
    refine g2_rd (fun v3 => ?_)
    exact g2_ret hS
theorem g_f_M_lag_B69 {S0 : AS}  (S : AS) (x0 : Option Nat) (x1 : Int32) (hS : GF S0 S) : G2 S0 (f_M_lag_B69 S x0 x1) := by
  unfold f_M_lag_B69
  exact g_f_M_lag_B70 _ _ _ _ hS
theorem g_f_M_lag {S0 : AS}  (S : AS) (a0 : Option Nat) (a1 : Int32) (hS : GF S0 S) : G2 S0 (f_M_lag S a0 a1) := by
  unfold f_M_lag
  refine g2_rd (fun u4 => ?_)
  refine g2_b2 (g_f_M_isToken _ _ _ hS) (fun v6 S5 hS5 => ?_)
  refine g2_rd (fun u7 => ?_)
  refine g2_b2 (g_f_M_may _ _ _ hS5) (fun v9 S8 hS8 => ?_)
  refine g2_if ?_ ?_
  · exact g2_ret hS8
  · refine g2_rd (fun v10 => ?_)
    refine g2_rd (fun v11 => ?_)
    refine g2_rd (fun v12 => ?_)
    refine g2_rd (fun v13 => ?_)
    refine g2_if ?_ ?_
    · refine g2_rd (fun v14 => ?_)
      refine g2_rd (fun v15 => ?_)
      refine g2_rd (fun v16 => ?_)
      refine g2_rd (fun v17 => ?_)
      refine g2_rd (fun v18 => ?_)
      refine g2_rd (fun v19 => ?_)
      refine g2_if ?_ ?_
      · refine g2_rd (fun v20 => ?_)
        refine g2_rd (fun v21 => ?_)
        refine g2_rd (fun v22 => ?_)
        refine g2_if ?_ ?_
        · exact g_f_M_lag_B69 _ _ _ hS8
        · exact g_f_M_lag_B70 _ _ _ _ hS8
      · exact g_f_M_lag_B69 _ _ _ hS8
    · exact g_f_M_lag_B69 _ _ _ hS8
theorem g_f_M_recover_B75 {S0 : AS} {k36 : AS → Option Nat → Int32 → Int32 → Int32 → Int32 → Option (Int32 × AS)} (hk36 : ∀ (z0 : AS) (z1 : Option Nat) (z2 : Int32) (z3 : Int32) (z4 : Int32) (z5 : Int32), GF S0 z0 → G2 S0 (k36 z0 z1 z2 z3 z4 z5)) (S : AS) (x0 : Option Nat) (x1 : Int32) (x2 : Int32) (x4 : Int32) (y0 : Int32) (hS : GF S0 S) : G2 S0 (f_M_recover_B75 k36 S x0 x1 x2 x4 y0) := by
  unfold f_M_recover_B75
  refine g2_rd (fun i1 => ?_)
  exact hk36 _ _ _ _ _ _ hS
theorem g_f_M_recover_B70 {S0 : AS} {k36 : AS → Option Nat → Int32 → Int32 → Int32 → Int32 → Option (Int32 × AS)} (hk36 : ∀ (z0 : AS) (z1 : Option Nat) (z2 : Int32) (z3 : Int32) (z4 : Int32) (z5 : Int32), GF S0 z0 → G2 S0 (k36 z0 z1 z2 z3 z4 z5)) (S : AS) (x0 : Option Nat) (x1 : Int32) (x2 : Int32) (x4 : Int32) (hS : GF S0 S) : G2 S0 (f_M_recover_B70 k36 S x0 x1 x2 x4) := by
  unfold f_M_recover_B70
  exact g_f_M_recover_B75 hk36 _ _ _ _ _ _ hS
theorem g_f_M_recover_B74 {S0 : AS} {k36 : AS → Option Nat → Int32 → Int32 → Int32 → Int32 → Option (Int32 × AS)} (hk36 : ∀ (z0 : AS) (z1 : Option Nat) (z2 : Int32) (z3 : Int32) (z4 : Int32) (z5 : Int32), GF S0 z0 → G2 S0 (k36 z0 z1 z2 z3 z4 z5)) (S : AS) (x0 : Option Nat) (x1 : Int32) (x2 : Int32) (x4 : Int32) (hS : GF S0 S) : G2 S0 (f_M_recover_B74 k36 S x0 x1 x2 x4) := by
  unfold f_M_recover_B74
  exact g_f_M_recover_B75 hk36 _ _ _ _ _ _ hS
theorem g_f_M_recover_C36 {S0 : AS} {k36 : AS → Option Nat → Int32 → Int32 → Int32 → Int32 → Option (Int32 × AS)} (hk36 : ∀ (z0 : AS) (z1 : Option Nat) (z2 : Int32) (z3 : Int32) (z4 : Int32) (z5 : Int32), GF S0 z0 → G2 S0 (k36 z0 z1 z2 z3 z4 z5)) (S : AS) (x0 : Option Nat) (x1 : Int32) (x2 : Int32) (x3 : Int32) (x4 : Int32) (hS : GF S0 S) : G2 S0 (f_M_recover_C36 k36 S x0 x1 x2 x3 x4) := by
  unfold f_M_recover_C36
  refine g2_rd (fun v2 => ?_)
  refine g2_if ?_ ?_
  · refine g2_rd (fun u3 => ?_)
    refine g2_b2 (g_f_M_mayBoth _ _ _ _ hS) (fun v5 S4 hS4 => ?_)
    refine g2_if ?_ ?_
    · exact g2_ret hS4
    · refine g2_rd (fun v6 => ?_)
      refine g2_rd (fun v7 => ?_)
      refine g2_bd (g1_bI hS4) (fun S8 hS8 => ?_)
      refine g2_rd (fun v9 => ?_)
      refine g2_rd (fun v10 => ?_)
      refine g2_rd (fun v11 => ?_)
      refine g2_bd (g1_bI hS8) (fun S12 hS12 => ?_)
      refine g2_rd (fun v13 => ?_)
      refine g2_rd (fun v14 => ?_)
      refine g2_bd (g1_bZ hS12) (fun S15 hS15 => ?_)
      refine g2_rd (fun v16 => ?_)
      refine g2_bd (g1_pI hS15) (fun S17 hS17 => ?_)
      refine g2_rd (fun v18 => ?_)
      exact g2_ret hS17
  · refine g2_if ?_ ?_
    · exact g_f_M_recover_B74 hk36 _ _ _ _ _ hS
    · refine g2_rd (fun v19 => ?_)
      refine g2_rd (fun v20 => ?_)
      refine g2_if ?_ ?_
      · exact g_f_M_recover_B70 hk36 _ _ _ _ _ hS
      · refine g2_rd (fun v21 => ?_)
        refine g2_rd (fun v22 => ?_)
        refine g2_if ?_ ?_
        · exact g_f_M_recover_B74 hk36 _ _ _ _ _ hS
        · exact g_f_M_recover_B70 hk36 _ _ _ _ _ hS
theorem g_f_M_recover_L36 {S0 : AS}  : ∀ (n : Nat) (z0 : AS) (z1 : Option Nat) (z2 : Int32) (z3 : Int32) (z4 : Int32) (z5 : Int32), GF S0 z0 → G2 S0 (f_M_recover_L36 n z0 z1 z2 z3 z4 z5)
  | 0, _, _, _, _, _, _, _ => g2_no
  | n + 1, z0, z1, z2, z3, z4, z5, h => g_f_M_recover_C36 (g_f_M_recover_L36 n) z0 z1 z2 z3 z4 z5 h
theorem g_f_M_recover_B32 {S0 : AS}  (S : AS) (x0 : Option Nat) (x1 : Int32) (x2 : Int32) (y0 : Int32) (hS : GF S0 S) : G2 S0 (f_M_recover_B32 S x0 x1 x2 y0) := by
  unfold f_M_recover_B32
  exact g_f_M_recover_L36 _ _ _ _ _ _ _ hS
theorem g_f_M_recover_B31 {S0 : AS}  (S : AS) (x0 : Option Nat) (x1 : Int32) (x2 : Int32) (hS : GF S0 S) : G2 S0 (f_M_recover_B31 S x0 x1 x2) := by
  unfold f_M_recover_B31
  exact g_f_M_recover_B32 _ _ _ _ _ hS
theorem g_f_M_recover {S0 : AS}  (S : AS) (a0 : Option Nat) (a1 : Int32) (hS : GF S0 S) : G2 S0 (f_M_recover S a0 a1) := by
  unfold f_M_recover
  refine g2_b2 (g_f_M_isSix _ _ hS) (fun v24 S23 hS23 => ?_)
  refine g2_if ?_ ?_
  · exact g_f_M_recover_B31 _ _ _ _ hS23
  · refine g2_rd (fun v25 => ?_)
    refine g2_rd (fun v26 => ?_)
    refine g2_if ?_ ?_
    · refine g2_rd (fun v27 => ?_)
      refine g2_if ?_ ?_
      · exact g_f_M_recover_B31 _ _ _ _ hS23
      · exact g_f_M_recover_B32 _ _ _ _ _ hS23
    · exact g_f_M_recover_B31 _ _ _ _ hS23
theorem g_f_M_isRecovery {S0 : AS}  (S : AS) (a0 : Option Nat) (a1 : Int32) (hS : GF S0 S) : G2 S0 (f_M_isRecovery S a0 a1) := by
  unfold f_M_isRecovery
  refine g2_rd (fun v1 => ?_)
  refine g2_b2 (g_f_M_isIn _ _ _ _ hS) (fun v3 S2 hS2 => ?_)
  refine g2_rd (fun u4 => ?_)
  exact g2_ret hS2
theorem g_f_M_speaks {S0 : AS}  (S : AS) (a0 : Option Nat) (a1 : Int32) (hS : GF S0 S) : G2 S0 (f_M_speaks S a0 a1) := by
  unfold f_M_speaks
  refine g2_rd (fun v1 => ?_)
  refine g2_rd (fun v2 => ?_)
  refine g2_if ?_ ?_
  · exact g2_ret hS
  · refine g2_rd (fun v3 => ?_)
    refine g2_rd (fun v4 => ?_)
    refine g2_if ?_ ?_
    · exact g2_ret hS
    · exact g2_ret hS
theorem g_f_M_vouch_B104 {S0 : AS}  (S : AS) (x0 : Option Nat) (x1 : Int32) (x2 : Int32) (y0 : Option Nat) (y1 : Int32) (y2 : Int32) (hS : GF S0 S) : G2 S0 (f_M_vouch_B104 S x0 x1 x2 y0 y1 y2) := by
  unfold f_M_vouch_B104
  refine g2_rd (fun u1 => ?_)
  refine g2_b2 (g_f_M_mayBoth _ _ _ _ hS) (fun v3 S2 hS2 => ?_)
  refine g2_if ?_ ?_
  · exact g2_ret hS2
  · refine g2_rd (fun v4 => ?_)
    refine g2_rd (fun v5 => ?_)
    refine g2_rd (fun v6 => ?_)
    refine g2_rd (fun v7 => ?_)
    refine g2_bd (g1_bI hS2) (fun S8 hS8 => ?_)
    refine g2_rd (fun v9 => ?_)
    refine g2_rd (fun v10 => ?_)
    refine g2_rd (fun u11 => ?_)
    refine g2_b2 (g_f_M_levelNow _ _ _ hS8) (fun v13 S12 hS12 => ?_)
    refine g2_bd (g1_bI hS12) (fun S14 hS14 => ?_)
    refine g2_rd (fun v15 => ?_)
    refine g2_rd (fun v16 => ?_)
    exact g2_ret hS14
theorem g_f_M_vouch_B103 {S0 : AS}  (S : AS) (x0 : Option Nat) (x1 : Int32) (x2 : Int32) (y0 : Option Nat) (y1 : Int32) (hS : GF S0 S) : G2 S0 (f_M_vouch_B103 S x0 x1 x2 y0 y1) := by
  unfold f_M_vouch_B103
  exact g_f_M_vouch_B104 _ _ _ _ _ _ _ hS
theorem g_f_M_vouch_B72 {S0 : AS}  (S : AS) (x0 : Option Nat) (x1 : Int32) (x2 : Int32) (x3 : Int32) (y0 : Int32) (hS : GF S0 S) : G2 S0 (f_M_vouch_B72 S x0 x1 x2 x3 y0) := by
  unfold f_M_vouch_B72
  refine g2_if ?_ ?_
  · exact g_f_M_vouch_B103 _ _ _ _ _ _ hS
  · refine g2_rd (fun v17 => ?_)
    refine g2_rd (fun v18 => ?_)
    refine g2_rd (fun v19 => ?_)
    refine g2_rd (fun v20 => ?_)
    refine g2_if ?_ ?_
    · exact g_f_M_vouch_B104 _ _ _ _ _ _ _ hS
    · exact g_f_M_vouch_B103 _ _ _ _ _ _ hS
theorem g_f_M_vouch_B71 {S0 : AS}  (S : AS) (x0 : Option Nat) (x1 : Int32) (x2 : Int32) (x3 : Int32) (hS : GF S0 S) : G2 S0 (f_M_vouch_B71 S x0 x1 x2 x3) := by
  unfold f_M_vouch_B71
  exact g_f_M_vouch_B72 _ _ _ _ _ _ hS
theorem g_f_M_vouch_B21 {S0 : AS}  (S : AS) (x0 : Option Nat) (x1 : Int32) (x2 : Int32) (y0 : Int32) (hS : GF S0 S) : G2 S0 (f_M_vouch_B21 S x0 x1 x2 y0) := by
  unfold f_M_vouch_B21
  refine g2_if ?_ ?_
  · exact g_f_M_vouch_B71 _ _ _ _ _ hS
  · refine g2_rd (fun v21 => ?_)
    refine g2_rd (fun v22 => ?_)
    refine g2_if ?_ ?_
    · exact g_f_M_vouch_B71 _ _ _ _ _ hS
    · refine g2_rd (fun u23 => ?_)
      refine g2_b2 (g_f_M_speaks _ _ _ hS) (fun v25 S24 hS24 => ?_)
      refine g2_if ?_ ?_
      · exact g_f_M_vouch_B71 _ _ _ _ _ hS24
      · refine g2_rd (fun u26 => ?_)
        refine g2_b2 (g_f_M_levelNow _ _ _ hS24) (fun v28 S27 hS27 => ?_)
        refine g2_if ?_ ?_
        · exact g_f_M_vouch_B71 _ _ _ _ _ hS27
        · refine g2_rd (fun v29 => ?_)
          refine g2_rd (fun v30 => ?_)
          refine g2_rd (fun v31 => ?_)
          refine g2_rd (fun v32 => ?_)
          refine g2_if ?_ ?_
          · exact g_f_M_vouch_B71 _ _ _ _ _ hS27
          · exact g_f_M_vouch_B72 _ _ _ _ _ _ hS27
theorem g_f_M_vouch_B20 {S0 : AS}  (S : AS) (x0 : Option Nat) (x1 : Int32) (x2 : Int32) (hS : GF S0 S) : G2 S0 (f_M_vouch_B20 S x0 x1 x2) := by
  unfold f_M_vouch_B20
  exact g_f_M_vouch_B21 _ _ _ _ _ hS
theorem g_f_M_vouch {S0 : AS}  (S : AS) (a0 : Option Nat) (a1 : Int32) (a2 : Int32) (hS : GF S0 S) : G2 S0 (f_M_vouch S a0 a1 a2) := by
  unfold f_M_vouch
  refine g2_rd (fun u33 => ?_)
  refine g2_b2 (g_f_M_isRecovery _ _ _ hS) (fun v35 S34 hS34 => ?_)
  refine g2_if ?_ ?_
  · exact g_f_M_vouch_B20 _ _ _ _ hS34
  · refine g2_rd (fun u36 => ?_)
    refine g2_b2 (g_f_M_isSession _ _ _ hS34) (fun v38 S37 hS37 => ?_)
    refine g2_if ?_ ?_
    · exact g_f_M_vouch_B20 _ _ _ _ hS37
    · exact g_f_M_vouch_B21 _ _ _ _ _ hS37
theorem g_f_M_many_C4 {S0 : AS} {k4 : AS → Int32 → Int32 → Int32 → Option (Int32 × AS)} (hk4 : ∀ (z0 : AS) (z1 : Int32) (z2 : Int32) (z3 : Int32), GF S0 z0 → G2 S0 (k4 z0 z1 z2 z3)) (S : AS) (x0 : Int32) (x1 : Int32) (x2 : Int32) (hS : GF S0 S) : G2 S0 (f_M_many_C4 k4 S x0 x1 x2) := by
  unfold f_M_many_C4
  refine g2_if ?_ ?_
  · exact g2_ret hS
  · refine g2_rd (fun i1 => ?_)
    refine g2_rd (fun i2 => ?_)
    exact hk4 _ _ _ _ hS
theorem g_f_M_many_L4 {S0 : AS}  : ∀ (n : Nat) (z0 : AS) (z1 : Int32) (z2 : Int32) (z3 : Int32), GF S0 z0 → G2 S0 (f_M_many_L4 n z0 z1 z2 z3)
  | 0, _, _, _, _, _ => g2_no
  | n + 1, z0, z1, z2, z3, h => g_f_M_many_C4 (g_f_M_many_L4 n) z0 z1 z2 z3 h
theorem g_f_M_many {S0 : AS}  (S : AS) (a0 : Int32) (hS : GF S0 S) : G2 S0 (f_M_many S a0) := by
  unfold f_M_many
  exact g_f_M_many_L4 _ _ _ _ _ hS
theorem g_f_M_stop_B65 {S0 : AS}  (S : AS) (x0 : Option Nat) (x1 : Int32) (y0 : Option Nat) (y1 : Int32) (y2 : Int32) (hS : GF S0 S) : G2 S0 (f_M_stop_B65 S x0 x1 y0 y1 y2) := by
  unfold f_M_stop_B65
  refine g2_rd (fun u1 => ?_)
  refine g2_b2 (g_f_M_mayBoth _ _ _ _ hS) (fun v3 S2 hS2 => ?_)
  refine g2_if ?_ ?_
  · exact g2_ret hS2
  · refine g2_rd (fun v4 => ?_)
    refine g2_bd (g1_bZ hS2) (fun S5 hS5 => ?_)
    refine g2_rd (fun v6 => ?_)
    refine g2_rd (fun v7 => ?_)
    refine g2_b2 (g_f_M_many _ _ hS5) (fun v9 S8 hS8 => ?_)
    exact g2_ret hS8
theorem g_f_M_stop_B64 {S0 : AS}  (S : AS) (x0 : Option Nat) (x1 : Int32) (y0 : Option Nat) (y1 : Int32) (hS : GF S0 S) : G2 S0 (f_M_stop_B64 S x0 x1 y0 y1) := by
  unfold f_M_stop_B64
  exact g_f_M_stop_B65 _ _ _ _ _ _ hS
theorem g_f_M_stop_B21 {S0 : AS}  (S : AS) (x0 : Option Nat) (x1 : Int32) (x2 : Int32) (y0 : Int32) (hS : GF S0 S) : G2 S0 (f_M_stop_B21 S x0 x1 x2 y0) := by
  unfold f_M_stop_B21
  refine g2_if ?_ ?_
  · exact g_f_M_stop_B64 _ _ _ _ _ hS
  · refine g2_rd (fun v10 => ?_)
    refine g2_rd (fun v11 => ?_)
    refine g2_if ?_ ?_
    · exact g_f_M_stop_B64 _ _ _ _ _ hS
    · refine g2_rd (fun u12 => ?_)
      refine g2_b2 (g_f_M_speaks _ _ _ hS) (fun v14 S13 hS13 => ?_)
      refine g2_if ?_ ?_
      · exact g_f_M_stop_B64 _ _ _ _ _ hS13
      · refine g2_rd (fun v15 => ?_)
        refine g2_rd (fun v16 => ?_)
        refine g2_rd (fun v17 => ?_)
        refine g2_rd (fun v18 => ?_)
        refine g2_if ?_ ?_
        · exact g_f_M_stop_B65 _ _ _ _ _ _ hS13
        · exact g_f_M_stop_B64 _ _ _ _ _ hS13
theorem g_f_M_stop_B20 {S0 : AS}  (S : AS) (x0 : Option Nat) (x1 : Int32) (x2 : Int32) (hS : GF S0 S) : G2 S0 (f_M_stop_B20 S x0 x1 x2) := by
  unfold f_M_stop_B20
  exact g_f_M_stop_B21 _ _ _ _ _ hS
theorem g_f_M_stop {S0 : AS}  (S : AS) (a0 : Option Nat) (a1 : Int32) (a2 : Int32) (hS : GF S0 S) : G2 S0 (f_M_stop S a0 a1 a2) := by
  unfold f_M_stop
  refine g2_rd (fun u19 => ?_)
  refine g2_b2 (g_f_M_isRecovery _ _ _ hS) (fun v21 S20 hS20 => ?_)
  refine g2_if ?_ ?_
  · exact g_f_M_stop_B20 _ _ _ _ hS20
  · refine g2_rd (fun u22 => ?_)
    refine g2_b2 (g_f_M_isSession _ _ _ hS20) (fun v24 S23 hS23 => ?_)
    refine g2_if ?_ ?_
    · exact g_f_M_stop_B20 _ _ _ _ hS23
    · exact g_f_M_stop_B21 _ _ _ _ _ hS23
theorem g_f_M_weight {S0 : AS}  (S : AS) (a0 : Int32) (hS : GF S0 S) : G2 S0 (f_M_weight S a0) := by
  unfold f_M_weight
  exact g2_ret hS
theorem g_f_M_endAllOf_B41 {S0 : AS} {k4 : AS → Option Nat → Int32 → Int32 → Int32 → Option (Int32 × AS)} (hk4 : ∀ (z0 : AS) (z1 : Option Nat) (z2 : Int32) (z3 : Int32) (z4 : Int32), GF S0 z0 → G2 S0 (k4 z0 z1 z2 z3 z4)) (S : AS) (x0 : Option Nat) (x1 : Int32) (x3 : Int32) (y0 : Int32) (y1 : Int32) (hS : GF S0 S) : G2 S0 (f_M_endAllOf_B41 k4 S x0 x1 x3 y0 y1) := by
  unfold f_M_endAllOf_B41
  refine g2_rd (fun i1 => ?_)
  refine g2_rd (fun i2 => ?_)
  exact hk4 _ _ _ _ _ hS
theorem g_f_M_endAllOf_B40 {S0 : AS} {k4 : AS → Option Nat → Int32 → Int32 → Int32 → Option (Int32 × AS)} (hk4 : ∀ (z0 : AS) (z1 : Option Nat) (z2 : Int32) (z3 : Int32) (z4 : Int32), GF S0 z0 → G2 S0 (k4 z0 z1 z2 z3 z4)) (S : AS) (x0 : Option Nat) (x1 : Int32) (x3 : Int32) (y0 : Int32) (hS : GF S0 S) : G2 S0 (f_M_endAllOf_B40 k4 S x0 x1 x3 y0) := by
  unfold f_M_endAllOf_B40
  exact g_f_M_endAllOf_B41 hk4 _ _ _ _ _ _ hS
theorem g_f_M_endAllOf_C4 {S0 : AS} {k4 : AS → Option Nat → Int32 → Int32 → Int32 → Option (Int32 × AS)} (hk4 : ∀ (z0 : AS) (z1 : Option Nat) (z2 : Int32) (z3 : Int32) (z4 : Int32), GF S0 z0 → G2 S0 (k4 z0 z1 z2 z3 z4)) (S : AS) (x0 : Option Nat) (x1 : Int32) (x2 : Int32) (x3 : Int32) (hS : GF S0 S) : G2 S0 (f_M_endAllOf_C4 k4 S x0 x1 x2 x3) := by
  unfold f_M_endAllOf_C4
  refine g2_rd (fun v3 => ?_)
  refine g2_if ?_ ?_
  · exact g2_ret hS
  · refine g2_rd (fun v4 => ?_)
    refine g2_rd (fun v5 => ?_)
    refine g2_if ?_ ?_
    · exact g_f_M_endAllOf_B40 hk4 _ _ _ _ _ hS
    · refine g2_rd (fun v6 => ?_)
      refine g2_rd (fun v7 => ?_)
      refine g2_if ?_ ?_
      · refine g2_rd (fun u8 => ?_)
        refine g2_b2 (g_f_M_endSession _ _ _ hS) (fun v10 S9 hS9 => ?_)
        exact g_f_M_endAllOf_B41 hk4 _ _ _ _ _ _ hS9
      · exact g_f_M_endAllOf_B40 hk4 _ _ _ _ _ hS
theorem g_f_M_endAllOf_L4 {S0 : AS}  : ∀ (n : Nat) (z0 : AS) (z1 : Option Nat) (z2 : Int32) (z3 : Int32) (z4 : Int32), GF S0 z0 → G2 S0 (f_M_endAllOf_L4 n z0 z1 z2 z3 z4)
  | 0, _, _, _, _, _, _ => g2_no
  | n + 1, z0, z1, z2, z3, z4, h => g_f_M_endAllOf_C4 (g_f_M_endAllOf_L4 n) z0 z1 z2 z3 z4 h
theorem g_f_M_endAllOf {S0 : AS}  (S : AS) (a0 : Option Nat) (a1 : Int32) (hS : GF S0 S) : G2 S0 (f_M_endAllOf S a0 a1) := by
  unfold f_M_endAllOf
  exact g_f_M_endAllOf_L4 _ _ _ _ _ _ hS
theorem g_f_M_finish_B100 {S0 : AS} {k60 : AS → Option Nat → Int32 → Int32 → Int32 → Int32 → Int32 → Option (Int32 × AS)} (hk60 : ∀ (z0 : AS) (z1 : Option Nat) (z2 : Int32) (z3 : Int32) (z4 : Int32) (z5 : Int32) (z6 : Int32), GF S0 z0 → G2 S0 (k60 z0 z1 z2 z3 z4 z5 z6)) (S : AS) (x0 : Option Nat) (x1 : Int32) (x2 : Int32) (x3 : Int32) (x5 : Int32) (y0 : Int32) (y1 : Int32) (hS : GF S0 S) : G2 S0 (f_M_finish_B100 k60 S x0 x1 x2 x3 x5 y0 y1) := by
  unfold f_M_finish_B100
  refine g2_rd (fun i1 => ?_)
  refine g2_rd (fun i2 => ?_)
  exact hk60 _ _ _ _ _ _ _ hS
theorem g_f_M_finish_C165 {S0 : AS} {k165 : AS → Option Nat → Int32 → Int32 → Int32 → Int32 → Option (Int32 × AS)} (hk165 : ∀ (z0 : AS) (z1 : Option Nat) (z2 : Int32) (z3 : Int32) (z4 : Int32) (z5 : Int32), GF S0 z0 → G2 S0 (k165 z0 z1 z2 z3 z4 z5)) (S : AS) (x0 : Option Nat) (x1 : Int32) (x5 : Int32) (x6 : Int32) (x7 : Int32) (hS : GF S0 S) : G2 S0 (f_M_finish_C165 k165 S x0 x1 x5 x6 x7) := by
  unfold f_M_finish_C165
  refine g2_if ?_ ?_
  · refine g2_rd (fun u3 => ?_)
    refine g2_bd (g_f_M_ready _ _ _ _ hS) (fun S4 hS4 => ?_)
    refine g2_rd (fun u5 => ?_)
    refine g2_bd (g_f_M_write _ _ _ _ hS4) (fun S6 hS6 => ?_)
    exact g2_ret hS6
  · refine g2_rd (fun v7 => ?_)
    refine g2_bd (g1_bI hS) (fun S8 hS8 => ?_)
    refine g2_rd (fun i9 => ?_)
    exact hk165 _ _ _ _ _ _ hS8
theorem g_f_M_finish_L165 {S0 : AS}  : ∀ (n : Nat) (z0 : AS) (z1 : Option Nat) (z2 : Int32) (z3 : Int32) (z4 : Int32) (z5 : Int32), GF S0 z0 → G2 S0 (f_M_finish_L165 n z0 z1 z2 z3 z4 z5)
  | 0, _, _, _, _, _, _, _ => g2_no
  | n + 1, z0, z1, z2, z3, z4, z5, h => g_f_M_finish_C165 (g_f_M_finish_L165 n) z0 z1 z2 z3 z4 z5 h
theorem g_f_M_finish_B131 {S0 : AS}  (S : AS) (x0 : Option Nat) (x1 : Int32) (y0 : Option Nat) (y1 : Int32) (y2 : Int32) (hS : GF S0 S) : G2 S0 (f_M_finish_B131 S x0 x1 y0 y1 y2) := by
  unfold f_M_finish_B131
  refine g2_rd (fun u10 => ?_)
  refine g2_b2 (g_f_M_mayBoth _ _ _ _ hS) (fun v12 S11 hS11 => ?_)
  refine g2_if ?_ ?_
  · exact g2_ret hS11
  · refine g2_rd (fun v13 => ?_)
    refine g2_rd (fun v14 => ?_)
    refine g2_rd (fun v15 => ?_)
    refine g2_bd (g1_bZ hS11) (fun S16 hS16 => ?_)
    refine g2_rd (fun u17 => ?_)
    refine g2_b2 (g_f_M_endAllOf _ _ _ hS16) (fun v19 S18 hS18 => ?_)
    exact g_f_M_finish_L165 _ _ _ _ _ _ _ hS18
theorem g_f_M_finish_B130 {S0 : AS}  (S : AS) (x0 : Option Nat) (x1 : Int32) (y0 : Option Nat) (y1 : Int32) (hS : GF S0 S) : G2 S0 (f_M_finish_B130 S x0 x1 y0 y1) := by
  unfold f_M_finish_B130
  exact g_f_M_finish_B131 _ _ _ _ _ _ hS
theorem g_f_M_finish_B109 {S0 : AS}  (S : AS) (x0 : Option Nat) (x1 : Int32) (x2 : Int32) (x3 : Int32) (x4 : Int32) (hS : GF S0 S) : G2 S0 (f_M_finish_B109 S x0 x1 x2 x3 x4) := by
  unfold f_M_finish_B109
  refine g2_if ?_ ?_
  · exact g_f_M_finish_B130 _ _ _ _ _ hS
  · refine g2_rd (fun v20 => ?_)
    refine g2_rd (fun v21 => ?_)
    refine g2_if ?_ ?_
    · exact g_f_M_finish_B130 _ _ _ _ _ hS
    · exact g_f_M_finish_B131 _ _ _ _ _ _ hS
theorem g_f_M_finish_C60 {S0 : AS} {k60 : AS → Option Nat → Int32 → Int32 → Int32 → Int32 → Int32 → Option (Int32 × AS)} (hk60 : ∀ (z0 : AS) (z1 : Option Nat) (z2 : Int32) (z3 : Int32) (z4 : Int32) (z5 : Int32) (z6 : Int32), GF S0 z0 → G2 S0 (k60 z0 z1 z2 z3 z4 z5 z6)) (S : AS) (x0 : Option Nat) (x1 : Int32) (x2 : Int32) (x3 : Int32) (x4 : Int32) (x5 : Int32) (hS : GF S0 S) : G2 S0 (f_M_finish_C60 k60 S x0 x1 x2 x3 x4 x5) := by
  unfold f_M_finish_C60
  refine g2_if ?_ ?_
  · exact g_f_M_finish_B109 _ _ _ _ _ _ hS
  · refine g2_if ?_ ?_
    · exact g_f_M_finish_B109 _ _ _ _ _ _ hS
    · refine g2_rd (fun v22 => ?_)
      refine g2_rd (fun v23 => ?_)
      refine g2_rd (fun v24 => ?_)
      refine g2_rd (fun v25 => ?_)
      refine g2_if ?_ ?_
      · exact g_f_M_finish_B100 hk60 _ _ _ _ _ _ _ _ hS
      · refine g2_b2 (g_f_M_weight _ _ hS) (fun v27 S26 hS26 => ?_)
        exact g_f_M_finish_B100 hk60 _ _ _ _ _ _ _ _ hS26
theorem g_f_M_finish_L60 {S0 : AS}  : ∀ (n : Nat) (z0 : AS) (z1 : Option Nat) (z2 : Int32) (z3 : Int32) (z4 : Int32) (z5 : Int32) (z6 : Int32), GF S0 z0 → G2 S0 (f_M_finish_L60 n z0 z1 z2 z3 z4 z5 z6)
  | 0, _, _, _, _, _, _, _, _ => g2_no
  | n + 1, z0, z1, z2, z3, z4, z5, z6, h => g_f_M_finish_C60 (g_f_M_finish_L60 n) z0 z1 z2 z3 z4 z5 z6 h
theorem g_f_M_finish_B53 {S0 : AS}  (S : AS) (x0 : Option Nat) (x1 : Int32) (x2 : Int32) (y0 : Int32) (hS : GF S0 S) : G2 S0 (f_M_finish_B53 S x0 x1 x2 y0) := by
  unfold f_M_finish_B53
  exact g_f_M_finish_L60 _ _ _ _ _ _ _ _ hS
theorem g_f_M_finish_B52 {S0 : AS}  (S : AS) (x0 : Option Nat) (x1 : Int32) (x2 : Int32) (hS : GF S0 S) : G2 S0 (f_M_finish_B52 S x0 x1 x2) := by
  unfold f_M_finish_B52
  exact g_f_M_finish_B53 _ _ _ _ _ hS
theorem g_f_M_finish {S0 : AS}  (S : AS) (a0 : Option Nat) (a1 : Int32) (hS : GF S0 S) : G2 S0 (f_M_finish S a0 a1) := by
  unfold f_M_finish
  refine g2_rd (fun u28 => ?_)
  refine g2_b2 (g_f_M_isRecovery _ _ _ hS) (fun v30 S29 hS29 => ?_)
  refine g2_if ?_ ?_
  · exact g_f_M_finish_B52 _ _ _ _ hS29
  · refine g2_rd (fun v31 => ?_)
    refine g2_rd (fun v32 => ?_)
    refine g2_if ?_ ?_
    · exact g_f_M_finish_B52 _ _ _ _ hS29
    · refine g2_rd (fun v33 => ?_)
      refine g2_rd (fun v34 => ?_)
      refine g2_rd (fun v35 => ?_)
      refine g2_if ?_ ?_
      · exact g_f_M_finish_B52 _ _ _ _ hS29
      · refine g2_rd (fun v36 => ?_)
        refine g2_rd (fun v37 => ?_)
        refine g2_b2 (g_f_M_many _ _ hS29) (fun v39 S38 hS38 => ?_)
        refine g2_if ?_ ?_
        · exact g_f_M_finish_B52 _ _ _ _ hS38
        · exact g_f_M_finish_B53 _ _ _ _ _ hS38
theorem g_f_M_link_B58 {S0 : AS}  (S : AS) (x0 : Option Nat) (x1 : Int32) (x2 : Int32) (y0 : Option Nat) (y1 : Int32) (y2 : Int32) (hS : GF S0 S) : G2 S0 (f_M_link_B58 S x0 x1 x2 y0 y1 y2) := by
  unfold f_M_link_B58
  refine g2_rd (fun u1 => ?_)
  refine g2_b2 (g_f_M_mayBoth _ _ _ _ hS) (fun v3 S2 hS2 => ?_)
  refine g2_if ?_ ?_
  · exact g2_ret hS2
  · refine g2_rd (fun v4 => ?_)
    refine g2_rd (fun v5 => ?_)
    refine g2_rd (fun v6 => ?_)
    refine g2_bd (g1_bI hS2) (fun S7 hS7 => ?_)
    exact g2_ret hS7
theorem g_f_M_link_B53 {S0 : AS}  (S : AS) (x0 : Option Nat) (x1 : Int32) (x2 : Int32) (y0 : Option Nat) (y1 : Int32) (hS : GF S0 S) : G2 S0 (f_M_link_B53 S x0 x1 x2 y0 y1) := by
  unfold f_M_link_B53
  exact g_f_M_link_B58 _ _ _ _ _ _ _ hS
theorem g_f_M_link_B57 {S0 : AS}  (S : AS) (x0 : Option Nat) (x1 : Int32) (x2 : Int32) (y0 : Option Nat) (y1 : Int32) (hS : GF S0 S) : G2 S0 (f_M_link_B57 S x0 x1 x2 y0 y1) := by
  unfold f_M_link_B57
  exact g_f_M_link_B58 _ _ _ _ _ _ _ hS
theorem g_f_M_link_B21 {S0 : AS}  (S : AS) (x0 : Option Nat) (x1 : Int32) (x2 : Int32) (y0 : Int32) (hS : GF S0 S) : G2 S0 (f_M_link_B21 S x0 x1 x2 y0) := by
  unfold f_M_link_B21
  refine g2_if ?_ ?_
  · exact g_f_M_link_B57 _ _ _ _ _ _ hS
  · refine g2_if ?_ ?_
    · exact g_f_M_link_B53 _ _ _ _ _ _ hS
    · refine g2_rd (fun v8 => ?_)
      refine g2_rd (fun v9 => ?_)
      refine g2_if ?_ ?_
      · exact g_f_M_link_B53 _ _ _ _ _ _ hS
      · refine g2_rd (fun v10 => ?_)
        refine g2_rd (fun v11 => ?_)
        refine g2_if ?_ ?_
        · exact g_f_M_link_B53 _ _ _ _ _ _ hS
        · exact g_f_M_link_B57 _ _ _ _ _ _ hS
theorem g_f_M_link_B20 {S0 : AS}  (S : AS) (x0 : Option Nat) (x1 : Int32) (x2 : Int32) (hS : GF S0 S) : G2 S0 (f_M_link_B20 S x0 x1 x2) := by
  unfold f_M_link_B20
  exact g_f_M_link_B21 _ _ _ _ _ hS
theorem g_f_M_link {S0 : AS}  (S : AS) (a0 : Option Nat) (a1 : Int32) (a2 : Int32) (hS : GF S0 S) : G2 S0 (f_M_link S a0 a1 a2) := by
  unfold f_M_link
  refine g2_b2 (g_f_M_isSix _ _ hS) (fun v13 S12 hS12 => ?_)
  refine g2_if ?_ ?_
  · exact g_f_M_link_B20 _ _ _ _ hS12
  · refine g2_b2 (g_f_M_isIn _ _ _ _ hS12) (fun v15 S14 hS14 => ?_)
    refine g2_if ?_ ?_
    · exact g_f_M_link_B20 _ _ _ _ hS14
    · exact g_f_M_link_B21 _ _ _ _ _ hS14
theorem g_f_M_foreign_B49 {S0 : AS}  (S : AS) (x0 : Option Nat) (x1 : Int32) (y0 : Option Nat) (y1 : Int32) (y2 : Int32) (hS : GF S0 S) : G2 S0 (f_M_foreign_B49 S x0 x1 y0 y1 y2) := by
  unfold f_M_foreign_B49
  refine g2_rd (fun u1 => ?_)
  refine g2_b2 (g_f_M_mayBoth _ _ _ _ hS) (fun v3 S2 hS2 => ?_)
  refine g2_if ?_ ?_
  · exact g2_ret hS2
  · refine g2_rd (fun v4 => ?_)
    refine g2_rd (fun v5 => ?_)
    refine g2_rd (fun u6 => ?_)
    refine g2_b2 (g_f_M_newSession _ _ _ _ hS2) (fun v8 S7 hS7 => ?_)
    exact g2_ret hS7
theorem g_f_M_foreign_B48 {S0 : AS}  (S : AS) (x0 : Option Nat) (x1 : Int32) (y0 : Option Nat) (y1 : Int32) (hS : GF S0 S) : G2 S0 (f_M_foreign_B48 S x0 x1 y0 y1) := by
  unfold f_M_foreign_B48
  exact g_f_M_foreign_B49 _ _ _ _ _ _ hS
theorem g_f_M_foreign {S0 : AS}  (S : AS) (a0 : Option Nat) (a1 : Int32) (hS : GF S0 S) : G2 S0 (f_M_foreign S a0 a1) := by
  unfold f_M_foreign
  refine g2_b2 (g_f_M_isSix _ _ hS) (fun v10 S9 hS9 => ?_)
  refine g2_if ?_ ?_
  · exact g_f_M_foreign_B48 _ _ _ _ _ hS9
  · refine g2_rd (fun v11 => ?_)
    refine g2_rd (fun v12 => ?_)
    refine g2_if ?_ ?_
    · exact g_f_M_foreign_B48 _ _ _ _ _ hS9
    · refine g2_rd (fun v13 => ?_)
      refine g2_rd (fun v14 => ?_)
      refine g2_rd (fun v15 => ?_)
      refine g2_rd (fun v16 => ?_)
      refine g2_if ?_ ?_
      · refine g2_rd (fun v17 => ?_)
        refine g2_if ?_ ?_
        · exact g_f_M_foreign_B48 _ _ _ _ _ hS9
        · exact g_f_M_foreign_B49 _ _ _ _ _ _ hS9
      · exact g_f_M_foreign_B48 _ _ _ _ _ hS9
theorem g_f_M_leave_B94 {S0 : AS} {k52 : AS → Option Nat → Int32 → Int32 → Int32 → Option (Int32 × AS)} (hk52 : ∀ (z0 : AS) (z1 : Option Nat) (z2 : Int32) (z3 : Int32) (z4 : Int32), GF S0 z0 → G2 S0 (k52 z0 z1 z2 z3 z4)) (S : AS) (x0 : Option Nat) (x1 : Int32) (x2 : Int32) (x3 : Int32) (y0 : Option Nat) (y1 : Int32) (y2 : Int32) (hS : GF S0 S) : G2 S0 (f_M_leave_B94 k52 S x0 x1 x2 x3 y0 y1 y2) := by
  unfold f_M_leave_B94
  refine g2_bd (g1_bI hS) (fun S1 hS1 => ?_)
  refine g2_rd (fun i2 => ?_)
  exact hk52 _ _ _ _ _ hS1
theorem g_f_M_leave_B88 {S0 : AS} {k52 : AS → Option Nat → Int32 → Int32 → Int32 → Option (Int32 × AS)} (hk52 : ∀ (z0 : AS) (z1 : Option Nat) (z2 : Int32) (z3 : Int32) (z4 : Int32), GF S0 z0 → G2 S0 (k52 z0 z1 z2 z3 z4)) (S : AS) (x0 : Option Nat) (x1 : Int32) (x2 : Int32) (x3 : Int32) (y0 : Option Nat) (y1 : Int32) (hS : GF S0 S) : G2 S0 (f_M_leave_B88 k52 S x0 x1 x2 x3 y0 y1) := by
  unfold f_M_leave_B88
  refine g2_rd (fun v3 => ?_)
  refine g2_rd (fun v4 => ?_)
  exact g_f_M_leave_B94 hk52 _ _ _ _ _ _ _ _ hS
theorem g_f_M_leave_B140 {S0 : AS} {k103 : AS → Option Nat → Int32 → Int32 → Int32 → Option (Int32 × AS)} (hk103 : ∀ (z0 : AS) (z1 : Option Nat) (z2 : Int32) (z3 : Int32) (z4 : Int32), GF S0 z0 → G2 S0 (k103 z0 z1 z2 z3 z4)) (S : AS) (x0 : Option Nat) (x1 : Int32) (x2 : Int32) (x3 : Int32) (y0 : Option Nat) (y1 : Int32) (y2 : Int32) (hS : GF S0 S) : G2 S0 (f_M_leave_B140 k103 S x0 x1 x2 x3 y0 y1 y2) := by
  unfold f_M_leave_B140
  refine g2_bd (g1_bZ hS) (fun S5 hS5 => ?_)
  refine g2_rd (fun i6 => ?_)
  exact hk103 _ _ _ _ _ hS5
theorem g_f_M_leave_B139 {S0 : AS} {k103 : AS → Option Nat → Int32 → Int32 → Int32 → Option (Int32 × AS)} (hk103 : ∀ (z0 : AS) (z1 : Option Nat) (z2 : Int32) (z3 : Int32) (z4 : Int32), GF S0 z0 → G2 S0 (k103 z0 z1 z2 z3 z4)) (S : AS) (x0 : Option Nat) (x1 : Int32) (x2 : Int32) (x3 : Int32) (y0 : Option Nat) (y1 : Int32) (hS : GF S0 S) : G2 S0 (f_M_leave_B139 k103 S x0 x1 x2 x3 y0 y1) := by
  unfold f_M_leave_B139
  exact g_f_M_leave_B140 hk103 _ _ _ _ _ _ _ _ hS
theorem g_f_M_leave_C103 {S0 : AS} {k103 : AS → Option Nat → Int32 → Int32 → Int32 → Option (Int32 × AS)} (hk103 : ∀ (z0 : AS) (z1 : Option Nat) (z2 : Int32) (z3 : Int32) (z4 : Int32), GF S0 z0 → G2 S0 (k103 z0 z1 z2 z3 z4)) (S : AS) (x0 : Option Nat) (x1 : Int32) (x2 : Int32) (x3 : Int32) (hS : GF S0 S) : G2 S0 (f_M_leave_C103 k103 S x0 x1 x2 x3) := by
  unfold f_M_leave_C103
  refine g2_rd (fun v7 => ?_)
  refine g2_if ?_ ?_
  · exact g2_ret hS
  · refine g2_rd (fun v8 => ?_)
    refine g2_rd (fun v9 => ?_)
    refine g2_rd (fun v10 => ?_)
    refine g2_if ?_ ?_
    · exact g_f_M_leave_B139 hk103 _ _ _ _ _ _ _ hS
    · refine g2_rd (fun v11 => ?_)
      refine g2_rd (fun v12 => ?_)
      refine g2_if ?_ ?_
      · exact g_f_M_leave_B139 hk103 _ _ _ _ _ _ _ hS
      · exact g_f_M_leave_B140 hk103 _ _ _ _ _ _ _ _ hS
theorem g_f_M_leave_L103 {S0 : AS}  : ∀ (n : Nat) (z0 : AS) (z1 : Option Nat) (z2 : Int32) (z3 : Int32) (z4 : Int32), GF S0 z0 → G2 S0 (f_M_leave_L103 n z0 z1 z2 z3 z4)
  | 0, _, _, _, _, _, _ => g2_no
  | n + 1, z0, z1, z2, z3, z4, h => g_f_M_leave_C103 (g_f_M_leave_L103 n) z0 z1 z2 z3 z4 h
theorem g_f_M_leave_C52 {S0 : AS} {k52 : AS → Option Nat → Int32 → Int32 → Int32 → Option (Int32 × AS)} (hk52 : ∀ (z0 : AS) (z1 : Option Nat) (z2 : Int32) (z3 : Int32) (z4 : Int32), GF S0 z0 → G2 S0 (k52 z0 z1 z2 z3 z4)) (S : AS) (x0 : Option Nat) (x1 : Int32) (x2 : Int32) (x3 : Int32) (hS : GF S0 S) : G2 S0 (f_M_leave_C52 k52 S x0 x1 x2 x3) := by
  unfold f_M_leave_C52
  refine g2_rd (fun v13 => ?_)
  refine g2_if ?_ ?_
  · exact g_f_M_leave_L103 _ _ _ _ _ _ hS
  · refine g2_rd (fun v14 => ?_)
    refine g2_rd (fun v15 => ?_)
    refine g2_rd (fun v16 => ?_)
    refine g2_if ?_ ?_
    · refine g2_rd (fun v17 => ?_)
      refine g2_rd (fun v18 => ?_)
      refine g2_if ?_ ?_
      · exact g_f_M_leave_B94 hk52 _ _ _ _ _ _ _ _ hS
      · exact g_f_M_leave_B88 hk52 _ _ _ _ _ _ _ hS
    · exact g_f_M_leave_B88 hk52 _ _ _ _ _ _ _ hS
theorem g_f_M_leave_L52 {S0 : AS}  : ∀ (n : Nat) (z0 : AS) (z1 : Option Nat) (z2 : Int32) (z3 : Int32) (z4 : Int32), GF S0 z0 → G2 S0 (f_M_leave_L52 n z0 z1 z2 z3 z4)
  | 0, _, _, _, _, _, _ => g2_no
  | n + 1, z0, z1, z2, z3, z4, h => g_f_M_leave_C52 (g_f_M_leave_L52 n) z0 z1 z2 z3 z4 h
theorem g_f_M_leave_B32 {S0 : AS}  (S : AS) (x0 : Option Nat) (x1 : Int32) (y0 : Option Nat) (y1 : Int32) (y2 : Int32) (hS : GF S0 S) : G2 S0 (f_M_leave_B32 S x0 x1 y0 y1 y2) := by
  unfold f_M_leave_B32
  refine g2_bd (g1_bZ hS) (fun S19 hS19 => ?_)
  refine g2_rd (fun v20 => ?_)
  refine g2_rd (fun v21 => ?_)
  refine g2_if ?_ ?_
  · exact g2_ret hS19
  · refine g2_rd (fun u22 => ?_)
    refine g2_b2 (g_f_M_endAllOf _ _ _ hS19) (fun v24 S23 hS23 => ?_)
    exact g_f_M_leave_L52 _ _ _ _ _ _ hS23
theorem g_f_M_leave {S0 : AS}  (S : AS) (a0 : Option Nat) (a1 : Int32) (hS : GF S0 S) : G2 S0 (f_M_leave S a0 a1) := by
  unfold f_M_leave
  refine g2_b2 (g_f_M_isSix _ _ hS) (fun v26 S25 hS25 => ?_)
  refine g2_rd (fun u27 => ?_)
  refine g2_b2 (g_f_M_may _ _ _ hS25) (fun v29 S28 hS28 => ?_)
  refine g2_if ?_ ?_
  · exact g2_ret hS28
  · refine g2_rd (fun v30 => ?_)
    refine g2_rd (fun v31 => ?_)
    refine g2_rd (fun v32 => ?_)
    refine g2_if ?_ ?_
    · exact g_f_M_leave_B32 _ _ _ _ _ _ hS28
    · exact g_f_M_leave_B32 _ _ _ _ _ _ hS28
theorem g_f_M_audits {S0 : AS}  (S : AS) (a0 : Option Nat) (hS : GF S0 S) : G2 S0 (f_M_audits S a0) := by
  unfold f_M_audits
  refine g2_bd (g1_pI hS) (fun S1 hS1 => ?_)
  refine g2_rd (fun v2 => ?_)
  exact g2_ret hS1
theorem g_f_M_audit {S0 : AS}  (S : AS) (a0 : Option Nat) (a1 : Int32) (hS : GF S0 S) : G2 S0 (f_M_audit S a0 a1) := by
  unfold f_M_audit
  refine g2_rd (fun v1 => ?_)
  refine g2_b2 (g_f_M_isIn _ _ _ _ hS) (fun v3 S2 hS2 => ?_)
  refine g2_rd (fun u4 => ?_)
  refine g2_b2 (g_f_M_may _ _ _ hS2) (fun v6 S5 hS5 => ?_)
  refine g2_if ?_ ?_
  · exact g2_ret hS5
  · refine g2_rd (fun v7 => ?_)
    refine g2_rd (fun v8 => ?_)
    refine g2_rd (fun v9 => ?_)
    refine g2_rd (fun v10 => ?_)
    exact g2_ret hS5
theorem g_f_M_sum {S0 : AS}  (S : AS) (a0 : Option Nat) (hS : GF S0 S) : G2 S0 (f_M_sum S a0) := by
  unfold f_M_sum
  refine g2_bd (g1_pI hS) (fun S1 hS1 => ?_)
  refine g2_rd (fun v2 => ?_)
  exact g2_ret hS1
theorem g_f_M_sumAnew_C23 {S0 : AS} {k23 : AS → Option Nat → Int32 → Int32 → Int32 → Option (Int32 × AS)} (hk23 : ∀ (z0 : AS) (z1 : Option Nat) (z2 : Int32) (z3 : Int32) (z4 : Int32), GF S0 z0 → G2 S0 (k23 z0 z1 z2 z3 z4)) (S : AS) (x0 : Option Nat) (x1 : Int32) (x2 : Int32) (x3 : Int32) (hS : GF S0 S) : G2 S0 (f_M_sumAnew_C23 k23 S x0 x1 x2 x3) := by
  unfold f_M_sumAnew_C23
  refine g2_if ?_ ?_
  · exact g2_ret hS
  · refine g2_rd (fun v1 => ?_)
    refine g2_rd (fun v2 => ?_)
    refine g2_rd (fun v3 => ?_)
    refine g2_rd (fun v4 => ?_)
    refine g2_rd (fun v5 => ?_)
    refine g2_rd (fun v6 => ?_)
    refine g2_rd (fun i7 => ?_)
    refine g2_rd (fun i8 => ?_)
    refine g2_rd (fun i9 => ?_)
    exact hk23 _ _ _ _ _ hS
theorem g_f_M_sumAnew_L23 {S0 : AS}  : ∀ (n : Nat) (z0 : AS) (z1 : Option Nat) (z2 : Int32) (z3 : Int32) (z4 : Int32), GF S0 z0 → G2 S0 (f_M_sumAnew_L23 n z0 z1 z2 z3 z4)
  | 0, _, _, _, _, _, _ => g2_no
  | n + 1, z0, z1, z2, z3, z4, h => g_f_M_sumAnew_C23 (g_f_M_sumAnew_L23 n) z0 z1 z2 z3 z4 h
theorem g_f_M_sumAnew {S0 : AS}  (S : AS) (a0 : Option Nat) (a1 : Int32) (hS : GF S0 S) : G2 S0 (f_M_sumAnew S a0 a1) := by
  unfold f_M_sumAnew
  refine g2_rd (fun v10 => ?_)
  refine g2_b2 (g_f_M_isIn _ _ _ _ hS) (fun v12 S11 hS11 => ?_)
  refine g2_rd (fun u13 => ?_)
  refine g2_b2 (g_f_M_may _ _ _ hS11) (fun v15 S14 hS14 => ?_)
  refine g2_if ?_ ?_
  · exact g2_ret hS14
  · exact g_f_M_sumAnew_L23 _ _ _ _ _ _ hS14

/-! ===== the reference's constructor makes and writes its own places alone ===== -/
theorem GI_rf {S : AS} (h0 : ∀ k, sN S ≤ k → sK S k = 0) (h1 : ∀ k j a, sR S k j = some a → a < sN S) : GI S S := ⟨Nat.le_refl _, fun _ _ => ⟨rfl, rfl, rfl, fun _ => ⟨rfl, rfl⟩⟩, fun k h1 h2 => absurd h2 (by omega), h0, h1⟩
theorem GI_ph {S0 S : AS} {k : Nat} (h : GI S0 S) (hk : rlk (sK S k) = false) (hl : k < sN S0) : rlk (sK S0 k) = false := by rw [← (h.2.1 k hl).1]; exact hk
theorem GI_wI {S0 S : AS} {k j : Nat} {v : Int32} (h : GI S0 S) (hk : rlk (sK S k) = false) : GI S0 (wI S k j v) := by
  refine ⟨h.1, fun a ha => ⟨(h.2.1 a ha).1, (h.2.1 a ha).2.1, (h.2.1 a ha).2.2.1, fun r => ⟨?_, ((h.2.1 a ha).2.2.2 r).2⟩⟩, h.2.2.1, h.2.2.2.1, h.2.2.2.2⟩
  have ne : a ≠ k := fun e => by
    rw [e] at r ha
    rw [GI_ph h hk ha] at r
    cases r
  rw [← ((h.2.1 a ha).2.2.2 r).1]
  funext b
  exact ti_sI_ne (fun q => ne q.1)
theorem GI_wR {S0 S : AS} {k j : Nat} {v : Option Nat} (h : GI S0 S) (hk : rlk (sK S k) = false) (hv : ∀ a, v = some a → a < sN S) : GI S0 (wR S k j v) := by
  refine ⟨h.1, fun a ha => ⟨(h.2.1 a ha).1, (h.2.1 a ha).2.1, (h.2.1 a ha).2.2.1, fun r => ⟨((h.2.1 a ha).2.2.2 r).1, ?_⟩⟩, h.2.2.1, h.2.2.2.1, fun a b c e => ?_⟩
  · have ne : a ≠ k := fun e => by
      rw [e] at r ha
      rw [GI_ph h hk ha] at r
      cases r
    rw [← ((h.2.1 a ha).2.2.2 r).2]
    funext b
    exact ti_sR_ne (fun q => ne q.1)
  · by_cases q : a = k ∧ b = j
    · obtain ⟨rfl, rfl⟩ := q
      rw [ti_sR_eq] at e
      exact hv c e
    · rw [ti_sR_ne q] at e
      exact h.2.2.2.2 a b c e
theorem GI_wN {S0 S : AS} {κ l s : Nat} (h : GI S0 S) (hk : rlk κ = false) (h10 : 10 ≤ κ) : GI S0 (wN S κ l s) := by
  obtain ⟨g1, g2, g3, g4, g5⟩ := h
  obtain ⟨z1, z2, z3, z4⟩ := ti_wN0 S κ l s
  refine ⟨Nat.le_succ_of_le g1, fun a ha => ?_, fun a h1 h2 => ?_, fun a ha => ?_, fun a b c e => ?_⟩
  · obtain ⟨e1, e2, e3, e4, e5⟩ := ti_wN (S := S) (κ := κ) (l := l) (s := s) (k := a) (by omega)
    rw [e1, e2, e3, e4, e5]
    exact g2 a ha
  · have h2 : a < sN S + 1 := h2
    by_cases c : a = sN S
    · rw [c, z1]
      exact ⟨h10, hk⟩
    · rw [(ti_wN (S := S) (κ := κ) (l := l) (s := s) c).1]
      exact g3 a h1 (by omega)
  · have ha : sN S + 1 ≤ a := ha
    rw [(ti_wN (S := S) (κ := κ) (l := l) (s := s) (k := a) (by omega)).1]
    exact g4 a (by omega)
  · show c < sN S + 1
    by_cases q : a = sN S
    · rw [q, z4] at e
      cases e
    · rw [(ti_wN (S := S) (κ := κ) (l := l) (s := s) q).2.2.2.1] at e
      have := g5 a b c e
      omega
def J1 (S0 : AS) (x : Option AS) : Prop := ∀ q, x = some q → GI S0 q
section
variable {S0 S : AS}
theorem j_ret (h : GI S0 S) : J1 S0 (some S) := fun q e => by cases e; exact h
theorem j_no : J1 S0 none := fun q e => by cases e
theorem j_if {c : Prop} [Decidable c] {x y : Option AS} (h1 : J1 S0 x) (h0 : J1 S0 y) : J1 S0 (if c then x else y) := by
  split
  · exact h1
  · exact h0
theorem j_bd {x : Option AS} {F : AS → Option AS} (hx : J1 S0 x) (h : ∀ S', GI S0 S' → J1 S0 (F S')) : J1 S0 (x.bind F) := fun q e => by
  cases hc : x with
  | none => rw [hc] at e; cases e
  | some z => rw [hc] at e; exact h z (hx z hc) q e
theorem j_rd {γ : Type} {x : Option γ} {F : γ → Option AS} (h : ∀ v, J1 S0 (F v)) : J1 S0 (x.bind F) := fun q e => by
  cases hc : x with
  | none => rw [hc] at e; cases e
  | some z => rw [hc] at e; exact h z q e
theorem j_pI {j : Nat} {x : Option Nat} {v : Int32} (h : GI S0 S) : J1 S0 (pI S 39 j x v) := fun q e => by
  cases x with
  | none => cases e
  | some k =>
    unfold pI at e
    rw [Option.bind_some] at e
    split at e
    · next c => cases e; exact GI_wI h (by rw [c]; rfl)
    · cases e
theorem j_pR {j : Nat} {x v : Option Nat} (h : GI S0 S) : J1 S0 (pR S 39 j x v) := fun q e => by
  cases x with
  | none => cases e
  | some k =>
    unfold pR at e
    rw [Option.bind_some] at e
    split at e
    · next c =>
      cases e
      refine GI_wR h (by rw [c.1]; rfl) (fun a ea => Nat.not_le.mp (fun q => ?_))
      have := c.2
      rw [ea] at this
      unfold kr_pb at this
      simp [h.2.2.2.1 a q] at this
    · cases e
theorem j_bI {x : Option Nat} {i v : Int32} (h : GI S0 S) : J1 S0 (bI S x i v 46) := fun q e => by
  cases x with
  | none => cases e
  | some k =>
    unfold bI at e
    rw [Option.bind_some] at e
    split at e
    · next c => cases e; exact GI_wI h (by rw [c.1]; rfl)
    · cases e
theorem j_bZ {x : Option Nat} {i v : Int32} (h : GI S0 S) : J1 S0 (bZ S x i v 47) := fun q e => by
  cases x with
  | none => cases e
  | some k =>
    unfold bZ at e
    rw [Option.bind_some] at e
    split at e
    · next c => cases e; exact GI_wI h (by rw [c.1]; rfl)
    · cases e
theorem j_nA46 {n : Int32} (h : GI S0 S) : J1 S0 (nA S 46 n) := fun q e => by
  unfold nA at e
  split at e
  · cases e; exact GI_wN h rfl (by decide)
  · cases e
theorem j_nA47 {n : Int32} (h : GI S0 S) : J1 S0 (nA S 47 n) := fun q e => by
  unfold nA at e
  split at e
  · cases e; exact GI_wN h rfl (by decide)
  · cases e
theorem j_nA48 {n : Int32} (h : GI S0 S) : J1 S0 (nA S 48 n) := fun q e => by
  unfold nA at e
  split at e
  · cases e; exact GI_wN h rfl (by decide)
  · cases e
end
theorem j_f_M_init_C678 {S0 : AS} {k678 : AS → Option Nat → Int32 → Option AS} (hk678 : ∀ (z0 : AS) (z1 : Option Nat) (z2 : Int32), GI S0 z0 → J1 S0 (k678 z0 z1 z2)) (S : AS) (x0 : Option Nat) (x1 : Int32) (hS : GI S0 S) : J1 S0 (f_M_init_C678 k678 S x0 x1) := by
  unfold f_M_init_C678
  refine j_if ?_ ?_
  · exact j_ret hS
  · refine j_rd (fun v1 => ?_)
    refine j_bd (j_bI hS) (fun S2 hS2 => ?_)
    refine j_rd (fun i3 => ?_)
    exact hk678 _ _ _ hS2
theorem j_f_M_init_L678 {S0 : AS}  : ∀ (n : Nat) (z0 : AS) (z1 : Option Nat) (z2 : Int32), GI S0 z0 → J1 S0 (f_M_init_L678 n z0 z1 z2)
  | 0, _, _, _, _ => j_no
  | n + 1, z0, z1, z2, h => j_f_M_init_C678 (j_f_M_init_L678 n) z0 z1 z2 h
theorem j_f_M_init_C657 {S0 : AS} {k657 : AS → Option Nat → Int32 → Option AS} (hk657 : ∀ (z0 : AS) (z1 : Option Nat) (z2 : Int32), GI S0 z0 → J1 S0 (k657 z0 z1 z2)) (S : AS) (x0 : Option Nat) (x1 : Int32) (hS : GI S0 S) : J1 S0 (f_M_init_C657 k657 S x0 x1) := by
  unfold f_M_init_C657
  refine j_if ?_ ?_
  · exact j_f_M_init_L678 _ _ _ _ hS
  · refine j_rd (fun v4 => ?_)
    refine j_bd (j_bI hS) (fun S5 hS5 => ?_)
    refine j_rd (fun i6 => ?_)
    exact hk657 _ _ _ hS5
theorem j_f_M_init_L657 {S0 : AS}  : ∀ (n : Nat) (z0 : AS) (z1 : Option Nat) (z2 : Int32), GI S0 z0 → J1 S0 (f_M_init_L657 n z0 z1 z2)
  | 0, _, _, _, _ => j_no
  | n + 1, z0, z1, z2, h => j_f_M_init_C657 (j_f_M_init_L657 n) z0 z1 z2 h
theorem j_f_M_init_C637 {S0 : AS} {k637 : AS → Option Nat → Int32 → Option AS} (hk637 : ∀ (z0 : AS) (z1 : Option Nat) (z2 : Int32), GI S0 z0 → J1 S0 (k637 z0 z1 z2)) (S : AS) (x0 : Option Nat) (x1 : Int32) (hS : GI S0 S) : J1 S0 (f_M_init_C637 k637 S x0 x1) := by
  unfold f_M_init_C637
  refine j_if ?_ ?_
  · exact j_f_M_init_L657 _ _ _ _ hS
  · refine j_rd (fun v7 => ?_)
    refine j_bd (j_bI hS) (fun S8 hS8 => ?_)
    refine j_rd (fun i9 => ?_)
    exact hk637 _ _ _ hS8
theorem j_f_M_init_L637 {S0 : AS}  : ∀ (n : Nat) (z0 : AS) (z1 : Option Nat) (z2 : Int32), GI S0 z0 → J1 S0 (f_M_init_L637 n z0 z1 z2)
  | 0, _, _, _, _ => j_no
  | n + 1, z0, z1, z2, h => j_f_M_init_C637 (j_f_M_init_L637 n) z0 z1 z2 h
theorem j_f_M_init_C617 {S0 : AS} {k617 : AS → Option Nat → Int32 → Option AS} (hk617 : ∀ (z0 : AS) (z1 : Option Nat) (z2 : Int32), GI S0 z0 → J1 S0 (k617 z0 z1 z2)) (S : AS) (x0 : Option Nat) (x1 : Int32) (hS : GI S0 S) : J1 S0 (f_M_init_C617 k617 S x0 x1) := by
  unfold f_M_init_C617
  refine j_if ?_ ?_
  · exact j_f_M_init_L637 _ _ _ _ hS
  · refine j_rd (fun v10 => ?_)
    refine j_bd (j_bI hS) (fun S11 hS11 => ?_)
    refine j_rd (fun i12 => ?_)
    exact hk617 _ _ _ hS11
theorem j_f_M_init_L617 {S0 : AS}  : ∀ (n : Nat) (z0 : AS) (z1 : Option Nat) (z2 : Int32), GI S0 z0 → J1 S0 (f_M_init_L617 n z0 z1 z2)
  | 0, _, _, _, _ => j_no
  | n + 1, z0, z1, z2, h => j_f_M_init_C617 (j_f_M_init_L617 n) z0 z1 z2 h
theorem j_f_M_init_C573 {S0 : AS} {k573 : AS → Option Nat → Int32 → Option AS} (hk573 : ∀ (z0 : AS) (z1 : Option Nat) (z2 : Int32), GI S0 z0 → J1 S0 (k573 z0 z1 z2)) (S : AS) (x0 : Option Nat) (x1 : Int32) (hS : GI S0 S) : J1 S0 (f_M_init_C573 k573 S x0 x1) := by
  unfold f_M_init_C573
  refine j_if ?_ ?_
  · refine j_rd (fun v13 => ?_)
    refine j_bd (j_bI hS) (fun S14 hS14 => ?_)
    refine j_rd (fun v15 => ?_)
    refine j_bd (j_bI hS14) (fun S16 hS16 => ?_)
    refine j_rd (fun v17 => ?_)
    refine j_bd (j_bI hS16) (fun S18 hS18 => ?_)
    exact j_f_M_init_L617 _ _ _ _ hS18
  · refine j_rd (fun v19 => ?_)
    refine j_bd (j_bI hS) (fun S20 hS20 => ?_)
    refine j_rd (fun i21 => ?_)
    exact hk573 _ _ _ hS20
theorem j_f_M_init_L573 {S0 : AS}  : ∀ (n : Nat) (z0 : AS) (z1 : Option Nat) (z2 : Int32), GI S0 z0 → J1 S0 (f_M_init_L573 n z0 z1 z2)
  | 0, _, _, _, _ => j_no
  | n + 1, z0, z1, z2, h => j_f_M_init_C573 (j_f_M_init_L573 n) z0 z1 z2 h
theorem j_f_M_init {S0 : AS}  (S : AS) (a0 : Option Nat) (hS : GI S0 S) : J1 S0 (f_M_init S a0) := by
  unfold f_M_init
  refine j_rd (fun k22 => ?_)
  refine j_bd (j_nA46 hS) (fun S23 hS23 => ?_)
  refine j_bd (j_pR hS23) (fun S24 hS24 => ?_)
  refine j_bd (j_nA46 hS24) (fun S25 hS25 => ?_)
  refine j_bd (j_pR hS25) (fun S26 hS26 => ?_)
  refine j_bd (j_nA46 hS26) (fun S27 hS27 => ?_)
  refine j_bd (j_pR hS27) (fun S28 hS28 => ?_)
  refine j_bd (j_nA46 hS28) (fun S29 hS29 => ?_)
  refine j_bd (j_pR hS29) (fun S30 hS30 => ?_)
  refine j_bd (j_nA47 hS30) (fun S31 hS31 => ?_)
  refine j_bd (j_pR hS31) (fun S32 hS32 => ?_)
  refine j_bd (j_nA47 hS32) (fun S33 hS33 => ?_)
  refine j_bd (j_pR hS33) (fun S34 hS34 => ?_)
  refine j_bd (j_nA47 hS34) (fun S35 hS35 => ?_)
  refine j_bd (j_pR hS35) (fun S36 hS36 => ?_)
  refine j_bd (j_nA47 hS36) (fun S37 hS37 => ?_)
  refine j_bd (j_pR hS37) (fun S38 hS38 => ?_)
  refine j_bd (j_nA46 hS38) (fun S39 hS39 => ?_)
  refine j_bd (j_pR hS39) (fun S40 hS40 => ?_)
  refine j_bd (j_nA46 hS40) (fun S41 hS41 => ?_)
  refine j_bd (j_pR hS41) (fun S42 hS42 => ?_)
  refine j_bd (j_nA46 hS42) (fun S43 hS43 => ?_)
  refine j_bd (j_pR hS43) (fun S44 hS44 => ?_)
  refine j_bd (j_nA46 hS44) (fun S45 hS45 => ?_)
  refine j_bd (j_pR hS45) (fun S46 hS46 => ?_)
  refine j_bd (j_nA46 hS46) (fun S47 hS47 => ?_)
  refine j_bd (j_pR hS47) (fun S48 hS48 => ?_)
  refine j_bd (j_nA46 hS48) (fun S49 hS49 => ?_)
  refine j_bd (j_pR hS49) (fun S50 hS50 => ?_)
  refine j_bd (j_nA47 hS50) (fun S51 hS51 => ?_)
  refine j_bd (j_pR hS51) (fun S52 hS52 => ?_)
  refine j_bd (j_nA46 hS52) (fun S53 hS53 => ?_)
  refine j_bd (j_pR hS53) (fun S54 hS54 => ?_)
  refine j_bd (j_nA46 hS54) (fun S55 hS55 => ?_)
  refine j_bd (j_pR hS55) (fun S56 hS56 => ?_)
  refine j_bd (j_nA46 hS56) (fun S57 hS57 => ?_)
  refine j_bd (j_pR hS57) (fun S58 hS58 => ?_)
  refine j_bd (j_nA46 hS58) (fun S59 hS59 => ?_)
  refine j_bd (j_pR hS59) (fun S60 hS60 => ?_)
  refine j_bd (j_nA46 hS60) (fun S61 hS61 => ?_)
  refine j_bd (j_pR hS61) (fun S62 hS62 => ?_)
  refine j_bd (j_nA46 hS62) (fun S63 hS63 => ?_)
  refine j_bd (j_pR hS63) (fun S64 hS64 => ?_)
  refine j_bd (j_nA46 hS64) (fun S65 hS65 => ?_)
  refine j_bd (j_pR hS65) (fun S66 hS66 => ?_)
  refine j_bd (j_nA46 hS66) (fun S67 hS67 => ?_)
  refine j_bd (j_pR hS67) (fun S68 hS68 => ?_)
  refine j_bd (j_nA46 hS68) (fun S69 hS69 => ?_)
  refine j_bd (j_pR hS69) (fun S70 hS70 => ?_)
  refine j_bd (j_nA46 hS70) (fun S71 hS71 => ?_)
  refine j_bd (j_pR hS71) (fun S72 hS72 => ?_)
  refine j_bd (j_nA46 hS72) (fun S73 hS73 => ?_)
  refine j_bd (j_pR hS73) (fun S74 hS74 => ?_)
  refine j_bd (j_nA46 hS74) (fun S75 hS75 => ?_)
  refine j_bd (j_pR hS75) (fun S76 hS76 => ?_)
  refine j_bd (j_nA46 hS76) (fun S77 hS77 => ?_)
  refine j_bd (j_pR hS77) (fun S78 hS78 => ?_)
  refine j_bd (j_nA46 hS78) (fun S79 hS79 => ?_)
  refine j_bd (j_pR hS79) (fun S80 hS80 => ?_)
  refine j_bd (j_nA46 hS80) (fun S81 hS81 => ?_)
  refine j_bd (j_pR hS81) (fun S82 hS82 => ?_)
  refine j_bd (j_nA46 hS82) (fun S83 hS83 => ?_)
  refine j_bd (j_pR hS83) (fun S84 hS84 => ?_)
  refine j_bd (j_nA47 hS84) (fun S85 hS85 => ?_)
  refine j_bd (j_pR hS85) (fun S86 hS86 => ?_)
  refine j_bd (j_nA46 hS86) (fun S87 hS87 => ?_)
  refine j_bd (j_pR hS87) (fun S88 hS88 => ?_)
  refine j_bd (j_nA46 hS88) (fun S89 hS89 => ?_)
  refine j_bd (j_pR hS89) (fun S90 hS90 => ?_)
  refine j_bd (j_nA46 hS90) (fun S91 hS91 => ?_)
  refine j_bd (j_pR hS91) (fun S92 hS92 => ?_)
  refine j_bd (j_nA46 hS92) (fun S93 hS93 => ?_)
  refine j_bd (j_pR hS93) (fun S94 hS94 => ?_)
  refine j_bd (j_nA46 hS94) (fun S95 hS95 => ?_)
  refine j_bd (j_pR hS95) (fun S96 hS96 => ?_)
  refine j_bd (j_nA46 hS96) (fun S97 hS97 => ?_)
  refine j_bd (j_pR hS97) (fun S98 hS98 => ?_)
  refine j_bd (j_nA46 hS98) (fun S99 hS99 => ?_)
  refine j_bd (j_pR hS99) (fun S100 hS100 => ?_)
  refine j_bd (j_nA46 hS100) (fun S101 hS101 => ?_)
  refine j_bd (j_pR hS101) (fun S102 hS102 => ?_)
  refine j_bd (j_nA46 hS102) (fun S103 hS103 => ?_)
  refine j_bd (j_pR hS103) (fun S104 hS104 => ?_)
  refine j_bd (j_nA46 hS104) (fun S105 hS105 => ?_)
  refine j_bd (j_pR hS105) (fun S106 hS106 => ?_)
  refine j_bd (j_nA46 hS106) (fun S107 hS107 => ?_)
  refine j_bd (j_pR hS107) (fun S108 hS108 => ?_)
  refine j_bd (j_nA46 hS108) (fun S109 hS109 => ?_)
  refine j_bd (j_pR hS109) (fun S110 hS110 => ?_)
  refine j_bd (j_nA46 hS110) (fun S111 hS111 => ?_)
  refine j_bd (j_pR hS111) (fun S112 hS112 => ?_)
  refine j_bd (j_nA47 hS112) (fun S113 hS113 => ?_)
  refine j_bd (j_pR hS113) (fun S114 hS114 => ?_)
  refine j_bd (j_nA46 hS114) (fun S115 hS115 => ?_)
  refine j_bd (j_pR hS115) (fun S116 hS116 => ?_)
  refine j_bd (j_nA46 hS116) (fun S117 hS117 => ?_)
  refine j_bd (j_pR hS117) (fun S118 hS118 => ?_)
  refine j_bd (j_nA46 hS118) (fun S119 hS119 => ?_)
  refine j_bd (j_pR hS119) (fun S120 hS120 => ?_)
  refine j_bd (j_nA46 hS120) (fun S121 hS121 => ?_)
  refine j_bd (j_pR hS121) (fun S122 hS122 => ?_)
  refine j_bd (j_nA46 hS122) (fun S123 hS123 => ?_)
  refine j_bd (j_pR hS123) (fun S124 hS124 => ?_)
  refine j_bd (j_nA46 hS124) (fun S125 hS125 => ?_)
  refine j_bd (j_pR hS125) (fun S126 hS126 => ?_)
  refine j_bd (j_nA46 hS126) (fun S127 hS127 => ?_)
  refine j_bd (j_pR hS127) (fun S128 hS128 => ?_)
  refine j_bd (j_pI hS128) (fun S129 hS129 => ?_)
  refine j_bd (j_pI hS129) (fun S130 hS130 => ?_)
  refine j_bd (j_nA47 hS130) (fun S131 hS131 => ?_)
  refine j_bd (j_pR hS131) (fun S132 hS132 => ?_)
  refine j_bd (j_nA46 hS132) (fun S133 hS133 => ?_)
  refine j_bd (j_pR hS133) (fun S134 hS134 => ?_)
  refine j_bd (j_nA47 hS134) (fun S135 hS135 => ?_)
  refine j_bd (j_pR hS135) (fun S136 hS136 => ?_)
  refine j_bd (j_nA46 hS136) (fun S137 hS137 => ?_)
  refine j_bd (j_pR hS137) (fun S138 hS138 => ?_)
  refine j_bd (j_nA46 hS138) (fun S139 hS139 => ?_)
  refine j_bd (j_pR hS139) (fun S140 hS140 => ?_)
  refine j_bd (j_nA47 hS140) (fun S141 hS141 => ?_)
  refine j_bd (j_pR hS141) (fun S142 hS142 => ?_)
  refine j_bd (j_nA46 hS142) (fun S143 hS143 => ?_)
  refine j_bd (j_pR hS143) (fun S144 hS144 => ?_)
  refine j_bd (j_nA46 hS144) (fun S145 hS145 => ?_)
  refine j_bd (j_pR hS145) (fun S146 hS146 => ?_)
  refine j_bd (j_nA47 hS146) (fun S147 hS147 => ?_)
  refine j_bd (j_pR hS147) (fun S148 hS148 => ?_)
  refine j_bd (j_nA46 hS148) (fun S149 hS149 => ?_)
  refine j_bd (j_pR hS149) (fun S150 hS150 => ?_)
  refine j_bd (j_nA46 hS150) (fun S151 hS151 => ?_)
  refine j_bd (j_pR hS151) (fun S152 hS152 => ?_)
  refine j_bd (j_nA46 hS152) (fun S153 hS153 => ?_)
  refine j_bd (j_pR hS153) (fun S154 hS154 => ?_)
  refine j_bd (j_nA46 hS154) (fun S155 hS155 => ?_)
  refine j_bd (j_pR hS155) (fun S156 hS156 => ?_)
  refine j_bd (j_nA46 hS156) (fun S157 hS157 => ?_)
  refine j_bd (j_pR hS157) (fun S158 hS158 => ?_)
  refine j_bd (j_nA46 hS158) (fun S159 hS159 => ?_)
  refine j_bd (j_pR hS159) (fun S160 hS160 => ?_)
  refine j_bd (j_pI hS160) (fun S161 hS161 => ?_)
  exact j_f_M_init_L573 _ _ _ _ hS161
