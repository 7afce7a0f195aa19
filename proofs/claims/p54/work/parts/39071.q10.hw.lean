/-! ===== the law's program (x) beside the reference's (y): if the reference's answers, the law's does, and Q ===== -/
def HW {α β : Type} (x : Option α) (y : Option β) (Q : α → β → Prop) : Prop := ∀ b, y = some b → ∃ a, x = some a ∧ Q a b
theorem wm_of {α β : Type} {x : Option α} {y y' : Option β} {Q : α → β → Prop} (h : Le y y') (g : HW x y' Q) : HW x y Q := fun b hb => g b (h b hb)
theorem w_ret {α β : Type} {a : α} {b : β} {Q : α → β → Prop} (h : Q a b) : HW (some a) (some b) Q := fun b' hb => by
  cases hb
  exact ⟨a, rfl, h⟩
theorem wm_0 {α β : Type} {x : Option α} {Q : α → β → Prop} : HW x none Q := fun b hb => nomatch hb
theorem w_mono {α β : Type} {x : Option α} {y : Option β} {P Q : α → β → Prop} (h : HW x y P) (g : ∀ a b, P a b → Q a b) : HW x y Q := fun b hb => by
  obtain ⟨a, e, q⟩ := h b hb
  exact ⟨a, e, g a b q⟩
theorem w_eq {α β : Type} {x x' : Option α} {y : Option β} {Q : α → β → Prop} (e : x = x') (h : HW x' y Q) : HW x y Q := by rw [e]; exact h
theorem wm_if {α β : Type} {c : Prop} [Decidable c] {x : Option α} {y1 y0 : Option β} {Q : α → β → Prop} (h1 : c → HW x y1 Q) (h0 : ¬ c → HW x y0 Q) : HW x (if c then y1 else y0) Q := by
  by_cases h : c
  · rw [if_pos h]; exact h1 h
  · rw [if_neg h]; exact h0 h
theorem w_if {α β : Type} {c : Prop} [Decidable c] {x1 x0 : Option α} {y : Option β} {Q : α → β → Prop} (h1 : c → HW x1 y Q) (h0 : ¬ c → HW x0 y Q) : HW (if c then x1 else x0) y Q := by
  by_cases h : c
  · rw [if_pos h]; exact h1 h
  · rw [if_neg h]; exact h0 h
theorem w_T {α β : Type} {c : Prop} [Decidable c] {x1 x0 : Option α} {y : Option β} {Q : α → β → Prop} (h : c) (g : HW x1 y Q) : HW (if c then x1 else x0) y Q := by rw [if_pos h]; exact g
theorem w_F {α β : Type} {c : Prop} [Decidable c] {x1 x0 : Option α} {y : Option β} {Q : α → β → Prop} (h : ¬ c) (g : HW x0 y Q) : HW (if c then x1 else x0) y Q := by rw [if_neg h]; exact g
theorem w_val {α β γ : Type} {v : α} {F : α → Option γ} {y : Option β} {Q : γ → β → Prop} (g : HW (F v) y Q) : HW ((some v).bind F) y Q := g
theorem w_bd {α β γ : Type} {x : Option α} {v : α} {F : α → Option γ} {y : Option β} {Q : γ → β → Prop} (e : x = some v) (g : HW (F v) y Q) : HW (x.bind F) y Q := by rw [e]; exact g
theorem w_b2 {α β γ : Type} {x : Option (α × AS)} {v : α} {S' : AS} {F : α → AS → Option γ} {y : Option β} {Q : γ → β → Prop} (e : x = some (v, S')) (g : HW (F v S') y Q) : HW (kr_b2 x F) y Q := by rw [e]; exact g
/-- a row of the law: an array of ints, so long -/
def Rw (S : AS) (k n : Nat) : Prop := sK S k = 40 ∧ sL S k = n ∧ n < 1000
theorem Rw.w {S : AS} {k n a b : Nat} {v : Int32} (h : Rw S k n) : Rw (wI S a b v) k n := h
theorem Rw_aI {S : AS} {k l n : Nat} {i : Int32} (r : Rw S k l) (hi : i = Int32.ofNat n) (hn : n < l) : aI S 40 (some k) i = some (sI S k n) := by
  obtain ⟨h1, h2, h3⟩ := r
  have e : i.toInt = (n : Int) := by rw [hi, kw_nat (by omega)]
  have e2 : i.toNatClampNeg = n := by
    show i.toInt.toNat = n
    rw [e]
    rfl
  unfold aI
  rw [Option.bind_some, if_pos ⟨h1, by omega, by omega⟩, e2]
theorem Rw_bI {S : AS} {k l n : Nat} {i v : Int32} (r : Rw S k l) (hi : i = Int32.ofNat n) (hn : n < l) : bI S (some k) i v = some (wI S k n v) := by
  obtain ⟨h1, h2, h3⟩ := r
  have e : i.toInt = (n : Int) := by rw [hi, kw_nat (by omega)]
  have e2 : i.toNatClampNeg = n := by
    show i.toInt.toNat = n
    rw [e]
    rfl
  unfold bI
  rw [Option.bind_some, if_pos ⟨h1, by omega, by omega⟩, e2]
theorem w_aI {α β : Type} {S : AS} {k l n : Nat} {i : Int32} {F : Int32 → Option α} {y : Option β} {Q : α → β → Prop} (r : Rw S k l) (hi : i = Int32.ofNat n) (hn : n < l) (g : HW (F (sI S k n)) y Q) : HW ((aI S 40 (some k) i).bind F) y Q := w_bd (Rw_aI r hi hn) g
theorem w_aIe {α β : Type} {S : AS} {k l n : Nat} {i v : Int32} {F : Int32 → Option α} {y : Option β} {Q : α → β → Prop} (r : Rw S k l) (hi : i = Int32.ofNat n) (hn : n < l) (e : sI S k n = v) (g : HW (F v) y Q) : HW ((aI S 40 (some k) i).bind F) y Q := w_bd ((Rw_aI r hi hn).trans (congrArg some e)) g
theorem w_bI {α β : Type} {S : AS} {k l n : Nat} {i v : Int32} {F : AS → Option α} {y : Option β} {Q : α → β → Prop} (r : Rw S k l) (hi : i = Int32.ofNat n) (hn : n < l) (g : HW (F (wI S k n v)) y Q) : HW ((bI S (some k) i v).bind F) y Q := w_bd (Rw_bI r hi hn) g
theorem wmul (a n : Nat) : Int32.ofNat a * Int32.ofNat n = Int32.ofNat (a * n) := (Int32.ofNat_mul a n).symm
theorem wadd (a b : Nat) : Int32.ofNat a + Int32.ofNat b = Int32.ofNat (a + b) := (Int32.ofNat_add a b).symm
theorem wix (a n b : Nat) : Int32.ofNat a * Int32.ofNat n + Int32.ofNat b = Int32.ofNat (a * n + b) := by rw [wmul, wadd]
/-- the reference alone: a step, a call -/
theorem wm_p2 {α β γ δ : Type} {x : Option γ} {y : Option (α × AS)} {F : α → AS → Option β} {P : α × AS → Prop} {Q : γ → β → Prop} (hc : Hp y P) (h : ∀ v m', y = some (v, m') → P (v, m') → HW x (F v m') Q) : HW x (kr_b2 y F) Q := fun b hb => by
  cases e : y with
  | none => rw [e] at hb; cases hb
  | some q =>
    rw [e] at hb
    exact h q.1 q.2 e (hc _ e) b hb
theorem wm_pd {α β γ : Type} {x : Option γ} {y : Option α} {F : α → Option β} {P : α → Prop} {Q : γ → β → Prop} (hc : Hp y P) (h : ∀ v, y = some v → P v → HW x (F v) Q) : HW x (y.bind F) Q := fun b hb => by
  cases e : y with
  | none => rw [e] at hb; cases hb
  | some q =>
    rw [e] at hb
    exact h q e (hc _ e) b hb
theorem wm_aI {α β : Type} {S : AS} {κ k : Nat} {i : Int32} {F : Int32 → Option β} {x : Option α} {Q : α → β → Prop} (h : 0 ≤ i.toInt → i.toInt < (sL S k : Int) → HW x (F (sI S k i.toNatClampNeg)) Q) : HW x ((aI S κ (some k) i).bind F) Q := fun b hb => by
  obtain ⟨c, e⟩ := bind_cut hb
  exact h c.2.1 c.2.2 b e
theorem wm_bI {α β : Type} {S : AS} {κ k : Nat} {i v : Int32} {F : AS → Option β} {x : Option α} {Q : α → β → Prop} (h : 0 ≤ i.toInt → i.toInt < (sL S k : Int) → HW x (F (wI S k i.toNatClampNeg v)) Q) : HW x ((bI S (some k) i v κ).bind F) Q := fun b hb => by
  obtain ⟨c, e⟩ := bind_cut hb
  exact h c.2.1 c.2.2 b e
/-- calls of both -/
theorem w_22 {α β γ δ : Type} {x : Option (α × AS)} {y : Option (γ × AS)} {F : α → AS → Option β} {G : γ → AS → Option δ} {P : α × AS → γ × AS → Prop} {Q : β → δ → Prop} (hc : HW x y P) (h : ∀ v S' u m', y = some (u, m') → P (v, S') (u, m') → HW (F v S') (G u m') Q) : HW (kr_b2 x F) (kr_b2 y G) Q := fun b hb => by
  cases e : y with
  | none => rw [e] at hb; cases hb
  | some q =>
    rw [e] at hb
    obtain ⟨a, e1, p⟩ := hc q e
    rw [e1]
    exact h a.1 a.2 q.1 q.2 e p b hb
theorem w_dd {α β γ δ : Type} {x : Option α} {y : Option γ} {F : α → Option β} {G : γ → Option δ} {P : α → γ → Prop} {Q : β → δ → Prop} (hc : HW x y P) (h : ∀ v u, y = some u → P v u → HW (F v) (G u) Q) : HW (x.bind F) (y.bind G) Q := fun b hb => by
  cases e : y with
  | none => rw [e] at hb; cases hb
  | some q =>
    rw [e] at hb
    obtain ⟨a, e1, p⟩ := hc q e
    rw [e1]
    exact h a q e p b hb
theorem w_2d {α β γ δ : Type} {x : Option (α × AS)} {y : Option γ} {F : α → AS → Option β} {G : γ → Option δ} {P : α × AS → γ → Prop} {Q : β → δ → Prop} (hc : HW x y P) (h : ∀ v S' u, y = some u → P (v, S') u → HW (F v S') (G u) Q) : HW (kr_b2 x F) (y.bind G) Q := fun b hb => by
  cases e : y with
  | none => rw [e] at hb; cases hb
  | some q =>
    rw [e] at hb
    obtain ⟨a, e1, p⟩ := hc q e
    rw [e1]
    exact h a.1 a.2 q e p b hb
theorem w_d2 {α β γ δ : Type} {x : Option α} {y : Option (γ × AS)} {F : α → Option β} {G : γ → AS → Option δ} {P : α → γ × AS → Prop} {Q : β → δ → Prop} (hc : HW x y P) (h : ∀ v u m', y = some (u, m') → P v (u, m') → HW (F v) (G u m') Q) : HW (x.bind F) (kr_b2 y G) Q := fun b hb => by
  cases e : y with
  | none => rw [e] at hb; cases hb
  | some q =>
    rw [e] at hb
    obtain ⟨a, e1, p⟩ := hc q e
    rw [e1]
    exact h a q.1 q.2 e p b hb
/-- what the law's own functions leave: all but the ints of its rows -/
def LF (S S' : AS) : Prop := sN S' = sN S ∧ sK S' = sK S ∧ sL S' = sL S ∧ sR S' = sR S ∧ sJ S' = sJ S ∧ sC S' = sC S ∧ sS S' = sS S ∧ ∀ k, ¬ (127 ≤ k ∧ k < 141) → sI S' k = sI S k
theorem LF_rf (S : AS) : LF S S := ⟨rfl, rfl, rfl, rfl, rfl, rfl, rfl, fun _ _ => rfl⟩
theorem LF_tr {S S1 S2 : AS} (h : LF S S1) (g : LF S1 S2) : LF S S2 :=
  ⟨g.1.trans h.1, g.2.1.trans h.2.1, g.2.2.1.trans h.2.2.1, g.2.2.2.1.trans h.2.2.2.1, g.2.2.2.2.1.trans h.2.2.2.2.1, g.2.2.2.2.2.1.trans h.2.2.2.2.2.1, g.2.2.2.2.2.2.1.trans h.2.2.2.2.2.2.1, fun k q => (g.2.2.2.2.2.2.2 k q).trans (h.2.2.2.2.2.2.2 k q)⟩
theorem LF_w {S S1 : AS} {k j : Nat} {v : Int32} (h : LF S S1) (hk : 127 ≤ k ∧ k < 141) : LF S (wI S1 k j v) :=
  LF_tr h ⟨rfl, rfl, rfl, rfl, rfl, rfl, rfl, fun p q => funext fun b => ti_sI_ne (fun z => q (by rw [z.1]; exact hk))⟩
theorem LF.Rw {S S' : AS} {k n : Nat} (h : LF S S') (r : Rw S k n) : Rw S' k n := ⟨by rw [h.2.1]; exact r.1, by rw [h.2.2.1]; exact r.2.1, r.2.2⟩
/-- the law's rows -/
def LR (S : AS) : Prop := Rw S 127 14 ∧ Rw S 128 35 ∧ Rw S 129 36 ∧ Rw S 130 60 ∧ Rw S 131 20 ∧ Rw S 132 30 ∧ Rw S 133 60 ∧ Rw S 134 45 ∧ Rw S 135 60 ∧ Rw S 136 50 ∧ Rw S 137 60 ∧ Rw S 138 20 ∧ Rw S 139 16 ∧ Rw S 140 20
theorem LF.LR {S S' : AS} (h : LF S S') (r : LR S) : LR S' := by
  obtain ⟨a, b, c, d, e, f, g, i, j, k, l, m, n, o⟩ := r
  exact ⟨h.Rw a, h.Rw b, h.Rw c, h.Rw d, h.Rw e, h.Rw f, h.Rw g, h.Rw i, h.Rw j, h.Rw k, h.Rw l, h.Rw m, h.Rw n, h.Rw o⟩
