/-! ===== class and reference side by side: what holds of their answers and states if both answer (that they do is said elsewhere) ===== -/
def H2 {α β : Type} (x : Option α) (y : Option β) (Q : α → β → Prop) : Prop := ∀ a b, x = some a → y = some b → Q a b
/-- one program answers as another does -/
def Le {α : Type} (x x' : Option α) : Prop := ∀ a, x = some a → x' = some a
theorem l_of {α β : Type} {x x' : Option α} {y : Option β} {Q : α → β → Prop} (h : Le x x') (g : H2 x' y Q) : H2 x y Q := fun a b ha hb => g a b (h a ha) hb
theorem m_of {α β : Type} {x : Option α} {y y' : Option β} {Q : α → β → Prop} (h : Le y y') (g : H2 x y' Q) : H2 x y Q := fun a b ha hb => g a b ha (h b hb)
theorem h2_ret {α β : Type} {a : α} {b : β} {Q : α → β → Prop} (h : Q a b) : H2 (some a) (some b) Q := fun a' b' ha hb => by
  cases ha
  cases hb
  exact h
theorem h2_l0 {α β : Type} {y : Option β} {Q : α → β → Prop} : H2 none y Q := fun a b ha _ => nomatch ha
theorem h2_m0 {α β : Type} {x : Option α} {Q : α → β → Prop} : H2 x none Q := fun a b _ hb => nomatch hb
theorem h2_mono {α β : Type} {x : Option α} {y : Option β} {P Q : α → β → Prop} (h : H2 x y P) (g : ∀ a b, P a b → Q a b) : H2 x y Q := fun a b ha hb => g a b (h a b ha hb)
theorem h2_and {α β : Type} {x : Option α} {y : Option β} {P Q : α → β → Prop} (h : H2 x y P) (g : H2 x y Q) : H2 x y (fun a b => P a b ∧ Q a b) := fun a b ha hb => ⟨h a b ha hb, g a b ha hb⟩
theorem l_if {α β : Type} {c : Prop} [Decidable c] {x1 x0 : Option α} {y : Option β} {Q : α → β → Prop} (h1 : c → H2 x1 y Q) (h0 : ¬ c → H2 x0 y Q) : H2 (if c then x1 else x0) y Q := by
  by_cases h : c
  · rw [if_pos h]; exact h1 h
  · rw [if_neg h]; exact h0 h
theorem m_if {α β : Type} {c : Prop} [Decidable c] {x : Option α} {y1 y0 : Option β} {Q : α → β → Prop} (h1 : c → H2 x y1 Q) (h0 : ¬ c → H2 x y0 Q) : H2 x (if c then y1 else y0) Q := by
  by_cases h : c
  · rw [if_pos h]; exact h1 h
  · rw [if_neg h]; exact h0 h
theorem st_T {α : Type} {c : Prop} [Decidable c] {x1 x0 : Option α} (h : c) : Le (if c then x1 else x0) x1 := fun a ha => by rw [if_pos h] at ha; exact ha
theorem st_F {α : Type} {c : Prop} [Decidable c] {x1 x0 : Option α} (h : ¬ c) : Le (if c then x1 else x0) x0 := fun a ha => by rw [if_neg h] at ha; exact ha
theorem st_eq {α : Type} {x x' : Option α} (h : x = x') : Le x x' := fun a ha => by rw [← h]; exact ha
theorem st_val {α β : Type} {v : α} {F : α → Option β} : Le ((some v).bind F) (F v) := fun _ ha => ha
theorem bind_cut {α β : Type} {c : Prop} [Decidable c] {v : α} {F : α → Option β} {a : β} (h : (if c then some v else none).bind F = some a) : c ∧ F v = some a := by
  by_cases hc : c
  · rw [if_pos hc] at h
    exact ⟨hc, h⟩
  · rw [if_neg hc] at h
    cases h
theorem st_gI {α : Type} {S : AS} {κ j k : Nat} {F : Int32 → Option α} : Le ((gI S κ j (some k)).bind F) (F (sI S k j)) := fun _ ha => (bind_cut ha).2
theorem st_gIe {α : Type} {S : AS} {κ j k : Nat} {F : Int32 → Option α} {v : Int32} (e : sI S k j = v) : Le ((gI S κ j (some k)).bind F) (F v) := fun _ ha => by rw [← e]; exact (bind_cut ha).2
theorem st_gR {α : Type} {S : AS} {κ j k : Nat} {F : Option Nat → Option α} : Le ((gR S κ j (some k)).bind F) (F (sR S k j)) := fun _ ha => (bind_cut ha).2
theorem st_gRe {α : Type} {S : AS} {κ j k : Nat} {F : Option Nat → Option α} {v : Option Nat} (e : sR S k j = v) : Le ((gR S κ j (some k)).bind F) (F v) := fun _ ha => by rw [← e]; exact (bind_cut ha).2
theorem st_aI {α : Type} {S : AS} {κ k : Nat} {i : Int32} {F : Int32 → Option α} : Le ((aI S κ (some k) i).bind F) (F (sI S k i.toNatClampNeg)) := fun _ ha => (bind_cut ha).2
theorem st_aIe {α : Type} {S : AS} {κ k n : Nat} {i : Int32} {F : Int32 → Option α} {v : Int32} (hi : i.toNatClampNeg = n) (e : sI S k n = v) : Le ((aI S κ (some k) i).bind F) (F v) := fun _ ha => by rw [← e, ← hi]; exact (bind_cut ha).2
theorem st_aR {α : Type} {S : AS} {κ k : Nat} {i : Int32} {F : Option Nat → Option α} : Le ((aR S κ (some k) i).bind F) (F (sR S k i.toNatClampNeg)) := fun _ ha => (bind_cut ha).2
theorem st_aRe {α : Type} {S : AS} {κ k n : Nat} {i : Int32} {F : Option Nat → Option α} {v : Option Nat} (hi : i.toNatClampNeg = n) (e : sR S k n = v) : Le ((aR S κ (some k) i).bind F) (F v) := fun _ ha => by rw [← e, ← hi]; exact (bind_cut ha).2
theorem st_aN {α : Type} {S : AS} {k : Nat} {F : Int32 → Option α} : Le ((aN S (some k)).bind F) (F (Int32.ofNat (sL S k))) := fun _ ha => (bind_cut ha).2
theorem st_pI {α : Type} {S : AS} {κ j k : Nat} {v : Int32} {F : AS → Option α} : Le ((pI S κ j (some k) v).bind F) (F (wI S k j v)) := fun _ ha => (bind_cut ha).2
theorem st_pZ {α : Type} {S : AS} {κ j k : Nat} {v : Int32} {F : AS → Option α} : Le ((pZ S κ j (some k) v).bind F) (F (wI S k j v)) := fun _ ha => (bind_cut ha).2
theorem st_pR {α : Type} {S : AS} {κ j k : Nat} {v : Option Nat} {F : AS → Option α} : Le ((pR S κ j (some k) v).bind F) (F (wR S k j v)) := fun _ ha => (bind_cut ha).2
theorem st_bI {α : Type} {κ : Nat} {S : AS} {k : Nat} {i v : Int32} {F : AS → Option α} : Le ((bI S (some k) i v κ).bind F) (F (wI S k i.toNatClampNeg v)) := fun _ ha => (bind_cut ha).2
theorem st_bZ {α : Type} {κ : Nat} {S : AS} {k : Nat} {i v : Int32} {F : AS → Option α} : Le ((bZ S (some k) i v κ).bind F) (F (wI S k i.toNatClampNeg v)) := fun _ ha => (bind_cut ha).2
theorem st_bIe {α : Type} {κ : Nat} {S : AS} {k n : Nat} {i v : Int32} {F : AS → Option α} (hi : i.toNatClampNeg = n) : Le ((bI S (some k) i v κ).bind F) (F (wI S k n v)) := fun _ ha => by rw [← hi]; exact (bind_cut ha).2
theorem st_bZe {α : Type} {κ : Nat} {S : AS} {k n : Nat} {i v : Int32} {F : AS → Option α} (hi : i.toNatClampNeg = n) : Le ((bZ S (some k) i v κ).bind F) (F (wI S k n v)) := fun _ ha => by rw [← hi]; exact (bind_cut ha).2
theorem st_bR {α : Type} {S : AS} {κ lo hi k a : Nat} {i : Int32} {F : AS → Option α} : Le ((bR S κ lo hi (some k) i (some a)).bind F) (F (wR S k i.toNatClampNeg (some a))) := fun _ ha => (bind_cut ha).2
theorem st_nA {α : Type} {S : AS} {κ : Nat} {n : Int32} {F : AS → Option α} : Le ((nA S κ n).bind F) (F (wN S κ n.toNatClampNeg n.toNatClampNeg)) := fun _ ha => (bind_cut ha).2
theorem st_rv {α : Type} {S : AS} {κ : Nat} {x : Option Nat} {F : Unit → Option α} : Le ((kr_rv S κ x).bind F) (F ()) := fun _ ha => by
  cases x with
  | none => cases ha
  | some k => exact (bind_cut ha).2
theorem st_cc {α : Type} {S : AS} {κ : Nat} {x : Option Nat} {F : Unit → Option α} : Le ((kr_cc S κ x).bind F) (F ()) := fun _ ha => (bind_cut ha).2
theorem st_ac {α : Type} {S : AS} {x : Option Nat} {F : Unit → Option α} : Le ((kr_ac S x).bind F) (F ()) := fun _ ha => (bind_cut ha).2
theorem st_z {α : Type} {v : Int32} {F : Unit → Option α} : Le ((kr_z v).bind F) (F ()) := fun _ ha => (bind_cut ha).2
/-- bounds, where they are wanted -/
theorem l_aI {α β : Type} {S : AS} {κ k : Nat} {i : Int32} {F : Int32 → Option α} {y : Option β} {Q : α → β → Prop} (h : 0 ≤ i.toInt → i.toInt < (sL S k : Int) → H2 (F (sI S k i.toNatClampNeg)) y Q) : H2 ((aI S κ (some k) i).bind F) y Q := fun a b ha hb => by
  obtain ⟨c, e⟩ := bind_cut ha
  exact h c.2.1 c.2.2 a b e hb
theorem m_aI {α β : Type} {S : AS} {κ k : Nat} {i : Int32} {F : Int32 → Option β} {x : Option α} {Q : α → β → Prop} (h : 0 ≤ i.toInt → i.toInt < (sL S k : Int) → H2 x (F (sI S k i.toNatClampNeg)) Q) : H2 x ((aI S κ (some k) i).bind F) Q := fun a b ha hb => by
  obtain ⟨c, e⟩ := bind_cut hb
  exact h c.2.1 c.2.2 a b ha e
theorem m_bI {α β : Type} {κ : Nat} {S : AS} {k : Nat} {i v : Int32} {F : AS → Option β} {x : Option α} {Q : α → β → Prop} (h : 0 ≤ i.toInt → i.toInt < (sL S k : Int) → H2 x (F (wI S k i.toNatClampNeg v)) Q) : H2 x ((bI S (some k) i v κ).bind F) Q := fun a b ha hb => by
  obtain ⟨c, e⟩ := bind_cut hb
  exact h c.2.1 c.2.2 a b ha e
/-- calls -/
theorem st_b2 {α β : Type} {x : Option (α × AS)} {v : α} {S' : AS} {F : α → AS → Option β} (e : x = some (v, S')) : Le (kr_b2 x F) (F v S') := fun a ha => by rw [e] at ha; exact ha
theorem st_bx {α β : Type} {x : Option ((α ⊕ String) × AS)} {v : α} {S' : AS} {F : α → AS → Option ((β ⊕ String) × AS)} (e : x = some (.inl v, S')) : Le (kr_bx x F) (F v S') := fun a ha => by rw [e] at ha; exact ha
theorem st_bxe {α β : Type} {x : Option ((α ⊕ String) × AS)} {v : String} {S' : AS} {F : α → AS → Option ((β ⊕ String) × AS)} (e : x = some (.inr v, S')) : Le (kr_bx x F) (some (.inr v, S')) := fun a ha => by rw [e] at ha; exact ha
theorem st_bd {α β : Type} {x : Option α} {v : α} {F : α → Option β} (e : x = some v) : Le (x.bind F) (F v) := fun a ha => by rw [e] at ha; exact ha
theorem l_b2 {α γ β : Type} {x : Option (α × AS)} {F : α → AS → Option γ} {y : Option β} {Q : γ → β → Prop} (h : ∀ v S', x = some (v, S') → H2 (F v S') y Q) : H2 (kr_b2 x F) y Q := fun a b ha hb => by
  cases e : x with
  | none => rw [e] at ha; cases ha
  | some q =>
    rw [e] at ha
    exact h q.1 q.2 e a b ha hb
theorem m_b2 {α γ β : Type} {x : Option γ} {y : Option (α × AS)} {F : α → AS → Option β} {Q : γ → β → Prop} (h : ∀ v S', y = some (v, S') → H2 x (F v S') Q) : H2 x (kr_b2 y F) Q := fun a b ha hb => by
  cases e : y with
  | none => rw [e] at hb; cases hb
  | some q =>
    rw [e] at hb
    exact h q.1 q.2 e a b ha hb
theorem l_bd {α γ β : Type} {x : Option α} {F : α → Option γ} {y : Option β} {Q : γ → β → Prop} (h : ∀ v, x = some v → H2 (F v) y Q) : H2 (x.bind F) y Q := fun a b ha hb => by
  cases e : x with
  | none => rw [e] at ha; cases ha
  | some q =>
    rw [e] at ha
    exact h q e a b ha hb
theorem m_bd {α γ β : Type} {x : Option γ} {y : Option α} {F : α → Option β} {Q : γ → β → Prop} (h : ∀ v, y = some v → H2 x (F v) Q) : H2 x (y.bind F) Q := fun a b ha hb => by
  cases e : y with
  | none => rw [e] at hb; cases hb
  | some q =>
    rw [e] at hb
    exact h q e a b ha hb
theorem l_bx {α γ β : Type} {x : Option ((α ⊕ String) × AS)} {F : α → AS → Option ((γ ⊕ String) × AS)} {y : Option β} {Q : (γ ⊕ String) × AS → β → Prop} (h : ∀ v S', x = some (.inl v, S') → H2 (F v S') y Q) (g : ∀ v S', x = some (.inr v, S') → H2 (some (.inr v, S')) y Q) : H2 (kr_bx x F) y Q := fun a b ha hb => by
  match x, ha, h, g with
  | some (.inl v, S'), ha, h, _ => exact h v S' rfl a b ha hb
  | some (.inr v, S'), ha, _, g => exact g v S' rfl a b ha hb
/-- both at once -/
theorem h2_22 {α γ β δ : Type} {x : Option (α × AS)} {y : Option (γ × AS)} {F : α → AS → Option β} {G : γ → AS → Option δ} {P : α × AS → γ × AS → Prop} {Q : β → δ → Prop} (hc : H2 x y P) (h : ∀ v S' u m', P (v, S') (u, m') → H2 (F v S') (G u m') Q) : H2 (kr_b2 x F) (kr_b2 y G) Q :=
  l_b2 (fun v S' e => m_b2 (fun u m' f => h v S' u m' (hc _ _ e f)))
theorem h2_2d {α γ β δ : Type} {x : Option (α × AS)} {y : Option γ} {F : α → AS → Option β} {G : γ → Option δ} {P : α × AS → γ → Prop} {Q : β → δ → Prop} (hc : H2 x y P) (h : ∀ v S' u, P (v, S') u → H2 (F v S') (G u) Q) : H2 (kr_b2 x F) (y.bind G) Q :=
  l_b2 (fun v S' e => m_bd (fun u f => h v S' u (hc _ _ e f)))
theorem h2_dd {α γ β δ : Type} {x : Option α} {y : Option γ} {F : α → Option β} {G : γ → Option δ} {P : α → γ → Prop} {Q : β → δ → Prop} (hc : H2 x y P) (h : ∀ v u, P v u → H2 (F v) (G u) Q) : H2 (x.bind F) (y.bind G) Q :=
  l_bd (fun v e => m_bd (fun u f => h v u (hc _ _ e f)))
theorem h2_d2 {α γ β δ : Type} {x : Option α} {y : Option (γ × AS)} {F : α → Option β} {G : γ → AS → Option δ} {P : α → γ × AS → Prop} {Q : β → δ → Prop} (hc : H2 x y P) (h : ∀ v u m', P v (u, m') → H2 (F v) (G u m') Q) : H2 (x.bind F) (kr_b2 y G) Q :=
  l_bd (fun v e => m_b2 (fun u m' f => h v u m' (hc _ _ e f)))
theorem h2_xd {α γ β δ : Type} {x : Option ((α ⊕ String) × AS)} {y : Option γ} {F : α → AS → Option ((β ⊕ String) × AS)} {G : γ → Option δ} {P : (α ⊕ String) × AS → γ → Prop} {Q : (β ⊕ String) × AS → δ → Prop} (hc : H2 x y P) (h : ∀ v S' u, P (.inl v, S') u → H2 (F v S') (G u) Q) (g : ∀ v S' u, P (.inr v, S') u → H2 (some (.inr v, S')) (G u) Q) : H2 (kr_bx x F) (y.bind G) Q :=
  l_bx (fun v S' e => m_bd (fun u f => h v S' u (hc _ _ e f))) (fun v S' e => m_bd (fun u f => g v S' u (hc _ _ e f)))
theorem h2_x2 {α γ β δ : Type} {x : Option ((α ⊕ String) × AS)} {y : Option (γ × AS)} {F : α → AS → Option ((β ⊕ String) × AS)} {G : γ → AS → Option δ} {P : (α ⊕ String) × AS → γ × AS → Prop} {Q : (β ⊕ String) × AS → δ → Prop} (hc : H2 x y P) (h : ∀ v S' u m', P (.inl v, S') (u, m') → H2 (F v S') (G u m') Q) (g : ∀ v S' u m', P (.inr v, S') (u, m') → H2 (some (.inr v, S')) (G u m') Q) : H2 (kr_bx x F) (kr_b2 y G) Q :=
  l_bx (fun v S' e => m_b2 (fun u m' f => h v S' u m' (hc _ _ e f))) (fun v S' e => m_b2 (fun u m' f => g v S' u m' (hc _ _ e f)))
/-- lists: the place of an element, the size -/
def lel (S : AS) (l i : Nat) : Nat := (sR S ((sR S l 1).getD 0) i).getD 0
theorem lel_u (S : AS) (l i : Nat) : lel S l i = (sR S ((sR S l 1).getD 0) i).getD 0 := rfl
