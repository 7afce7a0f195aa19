/-! ===== the words that the functions are made of ===== -/
def kr_FU : Nat := 2000
def nO (S : AS) (κ : Nat) : AS := wN S κ 0 (kr_cN (κ - 10))
def kr_b2 {α β : Type} (x : Option (α × AS)) (f : α → AS → Option β) : Option β := x.bind fun q => f q.1 q.2
def kr_bx {α β : Type} (x : Option ((α ⊕ String) × AS)) (f : α → AS → Option ((β ⊕ String) × AS)) : Option ((β ⊕ String) × AS) := x.bind fun q => match q.1 with
  | .inl v => f v q.2
  | .inr E => some (.inr E, q.2)
def kr_bh {α β : Type} (x : Option ((α ⊕ String) × AS)) (g : String → AS → Option β) (f : α → AS → Option β) : Option β := x.bind fun q => match q.1 with
  | .inl v => f v q.2
  | .inr E => g E q.2
theorem kr_ob {α β : Type} {x : Option α} {f : α → Option β} {r : β} (h : x.bind f = some r) : ∃ v, x = some v ∧ f v = some r := Option.bind_eq_some_iff.mp h
theorem kr_ob2 {α β : Type} {x : Option (α × AS)} {f : α → AS → Option β} {r : β} (h : kr_b2 x f = some r) : ∃ v S, x = some (v, S) ∧ f v S = some r := by
  obtain ⟨⟨v, S⟩, h1, h2⟩ := kr_ob h
  exact ⟨v, S, h1, h2⟩
theorem kr_obx {α β : Type} {x : Option ((α ⊕ String) × AS)} {f : α → AS → Option ((β ⊕ String) × AS)} {r : (β ⊕ String) × AS} (h : kr_bx x f = some r) : (∃ v S, x = some (.inl v, S) ∧ f v S = some r) ∨ (∃ E S, x = some (.inr E, S) ∧ some (.inr E, S) = some r) := by
  obtain ⟨⟨v, S⟩, h1, h2⟩ := kr_ob h
  cases v with
  | inl v => exact Or.inl ⟨v, S, h1, h2⟩
  | inr E => exact Or.inr ⟨E, S, h1, h2⟩
theorem kr_obh {α β : Type} {x : Option ((α ⊕ String) × AS)} {g : String → AS → Option β} {f : α → AS → Option β} {r : β} (h : kr_bh x g f = some r) : (∃ v S, x = some (.inl v, S) ∧ f v S = some r) ∨ (∃ E S, x = some (.inr E, S) ∧ g E S = some r) := by
  obtain ⟨⟨v, S⟩, h1, h2⟩ := kr_ob h
  cases v with
  | inl v => exact Or.inl ⟨v, S, h1, h2⟩
  | inr E => exact Or.inr ⟨E, S, h1, h2⟩
theorem kr_ip {α : Type} {c : Prop} [Decidable c] {a b r : α} (hc : c) (h : (if c then a else b) = r) : a = r := by rw [if_pos hc] at h; exact h
theorem kr_in_ {α : Type} {c : Prop} [Decidable c] {a b r : α} (hc : ¬ c) (h : (if c then a else b) = r) : b = r := by rw [if_neg hc] at h; exact h
theorem kr_inc {x v c : Int32} {n : Int} (hc : Int32.ofInt n = c) (h : some (x + c) = some v) : x + Int32.ofInt n = v := by rw [hc]; exact Option.some.inj h
def kr_eV (S : AS) : AR := (.inl none, S)
def kr_eI (q : Int32 × AS) : AR := (.inl (some (.int q.1)), q.2)
def kr_eR (q : Option Nat × AS) : AR := (.inl (some (va_rf q.1)), q.2)
def kr_xV (q : (Unit ⊕ String) × AS) : AR := (match q.1 with | .inl _ => .inl none | .inr E => .inr E, q.2)
def kr_xI (q : (Int32 ⊕ String) × AS) : AR := (match q.1 with | .inl v => .inl (some (.int v)) | .inr E => .inr E, q.2)
def kr_xR (q : (Option Nat ⊕ String) × AS) : AR := (match q.1 with | .inl v => .inl (some (va_rf v)) | .inr E => .inr E, q.2)
def kr_cs (st : List Value) (n : Nat) : Prop := (st.map fun v => v.category).sum ≤ n
theorem kr_c0 : kr_cs [] 0 := Nat.le_refl _
theorem kr_cI {st : List Value} {n : Nat} {v : Int32} (h : kr_cs st n) : kr_cs (.int v :: st) (n + 1) := by
  have h' : (st.map fun v => v.category).sum ≤ n := h
  show ((Value.int v :: st).map fun v => v.category).sum ≤ n + 1
  rw [List.map_cons, List.sum_cons, show (Value.int v).category = 1 from rfl]
  omega
theorem kr_cR {st : List Value} {n : Nat} {x : Option Nat} (h : kr_cs st n) : kr_cs (va_rf x :: st) (n + 1) := by
  have h' : (st.map fun v => v.category).sum ≤ n := h
  show ((va_rf x :: st).map fun v => v.category).sum ≤ n + 1
  simp only [List.map_cons, List.sum_cons, kr_rfcat]
  omega
theorem kr_cJ {st : List Value} {n : Nat} {v : Int64} (h : kr_cs st n) : kr_cs (.long v :: st) (n + 2) := by
  have h' : (st.map fun v => v.category).sum ≤ n := h
  show ((Value.long v :: st).map fun v => v.category).sum ≤ n + 2
  rw [List.map_cons, List.sum_cons, show (Value.long v).category = 2 from rfl]
  omega
theorem kr_c8 {st : List Value} {n : Nat} (h : kr_cs st n) (hn : n ≤ 8 := by decide) : (st.map fun v => v.category).sum ≤ 8 := Nat.le_trans h hn
theorem kr_tab {x : Int32} {lo hi : Int} {n : Nat} (hn : hi = lo + n - 1 ∧ -1000 ≤ lo ∧ hi ≤ 1000) (h : ∀ j : Nat, j < n → ¬ x = Int32.ofInt (lo + j)) : x.toInt < lo ∨ hi < x.toInt := by
  rcases Int.lt_or_le x.toInt lo with q | q
  · exact Or.inl q
  · rcases Int.lt_or_le hi x.toInt with q2 | q2
    · exact Or.inr q2
    · exact absurd (by rw [show lo + ((x.toInt - lo).toNat : Int) = x.toInt by omega, Int32.ofInt_toInt]) (h (x.toInt - lo).toNat (by omega))
section KR
variable {M : MM} {d pc : Nat} {lv : List (Nat × Value)} {st : List Value} {S : AS} {r : AR}
theorem kr_nmI {e x : Int32} (h : some e = some x) (K : kr_AW M d pc lv (.int x :: st) S r) : kr_AW M d pc lv (.int e :: st) S r := by cases h; exact K
theorem kr_nmI2 {e x y : Int32} (h : some e = some x) (K : kr_AW M d pc lv (.int y :: .int x :: st) S r) : kr_AW M d pc lv (.int y :: .int e :: st) S r := by cases h; exact K
theorem r_newO_ {κ i : Nat} {S1 : AS} (h : some (nO S κ) = some S1) (hκ : 10 ≤ κ ∧ κ < 10 + kr_nC) (hw : Cond.classLink (mO M) i (kr_cC (κ - 10)) ∈ kr_TB) (hi : Cond.instantiable (kr_cC (κ - 10)) (kr_cN (κ - 10)) ∈ kr_TB) (hini : Cond.initialized (kr_cC (κ - 10)) ∈ kr_TB) (hd : decode (mC M) pc = .ok (.new i, 3)) (K : kr_AW M d (pc + 3) lv (va_rf (some (sN S)) :: st) S1 r) : kr_AW M d pc lv st S r := by
  cases h
  exact r_new hκ hw hi hini hd K
theorem kr_k1 {w : Value} {S1 : AS} (K : kr_AW M d pc lv (w :: st) S1 r) : ∀ v, ((Sum.inl (some w), S1) : AR).1 = .inl v → kr_AW M d pc lv (v.toList ++ st) ((Sum.inl (some w), S1) : AR).2 r := fun v h => by cases h; exact K
theorem kr_k0 {S1 : AS} (K : kr_AW M d pc lv st S1 r) : ∀ v, ((Sum.inl none, S1) : AR).1 = .inl v → kr_AW M d pc lv (v.toList ++ st) ((Sum.inl none, S1) : AR).2 r := fun v h => by cases h; exact K
theorem kr_kn {v : Option Value} {S1 : AS} : ∀ E, ((Sum.inl v, S1) : AR).1 = .inr E → kr_XW M d pc lv st ((Sum.inl v, S1) : AR).2 r E := fun E h => nomatch h
theorem kr_nk {E : String} {S1 : AS} : ∀ v, ((Sum.inr E, S1) : AR).1 = .inl v → kr_AW M d pc lv (v.toList ++ st) ((Sum.inr E, S1) : AR).2 r := fun v h => nomatch h
theorem kr_kx {E : String} {S1 : AS} (K : kr_XW M d pc lv st S1 r E) : ∀ E', ((Sum.inr E, S1) : AR).1 = .inr E' → kr_XW M d pc lv st ((Sum.inr E, S1) : AR).2 r E' := fun E' h => by cases h; exact K
theorem kr_pre {E : String} {z : Nat × Nat × Nat × Nat} {l : List (Nat × Nat × Nat × Nat)} (h : ∃ n2 : String, z.2.2.2 ≠ 0 ∧ Cond.classLink (mO M) z.2.2.2 n2 ∈ kr_TB ∧ (E, n2) ∈ kr_ncs) (t : ∀ z ∈ l, ∃ n2 : String, z.2.2.2 ≠ 0 ∧ Cond.classLink (mO M) z.2.2.2 n2 ∈ kr_TB ∧ (E, n2) ∈ kr_ncs) : ∀ y ∈ z :: l, ∃ n2 : String, y.2.2.2 ≠ 0 ∧ Cond.classLink (mO M) y.2.2.2 n2 ∈ kr_TB ∧ (E, n2) ∈ kr_ncs := by
  intro z' hz'
  rcases List.mem_cons.mp hz' with e | hz'
  · subst e; exact h
  · exact t _ hz'
end KR
