/-! ===== one program alone: what holds of its answer if it answers ===== -/
def Hp {α : Type} (x : Option α) (Q : α → Prop) : Prop := ∀ a, x = some a → Q a
theorem p_of {α : Type} {x x' : Option α} {Q : α → Prop} (h : Le x x') (g : Hp x' Q) : Hp x Q := fun a ha => g a (h a ha)
theorem p_ret {α : Type} {a : α} {Q : α → Prop} (h : Q a) : Hp (some a) Q := fun a' ha => by
  cases ha
  exact h
theorem p_0 {α : Type} {Q : α → Prop} : Hp none Q := fun _ ha => nomatch ha
theorem p_mono {α : Type} {x : Option α} {P Q : α → Prop} (h : Hp x P) (g : ∀ a, P a → Q a) : Hp x Q := fun a ha => g a (h a ha)
theorem p_if {α : Type} {c : Prop} [Decidable c] {x1 x0 : Option α} {Q : α → Prop} (h1 : c → Hp x1 Q) (h0 : ¬ c → Hp x0 Q) : Hp (if c then x1 else x0) Q := by
  by_cases h : c
  · rw [if_pos h]; exact h1 h
  · rw [if_neg h]; exact h0 h
theorem p_b2 {α β : Type} {x : Option (α × AS)} {F : α → AS → Option β} {P : α × AS → Prop} {Q : β → Prop} (hc : Hp x P) (h : ∀ v S', P (v, S') → Hp (F v S') Q) : Hp (kr_b2 x F) Q := fun a ha => by
  cases e : x with
  | none => rw [e] at ha; cases ha
  | some q =>
    rw [e] at ha
    exact h q.1 q.2 (hc _ e) a ha
theorem p_bd {α β : Type} {x : Option α} {F : α → Option β} {P : α → Prop} {Q : β → Prop} (hc : Hp x P) (h : ∀ v, P v → Hp (F v) Q) : Hp (x.bind F) Q := fun a ha => by
  cases e : x with
  | none => rw [e] at ha; cases ha
  | some q =>
    rw [e] at ha
    exact h q (hc _ e) a ha
theorem p_aI {α : Type} {S : AS} {κ k : Nat} {i : Int32} {F : Int32 → Option α} {Q : α → Prop} (h : 0 ≤ i.toInt → i.toInt < (sL S k : Int) → Hp (F (sI S k i.toNatClampNeg)) Q) : Hp ((aI S κ (some k) i).bind F) Q := fun a ha => by
  obtain ⟨c, e⟩ := bind_cut ha
  exact h c.2.1 c.2.2 a e
theorem p_bI {α : Type} {κ : Nat} {S : AS} {k : Nat} {i v : Int32} {F : AS → Option α} {Q : α → Prop} (h : 0 ≤ i.toInt → i.toInt < (sL S k : Int) → Hp (F (wI S k i.toNatClampNeg v)) Q) : Hp ((bI S (some k) i v κ).bind F) Q := fun a ha => by
  obtain ⟨c, e⟩ := bind_cut ha
  exact h c.2.1 c.2.2 a e
/-- a pure one: used as a step -/
theorem l_p2 {α γ β : Type} {x : Option (α × AS)} {F : α → AS → Option γ} {y : Option β} {P : α × AS → Prop} {Q : γ → β → Prop} (hc : Hp x P) (h : ∀ v S', P (v, S') → H2 (F v S') y Q) : H2 (kr_b2 x F) y Q := l_b2 (fun v S' e => h v S' (hc _ e))
theorem m_p2 {α γ β : Type} {x : Option γ} {y : Option (α × AS)} {F : α → AS → Option β} {P : α × AS → Prop} {Q : γ → β → Prop} (hc : Hp y P) (h : ∀ v S', P (v, S') → H2 x (F v S') Q) : H2 x (kr_b2 y F) Q := m_b2 (fun v S' e => h v S' (hc _ e))
theorem l_pd {α γ β : Type} {x : Option α} {F : α → Option γ} {y : Option β} {P : α → Prop} {Q : γ → β → Prop} (hc : Hp x P) (h : ∀ v, P v → H2 (F v) y Q) : H2 (x.bind F) y Q := l_bd (fun v e => h v (hc _ e))
theorem m_pd {α γ β : Type} {x : Option γ} {y : Option α} {F : α → Option β} {P : α → Prop} {Q : γ → β → Prop} (hc : Hp y P) (h : ∀ v, P v → H2 x (F v) Q) : H2 x (y.bind F) Q := m_bd (fun v e => h v (hc _ e))
theorem l_b2x {α γ β : Type} {x : Option ((α ⊕ String) × AS)} {F : α → AS → Option ((γ ⊕ String) × AS)} {y : Option β} {v : α} {S' : AS} {Q : (γ ⊕ String) × AS → β → Prop} (hc : Hp x (fun q => q = (.inl v, S'))) (h : H2 (F v S') y Q) : H2 (kr_bx x F) y Q := l_bx (fun v1 S1 e => by
  obtain ⟨e1, e2⟩ := Prod.mk.inj (hc _ e)
  cases e1
  cases e2
  exact h) (fun v1 S1 e => by
  obtain ⟨e1, e2⟩ := Prod.mk.inj (hc _ e)
  cases e1)
/-! ===== where the fixed rows lie ===== -/
def k4t (j : Nat) : Option Nat := [none, some 5, some 8, some 9, some 10, none, some 17, some 18, some 19, none, some 20, some 21, some 22, some 23, some 24, some 25, some 27, some 28].getD j none
def mft (j : Nat) : Option Nat := [none, some 58, some 59, some 60, some 61, some 62, some 63, some 64, some 65, none, some 66, some 67, some 68, some 69, some 70, some 71, some 72, some 73, some 74, none, some 75, some 76, some 77, some 78, some 79, some 80, some 81, some 82, some 83, some 84, none, some 85, some 86, some 87, some 88, some 89, some 90, some 91, some 92, none, some 93, some 94, some 95, some 96, some 97, some 98, none, some 99, some 100, some 101, some 102, some 103, none, some 104, some 105, some 106, some 107, some 108, some 109, some 110, none, none, none, none, some 111, some 112, some 113, some 114, some 115, some 116, none, some 117, some 118, some 119, some 120, some 121, some 122, none, some 123, some 124, some 125].getD j none
def MF (m : AS) : Prop := ∀ j p, mft j = some p → sR m 57 j = some p
def K4F (S : AS) : Prop := (∀ j p, k4t j = some p → sR S 4 j = some p) ∧ sR S 5 0 = some 6 ∧ sR S 5 1 = some 7 ∧ sR S 25 5 = some 26
theorem mft_ok : (List.range 81).all (fun j => match mft j with | none => true | some p => ft 100 j == some (100 + j) && sg (100 + j) == some p) = true := by decide +kernel
theorem k4t_ok : (List.range 18).all (fun j => match k4t j with | none => true | some p => match ft 1 j with | none => false | some τ => sg τ == some p) = true := by decide +kernel
theorem MF_of {T : Nat → Nat} {m : AS} (hT : TI T m) : MF m := fun j p h => by
  have hj : j < 81 := gd_lt h
  have e := List.all_eq_true.mp mft_ok j (List.mem_range.mpr hj)
  simp only [h, Bool.and_eq_true, beq_iff_eq] at e
  exact (md_at hT e.1 e.2).1
theorem K4F_of {T : Nat → Nat} {S : AS} (hT : TI T S) : K4F S := by
  refine ⟨fun j p h => ?_, ?_, ?_, ?_⟩
  · have hj : j < 18 := gd_lt h
    have e := List.all_eq_true.mp k4t_ok j (List.mem_range.mpr hj)
    simp only [h] at e
    cases c : ft 1 j with
    | none => rw [c] at e; cases e
    | some τ =>
      rw [c] at e
      exact (kd_ty hT c (beq_iff_eq.mp e)).1
  · obtain ⟨-, t, -⟩ := kd_ty hT (j := 1) (p := 5) rfl rfl
    obtain ⟨k, e, h1, h2⟩ := hT.t2 5 0 3 (by rw [t]; rfl)
    have := hT.t7 k 6 (by rw [h1]; rfl)
    rw [e, this]
  · obtain ⟨-, t, -⟩ := kd_ty hT (j := 1) (p := 5) rfl rfl
    obtain ⟨k, e, h1, h2⟩ := hT.t2 5 1 4 (by rw [t]; rfl)
    have := hT.t7 k 7 (by rw [h1]; rfl)
    rw [e, this]
  · obtain ⟨-, t, -⟩ := kd_ty hT (j := 15) (p := 25) rfl rfl
    obtain ⟨k, e, h1, h2⟩ := hT.t2 25 5 11 (by rw [t]; rfl)
    have := hT.t7 k 26 (by rw [h1]; rfl)
    rw [e, this]
/-- the six persons, the four services -/
def PF (S : AS) : Prop := (∀ i, i < 6 → sR S 8 i = some (29 + 4 * i) ∧ sR S (29 + 4 * i) 1 = some (30 + 4 * i) ∧ sR S (29 + 4 * i) 2 = some (31 + 4 * i) ∧ sR S (29 + 4 * i) 9 = some (32 + 4 * i) ∧ sI S (29 + 4 * i) 0 = Int32.ofNat i) ∧ (∀ i, i < 4 → sR S 21 i = some (53 + i))
theorem z_PF : PF kr_Z := by
  unfold PF
  decide +kernel
/-- types of the fixed places of the class -/
theorem kt4 {T : Nat → Nat} {S : AS} (hT : TI T S) : T 4 = 1 ∧ T 5 = 2 ∧ T 6 = 3 ∧ T 7 = 4 ∧ T 8 = 5 ∧ T 9 = 6 ∧ T 10 = 7 ∧ T 20 = 8 ∧ T 21 = 9 ∧ T 25 = 10 ∧ T 26 = 11 ∧ T 28 = 12 := by
  have t5 := (kd_ty hT (j := 1) (p := 5) rfl rfl).2.1
  have t25 := (kd_ty hT (j := 15) (p := 25) rfl rfl).2.1
  refine ⟨hT.t9.2.2.2.2.1, t5, ?_, ?_, (kd_ty hT (j := 2) (p := 8) rfl rfl).2.1, (kd_ty hT (j := 3) (p := 9) rfl rfl).2.1, (kd_ty hT (j := 4) (p := 10) rfl rfl).2.1, (kd_ty hT (j := 10) (p := 20) rfl rfl).2.1, (kd_ty hT (j := 11) (p := 21) rfl rfl).2.1, t25, ?_, (kd_ty hT (j := 17) (p := 28) rfl rfl).2.1⟩
  · obtain ⟨k, e, h1, h2⟩ := hT.t2 5 0 3 (by rw [t5]; rfl)
    have := hT.t7 k 6 (by rw [h1]; rfl)
    rw [← this]
    exact h1
  · obtain ⟨k, e, h1, h2⟩ := hT.t2 5 1 4 (by rw [t5]; rfl)
    have := hT.t7 k 7 (by rw [h1]; rfl)
    rw [← this]
    exact h1
  · obtain ⟨k, e, h1, h2⟩ := hT.t2 25 5 11 (by rw [t25]; rfl)
    have := hT.t7 k 26 (by rw [h1]; rfl)
    rw [← this]
    exact h1
theorem kt_P {T : Nat → Nat} {S : AS} (hT : TI T S) (h : PF S) {i : Nat} (hi : i < 6) : T (29 + 4 * i) = 13 ∧ T (30 + 4 * i) = 14 ∧ T (31 + 4 * i) = 15 ∧ T (32 + 4 * i) = 16 := by
  obtain ⟨a, b, c, d, -⟩ := h.1 i hi
  have t8 := (kt4 hT).2.2.2.2.1
  have r : ∀ {k j τ p : Nat}, ft (T k) j = some τ → sR S k j = some p → T p = τ := fun {k j τ p} e f => by
    obtain ⟨x, e', h1, h2⟩ := hT.t2 k j τ e
    rw [f] at e'
    cases e'
    exact h1
  have t : T (29 + 4 * i) = 13 := r (k := 8) (j := i) (by
    rw [t8]
    match i, hi with
    | 0, _ => rfl
    | 1, _ => rfl
    | 2, _ => rfl
    | 3, _ => rfl
    | 4, _ => rfl
    | 5, _ => rfl) a
  exact ⟨t, r (by rw [t]; rfl) b, r (by rw [t]; rfl) c, r (by rw [t]; rfl) d⟩
theorem kt_S {T : Nat → Nat} {S : AS} (hT : TI T S) (h : PF S) {i : Nat} (hi : i < 4) : T (53 + i) = 17 := by
  have t9 := (kt4 hT).2.2.2.2.2.2.2.2.1
  obtain ⟨x, e', h1, h2⟩ := hT.t2 21 i 17 (by
    rw [t9]
    match i, hi with
    | 0, _ => rfl
    | 1, _ => rfl
    | 2, _ => rfl
    | 3, _ => rfl)
  rw [h.2 i hi] at e'
  cases e'
  exact h1
/-- the elements of a list -/
theorem lel_at {T : Nat → Nat} {S : AS} (hT : TI T S) {q i : Nat} (hq : q < 7) (hi : (i : Int) < (sI S (lp q) 2).toInt) : T (lel S (lp q) i) = el q ∧ sR S ((sR S (lp q) 1).getD 0) i = some (lel S (lp q) i) := by
  obtain ⟨l1, d, l2, l3, l4, l5, l6⟩ := hT.t6 q hq
  obtain ⟨k, e, h1, h2⟩ := l6 i hi
  unfold lel
  rw [l2]
  show T ((sR S d i).getD 0) = _ ∧ sR S d i = some ((sR S d i).getD 0)
  rw [e]
  exact ⟨h1, rfl⟩
/-- asking a list -/
theorem st_size {α : Type} {S : AS} {l : Nat} {F : Int32 → AS → Option α} : Le (kr_b2 (f_AL_size S (some l)) F) (F (sI S l 2) S) := fun a ha => by
  unfold f_AL_size at ha
  by_cases c : sK S l = 10
  · rw [ti_gI c] at ha
    exact ha
  · have : gI S 10 2 (some l) = none := by
      unfold gI
      rw [Option.bind_some, if_neg c]
    rw [this] at ha
    cases ha
theorem p_get {S : AS} {l : Nat} {i : Int32} : Hp (f_AL_get S (some l) i) (fun q => q = (sR S ((sR S l 1).getD 0) i.toNatClampNeg, S) ∧ 0 ≤ i.toInt ∧ i.toInt < (sI S l 2).toInt) := by
  unfold f_AL_get
  refine p_of st_gI ?_
  refine p_b2 (P := fun q => q.2 = S ∧ 0 ≤ i.toInt ∧ i.toInt < (sI S l 2).toInt) ?_ (fun v S' p => ?_)
  · unfold f_OB_checkIndex f_PR_checkIndex f_PR_checkIndex_B9
    refine p_b2 (P := fun q => q.2 = S ∧ 0 ≤ i.toInt ∧ i.toInt < (sI S l 2).toInt) (p_if (fun _ => p_0) (fun c => p_if (fun c2 => p_ret ⟨rfl, ?_, Int32.lt_iff_toInt_lt.mp c2⟩) (fun _ => p_0))) (fun v S' p => p_ret p)
    exact Int.not_lt.mp (fun q => c (lt0.mpr q))
  · obtain ⟨e, p⟩ := p
    have e : S' = S := e
    rw [e]
    refine p_of st_rv ?_
    refine p_b2 (P := fun q => q = (sR S ((sR S l 1).getD 0) i.toNatClampNeg, S)) ?_ (fun v S' p2 => ?_)
    · unfold f_AL_elementData
      refine p_of st_gR ?_
      cases c : sR S l 1 with
      | none => exact fun a ha => nomatch ha
      | some d => exact p_of st_aR (p_ret rfl)
    · have p2 : (v, S') = (sR S ((sR S l 1).getD 0) i.toNatClampNeg, S) := p2
      obtain ⟨rfl, rfl⟩ := Prod.mk.inj p2
      exact p_ret ⟨rfl, p⟩
theorem st_get {α : Type} {S : AS} {l n p : Nat} {i : Int32} {F : Option Nat → AS → Option α} (hi : i.toNatClampNeg = n) (e : sR S ((sR S l 1).getD 0) n = some p) : Le (kr_b2 (f_AL_get S (some l) i) F) (F (some p) S) := fun a ha => by
  cases c : f_AL_get S (some l) i with
  | none => rw [c] at ha; cases ha
  | some q =>
    have z := (p_get _ c).1
    rw [hi, e] at z
    rw [c, z] at ha
    exact ha
/-- ints -/
theorem oi {n : Nat} (h : n < 301) : (Int32.ofNat n).toInt = n := (gl2 n h).1
theorem oc {n : Nat} (h : n < 301) : (Int32.ofNat n).toNatClampNeg = n := (gl2 n h).2
theorem o1 (j : Nat) : Int32.ofNat j + 1 = Int32.ofNat (j + 1) := by rw [Int32.ofNat_add]; rfl
theorem ole {a b : Nat} (ha : a < 301) (hb : b < 301) : Int32.ofNat a ≤ Int32.ofNat b ↔ a ≤ b := by
  rw [Int32.le_iff_toInt_le, oi ha, oi hb]
  omega
theorem oinj {a b : Nat} (ha : a < 301) (hb : b < 301) (h : Int32.ofNat a = Int32.ofNat b) : a = b := by
  have := congrArg Int32.toNatClampNeg h
  rw [oc ha, oc hb] at this
  exact this
theorem one0 : ¬ (1 : Int32) = 0 := by decide
