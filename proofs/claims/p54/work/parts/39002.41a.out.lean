/-! ===== a call's answer on both sides, and the law's wrappers ===== -/
/-- the same answer, or the exception that stands at its place of the throws clause -/
def AN (es : List String) (a : Int32 ⊕ String) (b t : Int32) : Prop := (∃ v, a = .inl v ∧ t = 0 ∧ v = b) ∨ (∃ i e, es[i]? = some e ∧ a = .inr e ∧ t = Int32.ofNat (i + 1))
def eX : String := "java/lang/IndexOutOfBoundsException"
def eA : String := "java/lang/IllegalArgumentException"
def eS : String := "java/lang/IllegalStateException"
theorem AN_v {es : List String} {b t : Int32} (h : t = 0) : AN es (.inl b) b t := Or.inl ⟨b, rfl, h, rfl⟩
theorem AN_e {es : List String} {b t : Int32} {e : String} (i : Nat) (h : es[i]? = some e) (ht : t = Int32.ofNat (i + 1)) : AN es (.inr e) b t := Or.inr ⟨i, e, h, rfl, ht⟩
/-- what the wrapper leaves -/
def WA (P : AS → AS → Prop) (a : Int32 × AS) (b : Int32 × AS) : Prop := sI b.2 57 82 = a.1 ∧ (a.1 = 0 → sJ a.2 126 0 = b.1.toInt64) ∧ P a.2 b.2
def WB (P : AS → AS → Prop) (a : Int32 × AS) (b : Int32 × AS) : Prop := sI b.2 57 82 = a.1 ∧ (a.1 = 0 → sJ a.2 126 0 = if b.1 = 0 then 0 else 1) ∧ P a.2 b.2
theorem l_bJ {α β : Type} {S : AS} {v : Int64} {F : AS → Option α} : Le ((bJ S (some 126) (0 : Int32) v).bind F) (F (wJ S 126 0 v)) := fun _ ha => (bind_cut ha).2
theorem bh_ok {α β γ : Type} {x : Option ((α ⊕ String) × AS)} {G : String → AS → Option β} {F : α → AS → Option β} {y : Option γ} {Q : β → γ → Prop} (hl : ∀ v S', x = some (.inl v, S') → H2 (F v S') y Q) (hr : ∀ e S', x = some (.inr e, S') → H2 (G e S') y Q) : H2 (kr_bh x G F) y Q := fun a b ha hb => by
  match x, ha, hl, hr with
  | some (.inl v, S'), ha, hl, _ => exact hl v S' rfl a b ha hb
  | some (.inr v, S'), ha, _, hr => exact hr v S' rfl a b ha hb
theorem W1 {e1 : String} {S : AS} {x : Option ((Int32 ⊕ String) × AS)} {y : Option (Int32 × AS)} {P : AS → AS → Prop} (h : H2 x y (fun a b => AN [e1] a.1 b.1 (sI b.2 57 82) ∧ P a.2 b.2)) (hP : ∀ S' v m', P S' m' → P (wJ S' 126 0 v) m') :
    H2 ((kr_rv S 22 (some 4)).bind fun _ => kr_bh x (fun E S2 => if E = e1 then some ((1 : Int32), S2) else none) fun v3 S2 => (bJ S2 (some 126) (0 : Int32) v3.toInt64).bind fun S4 => some ((0 : Int32), S4)) y (WA P) := by
  refine l_of st_rv (bh_ok (fun v S' e => ?_) (fun v S' e => ?_))
  · refine l_of (l_bJ (β := Unit)) (fun a b ha hb => ?_)
    cases ha
    obtain ⟨g, p⟩ := h _ _ e hb
    rcases g with ⟨v', q1, q2, q3⟩ | ⟨i, e', q1, q2, q3⟩
    · cases q1
      refine ⟨q2, fun _ => ?_, hP _ _ _ p⟩
      rw [sJ_wJ, q3]
    · cases q2
  · refine fun a b ha hb => ?_
    obtain ⟨g, p⟩ := h _ _ e hb
    rcases g with ⟨v', q1, q2, q3⟩ | ⟨i, e', q1, q2, q3⟩
    · cases q1
    · cases q2
      match i, q1, q3 with
      | 0, q1, q3 =>
        cases q1
        rw [if_pos rfl] at ha
        cases ha
        exact ⟨q3, fun q => absurd (show (1 : Int32) = 0 from q) (by decide), p⟩
      | i + 1, q1, _ => cases q1
theorem W2 {e1 e2 : String} {S : AS} {x : Option ((Int32 ⊕ String) × AS)} {y : Option (Int32 × AS)} {P : AS → AS → Prop} (n12 : e2 ≠ e1) (h : H2 x y (fun a b => AN [e1, e2] a.1 b.1 (sI b.2 57 82) ∧ P a.2 b.2)) (hP : ∀ S' v m', P S' m' → P (wJ S' 126 0 v) m') :
    H2 ((kr_rv S 22 (some 4)).bind fun _ => kr_bh x (fun E S2 => if E = e1 then some ((1 : Int32), S2) else if E = e2 then some ((2 : Int32), S2) else none) fun v3 S2 => (bJ S2 (some 126) (0 : Int32) v3.toInt64).bind fun S4 => some ((0 : Int32), S4)) y (WA P) := by
  refine l_of st_rv (bh_ok (fun v S' e => ?_) (fun v S' e => ?_))
  · refine l_of (l_bJ (β := Unit)) (fun a b ha hb => ?_)
    cases ha
    obtain ⟨g, p⟩ := h _ _ e hb
    rcases g with ⟨v', q1, q2, q3⟩ | ⟨i, e', q1, q2, q3⟩
    · cases q1
      refine ⟨q2, fun _ => ?_, hP _ _ _ p⟩
      rw [sJ_wJ, q3]
    · cases q2
  · refine fun a b ha hb => ?_
    obtain ⟨g, p⟩ := h _ _ e hb
    rcases g with ⟨v', q1, q2, q3⟩ | ⟨i, e', q1, q2, q3⟩
    · cases q1
    · cases q2
      match i, q1, q3 with
      | 0, q1, q3 =>
        cases q1
        rw [if_pos rfl] at ha
        cases ha
        exact ⟨q3, fun q => absurd (show (1 : Int32) = 0 from q) (by decide), p⟩
      | 1, q1, q3 =>
        cases q1
        rw [if_neg n12, if_pos rfl] at ha
        cases ha
        exact ⟨q3, fun q => absurd (show (2 : Int32) = 0 from q) (by decide), p⟩
      | i + 2, q1, _ => cases q1
theorem W3 {e1 e2 e3 : String} {S : AS} {x : Option ((Int32 ⊕ String) × AS)} {y : Option (Int32 × AS)} {P : AS → AS → Prop} (n12 : e2 ≠ e1) (n13 : e3 ≠ e1) (n23 : e3 ≠ e2) (h : H2 x y (fun a b => AN [e1, e2, e3] a.1 b.1 (sI b.2 57 82) ∧ P a.2 b.2)) (hP : ∀ S' v m', P S' m' → P (wJ S' 126 0 v) m') :
    H2 ((kr_rv S 22 (some 4)).bind fun _ => kr_bh x (fun E S2 => if E = e1 then some ((1 : Int32), S2) else if E = e2 then some ((2 : Int32), S2) else if E = e3 then some ((3 : Int32), S2) else none) fun v3 S2 => (bJ S2 (some 126) (0 : Int32) v3.toInt64).bind fun S4 => some ((0 : Int32), S4)) y (WA P) := by
  refine l_of st_rv (bh_ok (fun v S' e => ?_) (fun v S' e => ?_))
  · refine l_of (l_bJ (β := Unit)) (fun a b ha hb => ?_)
    cases ha
    obtain ⟨g, p⟩ := h _ _ e hb
    rcases g with ⟨v', q1, q2, q3⟩ | ⟨i, e', q1, q2, q3⟩
    · cases q1
      refine ⟨q2, fun _ => ?_, hP _ _ _ p⟩
      rw [sJ_wJ, q3]
    · cases q2
  · refine fun a b ha hb => ?_
    obtain ⟨g, p⟩ := h _ _ e hb
    rcases g with ⟨v', q1, q2, q3⟩ | ⟨i, e', q1, q2, q3⟩
    · cases q1
    · cases q2
      match i, q1, q3 with
      | 0, q1, q3 =>
        cases q1
        rw [if_pos rfl] at ha
        cases ha
        exact ⟨q3, fun q => absurd (show (1 : Int32) = 0 from q) (by decide), p⟩
      | 1, q1, q3 =>
        cases q1
        rw [if_neg n12, if_pos rfl] at ha
        cases ha
        exact ⟨q3, fun q => absurd (show (2 : Int32) = 0 from q) (by decide), p⟩
      | 2, q1, q3 =>
        cases q1
        rw [if_neg n13, if_neg n23, if_pos rfl] at ha
        cases ha
        exact ⟨q3, fun q => absurd (show (3 : Int32) = 0 from q) (by decide), p⟩
      | i + 3, q1, _ => cases q1
theorem W1b {e1 : String} {S : AS} {x : Option ((Int32 ⊕ String) × AS)} {y : Option (Int32 × AS)} {P : AS → AS → Prop} {B : AS → Option Nat → Int32 → Int64 → Option (Int32 × AS)} (hB : ∀ S' v, B S' (some 126) 0 v = (bJ S' (some 126) (0 : Int32) v).bind fun S1 => some ((0 : Int32), S1)) (h : H2 x y (fun a b => AN [e1] a.1 b.1 (sI b.2 57 82) ∧ P a.2 b.2)) (hP : ∀ S' v m', P S' m' → P (wJ S' 126 0 v) m') :
    H2 ((kr_rv S 22 (some 4)).bind fun _ => kr_bh x (fun E S2 => if E = e1 then some ((1 : Int32), S2) else none) fun v4 S3 => if v4 = 0 then B S3 (some 126) (0 : Int32) (0 : Int64) else B S3 (some 126) (0 : Int32) (1 : Int64)) y (WB P) := by
  refine l_of st_rv (bh_ok (fun v S' e => ?_) (fun v S' e => ?_))
  · have fin : ∀ w : Int64, (w = if v = 0 then 0 else 1) → H2 (B S' (some 126) 0 w) y (WB P) := fun w hw => by
      rw [hB]
      refine l_of (l_bJ (β := Unit)) (fun a b ha hb => ?_)
      cases ha
      obtain ⟨g, p⟩ := h _ _ e hb
      rcases g with ⟨v', q1, q2, q3⟩ | ⟨i, e', q1, q2, q3⟩
      · cases q1
        refine ⟨q2, fun _ => ?_, hP _ _ _ p⟩
        rw [sJ_wJ, ← q3]
        exact hw
      · cases q2
    refine l_if (fun c => fin 0 (by rw [if_pos c])) (fun c => fin 1 (by rw [if_neg c]))
  · refine fun a b ha hb => ?_
    obtain ⟨g, p⟩ := h _ _ e hb
    rcases g with ⟨v', q1, q2, q3⟩ | ⟨i, e', q1, q2, q3⟩
    · cases q1
    · cases q2
      match i, q1, q3 with
      | 0, q1, q3 =>
        cases q1
        rw [if_pos rfl] at ha
        cases ha
        exact ⟨q3, fun q => absurd (show (1 : Int32) = 0 from q) (by decide), p⟩
      | i + 1, q1, _ => cases q1
/-- what is asked, refused or not: the class -/
theorem q_win (S : AS) (a lo hi : Int32) : f_K_isWithin S a lo hi = some (if lo ≤ a ∧ a ≤ hi then 1 else 0, S) := by
  unfold f_K_isWithin
  by_cases c1 : a < lo
  · rw [if_pos c1, if_neg (fun q => absurd q.1 (Int32.not_le.mpr c1))]
  · by_cases c2 : hi < a
    · rw [if_neg c1, if_pos c2, if_neg (fun q => absurd q.2 (Int32.not_le.mpr c2))]
    · rw [if_neg c1, if_neg c2, if_pos ⟨Int32.not_lt.mp c1, Int32.not_lt.mp c2⟩]
theorem q_isIn (S : AS) (a lo hi : Int32) : f_M_isIn S a lo hi = some (if lo ≤ a ∧ a ≤ hi then 1 else 0, S) := by
  unfold f_M_isIn
  by_cases c1 : a < lo
  · rw [if_pos c1, if_neg (fun q => absurd q.1 (Int32.not_le.mpr c1))]
  · by_cases c2 : hi < a
    · rw [if_neg c1, if_pos c2, if_neg (fun q => absurd q.2 (Int32.not_le.mpr c2))]
    · rw [if_neg c1, if_neg c2, if_pos ⟨Int32.not_lt.mp c1, Int32.not_lt.mp c2⟩]
def b01 (c : Prop) [Decidable c] : Int32 := if c then 1 else 0
theorem b01_T {c : Prop} [Decidable c] (h : c) : b01 c = 1 := if_pos h
theorem b01_F {c : Prop} [Decidable c] (h : ¬ c) : b01 c = 0 := if_neg h
theorem q_six (S : AS) (a : Int32) : f_M_isSix S a = some (if 0 ≤ a ∧ a ≤ 5 then 1 else 0, S) := by
  unfold f_M_isSix
  rw [q_isIn, b2_s]
  by_cases c : 0 ≤ a ∧ a ≤ 5
  · rw [if_pos c]; rfl
  · rw [if_neg c]; rfl
theorem q_fac (S : AS) (a : Int32) : f_M_isFactor S a = some (if 0 ≤ a ∧ a ≤ 2 then 1 else 0, S) := by
  unfold f_M_isFactor
  rw [q_isIn, b2_s]
  by_cases c : 0 ≤ a ∧ a ≤ 2
  · rw [if_pos c]; rfl
  · rw [if_neg c]; rfl
theorem q_ser (S : AS) (a : Int32) : f_M_isService S a = some (if 0 ≤ a ∧ a ≤ 3 then 1 else 0, S) := by
  unfold f_M_isService
  rw [q_isIn, b2_s]
  by_cases c : 0 ≤ a ∧ a ≤ 3
  · rw [if_pos c]; rfl
  · rw [if_neg c]; rfl
theorem q_Kfac (S : AS) (a : Int32) : f_K_isFactor S a = some (if 0 ≤ a ∧ a ≤ 2 then 1 else 0, S) := by
  unfold f_K_isFactor
  rw [q_win, b2_s]
  by_cases c : 0 ≤ a ∧ a ≤ 2
  · rw [if_pos c]; rfl
  · rw [if_neg c]; rfl
theorem p_may {m : AS} {a : Int32} : Hp (f_M_may m (some 57) a) (fun q => q = (a, wI m 57 82 (if a = 0 then 1 else 0))) := by
  unfold f_M_may
  refine p_if (fun c => ?_) (fun c => ?_)
  · rw [if_pos c]
    first
      | exact p_of st_pI (p_of st_z (p_ret rfl))
      | exact p_of st_pI (p_ret rfl)
      | (unfold f_M_may_B10; exact p_of st_pI (p_of st_z (p_ret rfl)))
  · rw [if_neg c]
    first
      | exact p_of st_pI (p_of st_z (p_ret rfl))
      | exact p_of st_pI (p_ret rfl)
      | (unfold f_M_may_B10; exact p_of st_pI (p_of st_z (p_ret rfl)))
theorem p_mayB {m : AS} {a b : Int32} : Hp (f_M_mayBoth m (some 57) a b) (fun q => q = if a = 0 then (0, wI m 57 82 1) else if b = 0 then (0, wI m 57 82 2) else (1, wI m 57 82 0)) := by
  unfold f_M_mayBoth
  have go : ∀ v : Int32, Hp (f_M_mayBoth_B18 m (some 57) (some 57) v) (fun q => q = (if v = 0 then 1 else 0, wI m 57 82 v)) := fun v => by
    unfold f_M_mayBoth_B18
    refine p_of st_pI (p_of (st_gIe (ti_sI_eq _ _ _ _)) (p_if (fun c => p_ret ?_) (fun c => p_ret ?_)))
    · rw [if_pos c]
    · rw [if_neg c]
  refine p_if (fun c => ?_) (fun c => p_if (fun d => ?_) (fun d => ?_))
  · rw [if_pos c]; exact go 1
  · rw [if_neg c, if_pos d]; exact go 2
  · rw [if_neg c, if_neg d]; exact go 0
