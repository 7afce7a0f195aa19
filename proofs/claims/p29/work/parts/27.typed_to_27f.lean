section
/-! ===== types of places: the kind, the length, what a field refers to, the range of its ints, where the only one lies ===== -/
def kr_kdT : List Nat := [0, 22, 12, 40, 40, 44, 40, 40, 40, 45, 15, 40, 40, 16, 40, 40, 40, 18, 0, 0, 10, 10, 10, 10, 10, 10, 10, 0, 0, 0, 43, 43, 43, 43, 43, 43, 43, 0, 0, 0, 13, 40, 11, 19, 14, 21, 17, 20, 40, 0, 42, 40, 2, 0, 0, 0, 0, 0, 0, 0, 0, 0, 0, 0, 0, 0, 0, 0, 0, 0, 0, 0, 0, 0, 0, 0, 0, 0, 0, 0, 0, 0, 0, 0, 0, 0, 0, 0, 0, 0, 0, 0, 0, 0, 0, 0, 0, 0, 0, 0, 23, 40, 40, 40, 40, 41, 41, 41, 41, 0, 40, 40, 40, 40, 40, 40, 41, 40, 40, 0, 40, 40, 40, 40, 40, 40, 40, 40, 40, 40, 0, 40, 40, 40, 40, 41, 40, 40, 40, 0, 40, 40, 40, 40, 40, 40, 0, 40, 40, 40, 40, 41, 0, 40, 40, 40, 40, 40, 40, 40, 0, 0, 0, 0, 41, 40, 41, 40, 40, 41, 0, 40, 40, 41, 40, 40, 40, 0, 40, 40, 40, 0, 0, 0, 0]
def kd (τ : Nat) : Nat := kr_kdT.getD τ 0
def kr_lnT : List (Option Nat) := [none, none, none, some 1024, some 1024, some 6, some 3, some 3, some 4, some 4, none, some 20, some 6, none, some 3, some 3, some 4, none, none, none, none, none, none, none, none, none, none, none, none, none, none, none, none, none, none, none, none, none, none, none, none, some 12, none, none, none, none, none, none, some 3, none, some 1, some 12, some 3, none, none, none, none, none, none, none, none, none, none, none, none, none, none, none, none, none, none, none, none, none, none, none, none, none, none, none, none, none, none, none, none, none, none, none, none, none, none, none, none, none, none, none, none, none, none, none, none, some 18, some 18, some 6, some 18, some 36, some 36, some 6, some 6, none, some 9, some 108, some 108, some 108, some 108, some 108, some 96, some 3, some 3, none, some 60, some 60, some 60, some 60, some 60, some 60, some 60, some 60, some 60, some 180, none, some 60, some 60, some 60, some 60, some 60, some 180, some 28, some 4, none, some 60, some 60, some 60, some 60, some 60, some 60, none, some 60, some 60, some 60, some 60, some 60, none, some 200, some 200, some 200, some 200, some 200, some 200, some 200, none, none, none, none, some 20, some 20, some 4, some 4, some 4, some 240, none, some 20, some 20, some 20, some 20, some 20, some 6, none, some 1200, some 1200, some 1200, none, none, none, none]
def ln (τ : Nat) : Option Nat := kr_lnT.getD τ none
def kr_sgT : List (Option Nat) := [none, some 4, some 5, some 6, some 7, some 8, some 9, some 10, some 20, some 21, some 25, some 26, some 28, none, none, none, none, none, none, none, some 17, some 18, some 19, some 22, some 23, some 24, some 27, none, none, none, none, none, none, none, none, none, none, none, none, none, none, none, none, none, none, none, none, none, none, none, some 126, none, none, none, none, none, none, none, none, none, none, none, none, none, none, none, none, none, none, none, none, none, none, none, none, none, none, none, none, none, none, none, none, none, none, none, none, none, none, none, none, none, none, none, none, none, none, none, none, none, some 57, some 58, some 59, some 60, some 61, some 62, some 63, some 64, some 65, none, some 66, some 67, some 68, some 69, some 70, some 71, some 72, some 73, some 74, none, some 75, some 76, some 77, some 78, some 79, some 80, some 81, some 82, some 83, some 84, none, some 85, some 86, some 87, some 88, some 89, some 90, some 91, some 92, none, some 93, some 94, some 95, some 96, some 97, some 98, none, some 99, some 100, some 101, some 102, some 103, none, some 104, some 105, some 106, some 107, some 108, some 109, some 110, none, none, none, none, some 111, some 112, some 113, some 114, some 115, some 116, none, some 117, some 118, some 119, some 120, some 121, some 122, none, some 123, some 124, some 125, none, none, none, none]
def sg (τ : Nat) : Option Nat := kr_sgT.getD τ none
def kr_ftT : List (List (Option Nat)) := [[], [none, some 2, some 5, some 6, some 7, some 40, some 20, some 21, some 22, none, some 8, some 9, some 23, some 24, some 25, some 10, some 26, some 12], [some 3, some 4], [], [], [some 13, some 13, some 13, some 13, some 13, some 13], [], [], [], [some 17, some 17, some 17, some 17], [none, none, none, none, none, some 11], [], [], [none, some 14, some 15, none, none, none, none, none, none, some 16], [], [], [], [], [], [], [], [], [], [], [], [], [], [], [], [], [], [], [], [], [], [], [], [], [], [], [some 41, some 41, some 41, some 41, some 41], [], [some 13, none, none, some 40, some 47], [none, some 13, none, some 47], [some 43], [some 44], [some 13], [some 48], [], [], [], [], [], [], [], [], [], [], [], [], [], [], [], [], [], [], [], [], [], [], [], [], [], [], [], [], [], [], [], [], [], [], [], [], [], [], [], [], [], [], [], [], [], [], [], [], [], [], [], [], [none, some 101, some 102, some 103, some 104, some 105, some 106, some 107, some 108, none, some 110, some 111, some 112, some 113, some 114, some 115, some 116, some 117, some 118, none, some 120, some 121, some 122, some 123, some 124, some 125, some 126, some 127, some 128, some 129, none, some 131, some 132, some 133, some 134, some 135, some 136, some 137, some 138, none, some 140, some 141, some 142, some 143, some 144, some 145, none, some 147, some 148, some 149, some 150, some 151, none, some 153, some 154, some 155, some 156, some 157, some 158, some 159, none, none, none, none, some 164, some 165, some 166, some 167, some 168, some 169, none, some 171, some 172, some 173, some 174, some 175, some 176, none, some 178, some 179, some 180], [], [], [], [], [], [], [], [], [], [], [], [], [], [], [], [], [], [], [], [], [], [], [], [], [], [], [], [], [], [], [], [], [], [], [], [], [], [], [], [], [], [], [], [], [], [], [], [], [], [], [], [], [], [], [], [], [], [], [], [], [], [], [], [], [], [], [], [], [], [], [], [], [], [], [], [], [], [], [], [], [], [], [], []]
def ft (τ j : Nat) : Option Nat := (kr_ftT.getD τ []).getD j none
def kr_fnT : List (List (Option Nat)) := [[], [], [], [], [], [], [], [], [], [], [], [], [], [], [], [], [], [], [], [], [], [], [], [], [], [], [], [], [], [], [], [], [], [], [], [], [], [], [], [], [], [], [], [none, none, some 43], [], [], [], [], [], [], [], [], [], [], [], [], [], [], [], [], [], [], [], [], [], [], [], [], [], [], [], [], [], [], [], [], [], [], [], [], [], [], [], [], [], [], [], [], [], [], [], [], [], [], [], [], [], [], [], [], [], [], [], [], [], [], [], [], [], [], [], [], [], [], [], [], [], [], [], [], [], [], [], [], [], [], [], [], [], [], [], [], [], [], [], [], [], [], [], [], [], [], [], [], [], [], [], [], [], [], [], [], [], [], [], [], [], [], [], [], [], [], [], [], [], [], [], [], [], [], [], [], [], [], [], [], [], [], [], [], [], [], [], [], []]
def fn (τ j : Nat) : Option Nat := (kr_fnT.getD τ []).getD j none
def kr_rfT : List (List (Option (Int × Int))) := [[], [], [none, none, some (0, 1024)], [], [], [], [], [], [], [], [], [], [], [none, none, none, none, none, none, none, none, none, none, some (0, 1), some (0, 1)], [], [], [], [none, some (0, 1)], [], [], [none, none, some (0, 8)], [none, none, some (0, 60)], [none, none, some (0, 60)], [none, none, some (0, 60)], [none, none, some (0, 200)], [none, none, some (0, 200)], [none, none, some (0, 20)], [], [], [], [], [], [], [], [], [], [], [], [], [], [none, none, none, none, none, some (0, 12)], [], [], [none, none, none, none, none, none, some (0, 1)], [none, none, none, none, none, none, some (0, 1)], [], [none, none, some (0, 1)], [], [], [], [], [], [], [], [], [], [], [], [], [], [], [], [], [], [], [], [], [], [], [], [], [], [], [], [], [], [], [], [], [], [], [], [], [], [], [], [], [], [], [], [], [], [], [], [], [], [], [], [], [], [none, none, none, none, none, none, none, none, none, some (0, 8), none, none, none, none, none, none, none, none, none, some (0, 60), none, none, none, none, none, none, none, none, none, none, some (0, 60), none, none, none, none, none, none, none, none, some (0, 60), none, none, none, none, none, none, some (0, 60), none, none, none, none, none, some (0, 200), none, none, none, none, none, none, none, some (1, 20), some (0, 19), some (-1, 19), none, none, none, none, none, none, none, some (0, 20), none, none, none, none, none, none, some (0, 1200)], [], [], [], [], [], [], [], [], [], [], [], [], [], [], [], [], [], [], [], [], [], [], [], [], [], [], [], [], [], [], [], [], [], [], [], [], [], [], [], [], [], [], [], [], [], [], [], [], [], [], [], [], [], [], [], [], [], [], [], [], [], [], [], [], [], [], [], [], [], [], [], [], [], [], [], [], [], [], [], [], [], [], [], []]
def rf (τ j : Nat) : Option (Int × Int) := (kr_rfT.getD τ []).getD j none
def kr_raT : List (Option (Nat × Int × Int)) := [none, none, none, none, none, none, none, none, none, none, none, none, none, none, none, none, none, none, none, none, none, none, none, none, none, none, none, none, none, none, none, none, none, none, none, none, none, none, none, none, none, none, none, none, none, none, none, none, none, none, none, none, none, none, none, none, none, none, none, none, none, none, none, none, none, none, none, none, none, none, none, none, none, none, none, none, none, none, none, none, none, none, none, none, none, none, none, none, none, none, none, none, none, none, none, none, none, none, none, none, none, some (18, 0, 2), none, none, none, some (36, 0, 1), some (36, 0, 1), some (6, 0, 1), some (6, 0, 1), none, some (9, 0, 12), some (108, 0, 6), some (108, 0, 20), none, none, none, some (96, 0, 1), none, none, none, some (60, 0, 5), some (60, 0, 5), some (60, 0, 5), some (60, 0, 7), some (60, -1, 11), some (60, 0, 2), none, none, some (60, -1, 59), none, none, some (60, 0, 5), none, none, some (60, -1, 59), some (60, 0, 1), none, none, none, none, some (60, 0, 59), some (60, 0, 3), some (60, 0, 3), none, none, some (60, -1, 59), none, some (60, 0, 59), none, none, none, some (60, 0, 1), none, some (200, 0, 3), some (200, 0, 3), none, none, some (200, 0, 59), some (200, 0, 19), none, none, none, none, none, some (20, 0, 1), none, some (4, 0, 1), none, none, some (240, 0, 1), none, some (20, 0, 5), none, some (20, 0, 1), none, none, some (6, -1, 5), none, none, none, none, none, none, none, none]
def ra (τ : Nat) : Option (Nat × Int × Int) := kr_raT.getD τ none
def lp (q : Nat) : Nat := [17, 18, 19, 22, 23, 24, 27].getD q 0
def el (q : Nat) : Nat := [40, 42, 43, 44, 44, 45, 46].getD q 0
abbrev In (lo hi : Int) (v : Int32) : Prop := lo ≤ v.toInt ∧ v.toInt ≤ hi
def Tx (T : Nat → Nat) (τ : Nat) (x : Option Nat) : Prop := ∃ k, x = some k ∧ T k = τ ∧ τ ≠ 0
/-- a list: its row, its size, its elements -/
def LO (T : Nat → Nat) (S : AS) (q : Nat) : Prop := T (lp q) = 20 + q ∧ ∃ d, sR S (lp q) 1 = some d ∧ (T d = 30 + q ∨ d = 0) ∧ (sI S (lp q) 2).toInt ≤ (sL S d : Int) ∧ sL S d ≤ 400 ∧ ∀ i : Nat, (i : Int) < (sI S (lp q) 2).toInt → Tx T (el q) (sR S d i)
def TI (T : Nat → Nat) (S : AS) : Prop :=
  (∀ k, T k ≠ 0 → k < sN S ∧ sK S k = kd (T k) ∧ kd (T k) ≠ 0 ∧ (∀ n, ln (T k) = some n → sL S k = n)) ∧
  (∀ k j τ, ft (T k) j = some τ → Tx T τ (sR S k j)) ∧
  (∀ k j τ, fn (T k) j = some τ → sR S k j = none ∨ Tx T τ (sR S k j)) ∧
  (∀ k j lo hi, rf (T k) j = some (lo, hi) → In lo hi (sI S k j)) ∧
  (∀ k j n lo hi, ra (T k) = some (n, lo, hi) → j < n → In lo hi (sI S k j)) ∧
  (∀ q, q < 7 → LO T S q) ∧
  (∀ k p, sg (T k) = some p → k = p) ∧
  (4 ≤ sN S ∧ sK S 0 = 1 ∧ sK S 1 = 2 ∧ sK S 2 = 3 ∧ sK S 3 = 4 ∧ sL S 0 = 0 ∧ sL S 1 = 3) ∧
  (T 57 = 100 ∧ T 89 = 135 ∧ T 103 = 151 ∧ T 98 = 145 ∧ T 4 = 1 ∧ T 126 = 50)
theorem TI.t1 {T : Nat → Nat} {S : AS} (h : TI T S) : ∀ k, T k ≠ 0 → k < sN S ∧ sK S k = kd (T k) ∧ kd (T k) ≠ 0 ∧ (∀ n, ln (T k) = some n → sL S k = n) := h.1
theorem TI.t2 {T : Nat → Nat} {S : AS} (h : TI T S) : ∀ k j τ, ft (T k) j = some τ → Tx T τ (sR S k j) := h.2.1
theorem TI.t3 {T : Nat → Nat} {S : AS} (h : TI T S) : ∀ k j τ, fn (T k) j = some τ → sR S k j = none ∨ Tx T τ (sR S k j) := h.2.2.1
theorem TI.t4 {T : Nat → Nat} {S : AS} (h : TI T S) : ∀ k j lo hi, rf (T k) j = some (lo, hi) → In lo hi (sI S k j) := h.2.2.2.1
theorem TI.t5 {T : Nat → Nat} {S : AS} (h : TI T S) : ∀ k j n lo hi, ra (T k) = some (n, lo, hi) → j < n → In lo hi (sI S k j) := h.2.2.2.2.1
theorem TI.t6 {T : Nat → Nat} {S : AS} (h : TI T S) : ∀ q, q < 7 → LO T S q := h.2.2.2.2.2.1
theorem TI.t7 {T : Nat → Nat} {S : AS} (h : TI T S) : ∀ k p, sg (T k) = some p → k = p := h.2.2.2.2.2.2.1
theorem TI.t8 {T : Nat → Nat} {S : AS} (h : TI T S) : 4 ≤ sN S ∧ sK S 0 = 1 ∧ sK S 1 = 2 ∧ sK S 2 = 3 ∧ sK S 3 = 4 ∧ sL S 0 = 0 ∧ sL S 1 = 3 := h.2.2.2.2.2.2.2.1
theorem TI.t9 {T : Nat → Nat} {S : AS} (h : TI T S) : T 57 = 100 ∧ T 89 = 135 ∧ T 103 = 151 ∧ T 98 = 145 ∧ T 4 = 1 ∧ T 126 = 50 := h.2.2.2.2.2.2.2.2
theorem ti_sI_ne {S : AS} {k j a b : Nat} {v : Int32} (h : ¬ (a = k ∧ b = j)) : sI (wI S k j v) a b = sI S a b := by
  show (if a = k ∧ b = j then v else sI S a b) = _
  rw [if_neg h]
theorem ti_sI_eq (S : AS) (k j : Nat) (v : Int32) : sI (wI S k j v) k j = v := by
  show (if k = k ∧ j = j then v else sI S k j) = v
  rw [if_pos ⟨rfl, rfl⟩]
theorem ti_sR_ne {S : AS} {k j a b : Nat} {v : Option Nat} (h : ¬ (a = k ∧ b = j)) : sR (wR S k j v) a b = sR S a b := by
  show (if a = k ∧ b = j then v else sR S a b) = _
  rw [if_neg h]
theorem ti_sR_eq (S : AS) (k j : Nat) (v : Option Nat) : sR (wR S k j v) k j = v := by
  show (if k = k ∧ j = j then v else sR S k j) = v
  rw [if_pos ⟨rfl, rfl⟩]
theorem TIwI {T : Nat → Nat} {S : AS} {τ k j : Nat} {v : Int32} (h : TI T S) (hk : T k = τ) (h1 : ∀ lo hi, rf τ j = some (lo, hi) → In lo hi v) (h2 : ∀ n lo hi, ra τ = some (n, lo, hi) → In lo hi v) (h3 : ¬ (20 ≤ τ ∧ τ < 27 ∧ j = 2)) : TI T (wI S k j v) := by
  refine ⟨h.t1, h.t2, h.t3, ?_, ?_, ?_, h.t7, h.t8, h.t9⟩
  · intro a b lo hi e
    by_cases c : a = k ∧ b = j
    · obtain ⟨rfl, rfl⟩ := c
      rw [ti_sI_eq]
      exact h1 lo hi (by rw [← hk]; exact e)
    · rw [ti_sI_ne c]
      exact h.t4 a b lo hi e
  · intro a b n lo hi e hb
    by_cases c : a = k ∧ b = j
    · obtain ⟨rfl, rfl⟩ := c
      rw [ti_sI_eq]
      exact h2 n lo hi (by rw [← hk]; exact e)
    · rw [ti_sI_ne c]
      exact h.t5 a b n lo hi e hb
  · intro q hq
    obtain ⟨l1, d, l2, l3, l4, l5, l6⟩ := h.t6 q hq
    have c : ¬ (lp q = k ∧ 2 = j) := by
      rintro ⟨c1, c2⟩
      subst c1
      rw [l1] at hk
      exact h3 (by omega)
    refine ⟨l1, d, l2, l3, ?_, l5, ?_⟩
    · rw [ti_sI_ne c]; exact l4
    · rw [ti_sI_ne c]; exact l6
theorem TIwR {T : Nat → Nat} {S : AS} {τ k j : Nat} {v : Option Nat} (h : TI T S) (hk : T k = τ) (h1 : ∀ τ', ft τ j = some τ' → Tx T τ' v) (h2 : ∀ τ', fn τ j = some τ' → v = none ∨ Tx T τ' v) (h3 : ¬ (20 ≤ τ ∧ τ < 27)) (h4 : ¬ (30 ≤ τ ∧ τ < 37)) (h5 : k ≠ 0) : TI T (wR S k j v) := by
  refine ⟨h.t1, ?_, ?_, h.t4, h.t5, ?_, h.t7, h.t8, h.t9⟩
  · intro a b τ' e
    by_cases c : a = k ∧ b = j
    · obtain ⟨rfl, rfl⟩ := c
      rw [ti_sR_eq]
      exact h1 τ' (by rw [← hk]; exact e)
    · rw [ti_sR_ne c]
      exact h.t2 a b τ' e
  · intro a b τ' e
    by_cases c : a = k ∧ b = j
    · obtain ⟨rfl, rfl⟩ := c
      rw [ti_sR_eq]
      exact h2 τ' (by rw [← hk]; exact e)
    · rw [ti_sR_ne c]
      exact h.t3 a b τ' e
  · intro q hq
    obtain ⟨l1, d, l2, l3, l4, l5, l6⟩ := h.t6 q hq
    have c : ¬ (lp q = k ∧ 1 = j) := by
      rintro ⟨c1, c2⟩
      subst c1
      rw [l1] at hk
      exact h3 (by omega)
    have c' : d ≠ k := by
      rintro rfl
      rcases l3 with l3 | l3
      · rw [l3] at hk
        exact h4 (by omega)
      · exact h5 l3
    refine ⟨l1, d, ?_, l3, l4, l5, ?_⟩
    · rw [ti_sR_ne c]; exact l2
    · intro i hi
      rw [ti_sR_ne (fun q => c' q.1)]
      exact l6 i hi
theorem TIfresh {T : Nat → Nat} {S : AS} (h : TI T S) {k : Nat} (hk : sN S ≤ k) : T k = 0 := by
  by_cases c : T k = 0
  · exact c
  · exact absurd (h.t1 k c).1 (by omega)
theorem ti_wN {S : AS} {κ l s k : Nat} (hk : k ≠ sN S) : sK (wN S κ l s) k = sK S k ∧ sL (wN S κ l s) k = sL S k ∧ sI (wN S κ l s) k = sI S k ∧ sR (wN S κ l s) k = sR S k ∧ sJ (wN S κ l s) k = sJ S k := ⟨if_neg hk, if_neg hk, if_neg hk, if_neg hk, if_neg hk⟩
theorem ti_wN0 (S : AS) (κ l s : Nat) : sK (wN S κ l s) (sN S) = κ ∧ sL (wN S κ l s) (sN S) = l ∧ sI (wN S κ l s) (sN S) = (fun _ => 0) ∧ sR (wN S κ l s) (sN S) = (fun _ => none) := ⟨if_pos rfl, if_pos rfl, if_pos rfl, if_pos rfl⟩
theorem ft0 (j : Nat) : ft 0 j = none := rfl
theorem fn0 (j : Nat) : fn 0 j = none := rfl
theorem rf0 (j : Nat) : rf 0 j = none := rfl
theorem ra0 : ra 0 = none := rfl
theorem sg0 : sg 0 = none := rfl
theorem TIwN {T : Nat → Nat} {S : AS} {κ l s : Nat} (h : TI T S) : TI T (wN S κ l s) := by
  have hf : T (sN S) = 0 := TIfresh h (Nat.le_refl _)
  have h8 := h.t8
  have hne : ∀ {k : Nat}, T k ≠ 0 → k ≠ sN S := fun hk e => hk (by rw [e]; exact hf)
  refine ⟨?_, ?_, ?_, ?_, ?_, ?_, h.t7, ?_, h.t9⟩
  · intro k hk
    obtain ⟨a1, a2, a3, a4⟩ := h.t1 k hk
    have e := ti_wN (S := S) (κ := κ) (l := l) (s := s) (hne hk)
    exact ⟨Nat.lt_succ_of_lt a1, by rw [e.1]; exact a2, a3, fun n q => by rw [e.2.1]; exact a4 n q⟩
  · intro k j τ e
    have hk : T k ≠ 0 := fun q => by rw [q, ft0] at e; cases e
    rw [(ti_wN (S := S) (κ := κ) (l := l) (s := s) (hne hk)).2.2.2.1]
    exact h.t2 k j τ e
  · intro k j τ e
    have hk : T k ≠ 0 := fun q => by rw [q, fn0] at e; cases e
    rw [(ti_wN (S := S) (κ := κ) (l := l) (s := s) (hne hk)).2.2.2.1]
    exact h.t3 k j τ e
  · intro k j lo hi e
    have hk : T k ≠ 0 := fun q => by rw [q, rf0] at e; cases e
    rw [(ti_wN (S := S) (κ := κ) (l := l) (s := s) (hne hk)).2.2.1]
    exact h.t4 k j lo hi e
  · intro k j n lo hi e hj
    have hk : T k ≠ 0 := fun q => by rw [q, ra0] at e; cases e
    rw [(ti_wN (S := S) (κ := κ) (l := l) (s := s) (hne hk)).2.2.1]
    exact h.t5 k j n lo hi e hj
  · intro q hq
    obtain ⟨l1, d, l2, l3, l4, l5, l6⟩ := h.t6 q hq
    have hp : lp q ≠ sN S := hne (by rw [l1]; omega)
    have hd : d ≠ sN S := by
      rcases l3 with l3 | l3
      · exact hne (by rw [l3]; omega)
      · omega
    obtain ⟨p1, p2, p3, p4, p5⟩ := ti_wN (S := S) (κ := κ) (l := l) (s := s) hp
    obtain ⟨d1, d2, d3, d4, d5⟩ := ti_wN (S := S) (κ := κ) (l := l) (s := s) hd
    refine ⟨l1, d, by rw [p4]; exact l2, l3, by rw [p3, d2]; exact l4, by rw [d2]; exact l5, fun i hi => by rw [d4]; rw [p3] at hi; exact l6 i hi⟩
  · obtain ⟨b0, b1, b2, b3, b4, b5, b6⟩ := h8
    have e : ∀ k, k < 4 → sK (wN S κ l s) k = sK S k ∧ sL (wN S κ l s) k = sL S k := fun k hk => by
      have := ti_wN (S := S) (κ := κ) (l := l) (s := s) (k := k) (by omega)
      exact ⟨this.1, this.2.1⟩
    exact ⟨Nat.le_succ_of_le b0, by rw [(e 0 (by omega)).1]; exact b1, by rw [(e 1 (by omega)).1]; exact b2, by rw [(e 2 (by omega)).1]; exact b3, by rw [(e 3 (by omega)).1]; exact b4, by rw [(e 0 (by omega)).2]; exact b5, by rw [(e 1 (by omega)).2]; exact b6⟩

theorem Tx.ne {T : Nat → Nat} {τ : Nat} {x : Option Nat} (h : Tx T τ x) : ¬ x = none := by
  obtain ⟨k, rfl, -⟩ := h
  exact fun q => nomatch q
theorem Tx.up {T T' : Nat → Nat} {τ : Nat} {x : Option Nat} (h : Tx T τ x) (e : ∀ k, T k ≠ 0 → T' k = T k) : Tx T' τ x := by
  obtain ⟨k, h1, h2, h3⟩ := h
  exact ⟨k, h1, by rw [e k (by rw [h2]; exact h3)]; exact h2, h3⟩
/-- a place gets its type -/
theorem TIpr {T : Nat → Nat} {S : AS} {τ k : Nat} (h : TI T S) (h0 : T k = 0) (hk : k < sN S) (hK : sK S k = kd τ) (hne : kd τ ≠ 0) (hl : ∀ n, ln τ = some n → sL S k = n)
    (h1 : ∀ j τ', ft τ j = some τ' → Tx T τ' (sR S k j)) (h2 : ∀ j τ', fn τ j = some τ' → sR S k j = none ∨ Tx T τ' (sR S k j))
    (h3 : ∀ j lo hi, rf τ j = some (lo, hi) → In lo hi (sI S k j)) (h4 : ∀ j n lo hi, ra τ = some (n, lo, hi) → j < n → In lo hi (sI S k j)) (h5 : sg τ = none) : TI (kr_w T k τ) S := by
  have e : ∀ a, T a ≠ 0 → kr_w T k τ a = T a := fun a ha => if_neg (fun q => ha (by rw [q]; exact h0))
  have ek : kr_w T k τ k = τ := if_pos rfl
  have en : ∀ a, a ≠ k → kr_w T k τ a = T a := fun a ha => if_neg ha
  refine ⟨?_, ?_, ?_, ?_, ?_, ?_, ?_, h.t8, by
    obtain ⟨z1, z2, z3, z6, z4, z5⟩ := h.t9
    exact ⟨(e _ (by rw [z1]; decide)).trans z1, (e _ (by rw [z2]; decide)).trans z2, (e _ (by rw [z3]; decide)).trans z3, (e _ (by rw [z6]; decide)).trans z6, (e _ (by rw [z4]; decide)).trans z4, (e _ (by rw [z5]; decide)).trans z5⟩⟩
  · intro a ha
    by_cases c : a = k
    · subst c
      rw [ek]
      exact ⟨hk, hK, hne, hl⟩
    · rw [en a c] at ha ⊢
      exact h.t1 a ha
  · intro a j τ' q
    by_cases c : a = k
    · subst c
      rw [ek] at q
      exact (h1 j τ' q).up e
    · rw [en a c] at q
      exact (h.t2 a j τ' q).up e
  · intro a j τ' q
    by_cases c : a = k
    · subst c
      rw [ek] at q
      exact (h2 j τ' q).imp id (fun z => z.up e)
    · rw [en a c] at q
      exact (h.t3 a j τ' q).imp id (fun z => z.up e)
  · intro a j lo hi q
    by_cases c : a = k
    · subst c
      rw [ek] at q
      exact h3 j lo hi q
    · rw [en a c] at q
      exact h.t4 a j lo hi q
  · intro a j n lo hi q hj
    by_cases c : a = k
    · subst c
      rw [ek] at q
      exact h4 j n lo hi q hj
    · rw [en a c] at q
      exact h.t5 a j n lo hi q hj
  · intro q hq
    obtain ⟨l1, d, l2, l3, l4, l5, l6⟩ := h.t6 q hq
    refine ⟨by rw [e _ (by rw [l1]; omega)]; exact l1, d, l2, ?_, l4, l5, fun i hi => (l6 i hi).up e⟩
    rcases l3 with l3 | l3
    · exact Or.inl (by rw [e _ (by rw [l3]; omega)]; exact l3)
    · exact Or.inr l3
  · intro a p q
    by_cases c : a = k
    · subst c
      rw [ek, h5] at q
      cases q
    · rw [en a c] at q
      exact h.t7 a p q
/-! ===== what bounds the entries of the reference ===== -/
def cnt (f : Nat → Int32) : Nat → Nat
  | 0 => 0
  | n + 1 => cnt f n + (if f n = 1 then 1 else 0)
theorem cnt_eq {f g : Nat → Int32} : ∀ {n : Nat}, (∀ j, j < n → f j = g j) → cnt f n = cnt g n
  | 0, _ => rfl
  | n + 1, h => by
    show cnt f n + _ = cnt g n + _
    rw [cnt_eq (n := n) (fun j hj => h j (by omega)), h n (by omega)]
theorem cnt_le (f : Nat → Int32) : ∀ n, cnt f n ≤ n
  | 0 => Nat.le_refl _
  | n + 1 => by
    have := cnt_le f n
    show cnt f n + (if f n = 1 then 1 else 0) ≤ n + 1
    split <;> omega
theorem cnt_one {f g : Nat → Int32} {i : Nat} (h : ∀ j, j ≠ i → f j = g j) : ∀ {n : Nat}, i < n → cnt f n + (if g i = 1 then 1 else 0) = cnt g n + (if f i = 1 then 1 else 0)
  | 0, hi => absurd hi (Nat.not_lt_zero _)
  | n + 1, hi => by
    show cnt f n + (if f n = 1 then 1 else 0) + _ = cnt g n + (if g n = 1 then 1 else 0) + _
    by_cases c : i = n
    · subst c
      rw [cnt_eq (f := f) (g := g) (fun j hj => h j (by omega))]
      omega
    · have := cnt_one h (n := n) (by omega)
      rw [h n (fun q => c q.symm)]
      omega
def Ph (S : AS) : Int := (sI S 57 77).toInt + cnt (sI S 89) 60 + cnt (sI S 103) 60 + 240 - 2 * (sI S 57 30).toInt - 2 * (sI S 57 46).toInt + (if sI S 57 62 = -1 then 0 else 1)
def cnm (f : Nat → Int32) : Nat → Nat
  | 0 => 0
  | n + 1 => cnm f n + (if f n = -1 then 1 else 0)
theorem cnm_eq {f g : Nat → Int32} : ∀ {n : Nat}, (∀ j, j < n → f j = g j) → cnm f n = cnm g n
  | 0, _ => rfl
  | n + 1, h => by
    show cnm f n + _ = cnm g n + _
    rw [cnm_eq (n := n) (fun j hj => h j (by omega)), h n (by omega)]
theorem cnm_one {f g : Nat → Int32} {i : Nat} (h : ∀ j, j ≠ i → f j = g j) : ∀ {n : Nat}, i < n → cnm f n + (if g i = -1 then 1 else 0) = cnm g n + (if f i = -1 then 1 else 0)
  | 0, hi => absurd hi (Nat.not_lt_zero _)
  | n + 1, hi => by
    show cnm f n + (if f n = -1 then 1 else 0) + _ = cnm g n + (if g n = -1 then 1 else 0) + _
    by_cases c : i = n
    · subst c
      rw [cnm_eq (f := f) (g := g) (fun j hj => h j (by omega))]
      omega
    · have := cnm_one h (n := n) (by omega)
      rw [h n (fun q => c q.symm)]
      omega
theorem cnm_pos {f : Nat → Int32} {i : Nat} (h : f i = -1) : ∀ {n : Nat}, i < n → 1 ≤ cnm f n
  | 0, hi => absurd hi (Nat.not_lt_zero _)
  | n + 1, hi => by
    show 1 ≤ cnm f n + (if f n = -1 then 1 else 0)
    by_cases c : i = n
    · subst c
      rw [if_pos h]
      omega
    · have := cnm_pos h (n := n) (by omega)
      omega
/-- families and codes that wait, against the codes -/
def Gf (S : AS) : Int := (sI S 57 46).toInt + cnm (sI S 98) 60 - (sI S 57 39).toInt
theorem Gf_eq {S S' : AS} (h1 : sI S' 57 = sI S 57) (h2 : sI S' 98 = sI S 98) : Gf S' = Gf S := by
  unfold Gf
  rw [h1, h2]
theorem Ph_eq {S S' : AS} (h1 : sI S' 57 = sI S 57) (h2 : sI S' 89 = sI S 89) (h3 : sI S' 103 = sI S 103) : Ph S' = Ph S := by
  unfold Ph
  rw [h1, h2, h3]
/-- the cells that the bound is made of -/
def phc (τ j : Nat) : Prop := τ = 135 ∨ τ = 151 ∨ (τ = 100 ∧ (j = 77 ∨ j = 30 ∨ j = 46 ∨ j = 39 ∨ j = 62)) ∨ τ = 145
theorem Ph_wI {T : Nat → Nat} {S : AS} {τ k j : Nat} {v : Int32} (h : T 57 = 100 ∧ T 89 = 135 ∧ T 103 = 151 ∧ T 98 = 145 ∧ T 4 = 1 ∧ T 126 = 50) (hk : T k = τ) (hp : ¬ phc τ j) : Ph (wI S k j v) = Ph S := by
  obtain ⟨t1, t2, t3, -⟩ := h
  have e2 : sI (wI S k j v) 89 = sI S 89 := by
    funext b
    rw [ti_sI_ne]
    rintro ⟨rfl, rfl⟩
    rw [t2] at hk
    exact hp (Or.inl hk.symm)
  have e3 : sI (wI S k j v) 103 = sI S 103 := by
    funext b
    rw [ti_sI_ne]
    rintro ⟨rfl, rfl⟩
    rw [t3] at hk
    exact hp (Or.inr (Or.inl hk.symm))
  have e1 : ∀ b, (b = 77 ∨ b = 30 ∨ b = 46 ∨ b = 39 ∨ b = 62) → sI (wI S k j v) 57 b = sI S 57 b := by
    intro b hb
    rw [ti_sI_ne]
    rintro ⟨rfl, rfl⟩
    rw [t1] at hk
    exact hp (Or.inr (Or.inr (Or.inl ⟨hk.symm, hb⟩)))
  unfold Ph
  rw [e1 77 (by omega), e1 30 (by omega), e1 46 (by omega), e1 62 (by omega), e2, e3]
theorem Gf_wI {T : Nat → Nat} {S : AS} {τ k j : Nat} {v : Int32} (h : T 57 = 100 ∧ T 89 = 135 ∧ T 103 = 151 ∧ T 98 = 145 ∧ T 4 = 1 ∧ T 126 = 50) (hk : T k = τ) (hp : ¬ phc τ j) : Gf (wI S k j v) = Gf S := by
  obtain ⟨t1, t2, t3, t4, -⟩ := h
  have e2 : sI (wI S k j v) 98 = sI S 98 := by
    funext b
    rw [ti_sI_ne]
    rintro ⟨rfl, rfl⟩
    rw [t4] at hk
    exact hp (Or.inr (Or.inr (Or.inr hk.symm)))
  have e1 : ∀ b, (b = 77 ∨ b = 30 ∨ b = 46 ∨ b = 39 ∨ b = 62) → sI (wI S k j v) 57 b = sI S 57 b := by
    intro b hb
    rw [ti_sI_ne]
    rintro ⟨rfl, rfl⟩
    rw [t1] at hk
    exact hp (Or.inr (Or.inr (Or.inl ⟨hk.symm, hb⟩)))
  unfold Gf
  rw [e1 46 (by omega), e1 39 (by omega), e2]
/-! ===== what a run of a function leaves: types kept, what isn't in the list of its classes unchanged, the room ===== -/
def cl (τ j : Nat) : Nat := if kd τ < 40 then 100 * τ + j else 100 * τ
def cr (τ j : Nat) : Nat := 50000 + cl τ j
def Rl (T0 : Nat → Nat) (w : List Nat) (S0 : AS) (c s : Nat) (T : Nat → Nat) (S : AS) : Prop :=
  TI T S ∧ sN S0 ≤ sN S ∧ (∀ k, k < sN S0 → T k = T0 k ∧ sK S k = sK S0 k ∧ sL S k = sL S0 k) ∧ (sC S ≤ sC S0 + c ∧ sS S ≤ sS S0 + s ∧ Ph S ≤ Ph S0 + c ∧ Gf S ≤ Gf S0 + s) ∧
  (∀ k j, T0 k ≠ 0 → ¬ cl (T0 k) j ∈ w → sI S k j = sI S0 k j) ∧ (∀ k j, T0 k ≠ 0 → ¬ cr (T0 k) j ∈ w → sR S k j = sR S0 k j) ∧
  (∀ k j, T0 k ≠ 0 → ¬ 99999 ∈ w → sJ S k j = sJ S0 k j) ∧ (sI S0 24 2).toInt ≤ (sI S 24 2).toInt ∧ TI T0 S0
theorem Rl.ti {T0 T : Nat → Nat} {w : List Nat} {S0 S : AS} {c s : Nat} (h : Rl T0 w S0 c s T S) : TI T S := h.1
theorem Rl.lt {T0 T : Nat → Nat} {w : List Nat} {S0 S : AS} {c s : Nat} (h : Rl T0 w S0 c s T S) {k : Nat} (hk : T0 k ≠ 0) : k < sN S0 := (h.2.2.2.2.2.2.2.2.t1 k hk).1
theorem Rl.ty {T0 T : Nat → Nat} {w : List Nat} {S0 S : AS} {c s : Nat} (h : Rl T0 w S0 c s T S) : ∀ k, T0 k ≠ 0 → T k = T0 k := fun k hk => (h.2.2.1 k (h.lt hk)).1
theorem Rl.fI {T0 T : Nat → Nat} {w : List Nat} {S0 S : AS} {c s : Nat} (h : Rl T0 w S0 c s T S) : ∀ k j, T0 k ≠ 0 → ¬ cl (T0 k) j ∈ w → sI S k j = sI S0 k j := h.2.2.2.2.1
theorem Rl.fR {T0 T : Nat → Nat} {w : List Nat} {S0 S : AS} {c s : Nat} (h : Rl T0 w S0 c s T S) : ∀ k j, T0 k ≠ 0 → ¬ cr (T0 k) j ∈ w → sR S k j = sR S0 k j := h.2.2.2.2.2.1
theorem Rl.fJ {T0 T : Nat → Nat} {w : List Nat} {S0 S : AS} {c s : Nat} (h : Rl T0 w S0 c s T S) : ∀ k j, T0 k ≠ 0 → ¬ 99999 ∈ w → sJ S k j = sJ S0 k j := h.2.2.2.2.2.2.1
theorem Rlrf {T : Nat → Nat} {S : AS} (h : TI T S) : Rl T [] S 0 0 T S :=
  ⟨h, Nat.le_refl _, fun _ _ => ⟨rfl, rfl, rfl⟩, ⟨Nat.le_refl _, Nat.le_refl _, by omega, by omega⟩, fun _ _ _ _ => rfl, fun _ _ _ _ => rfl, fun _ _ _ _ => rfl, Int.le_refl _, h⟩
theorem Rlweak {T0 T : Nat → Nat} {w w' : List Nat} {S0 S : AS} {c s c' s' : Nat} (h : Rl T0 w S0 c s T S) (hw : ∀ x ∈ w, x ∈ w') (hc : c ≤ c') (hs : s ≤ s') : Rl T0 w' S0 c' s' T S :=
  ⟨h.1, h.2.1, h.2.2.1, ⟨Nat.le_trans h.2.2.2.1.1 (Nat.add_le_add_left hc _), Nat.le_trans h.2.2.2.1.2.1 (Nat.add_le_add_left hs _), by have := h.2.2.2.1.2.2.1; omega, by have := h.2.2.2.1.2.2.2; omega⟩, fun k j a b => h.fI k j a (fun q => b (hw _ q)), fun k j a b => h.fR k j a (fun q => b (hw _ q)), fun k j a b => h.fJ k j a (fun q => b (hw _ q)), h.2.2.2.2.2.2.2.1, h.2.2.2.2.2.2.2.2⟩
theorem Rltrans {T0 T T' : Nat → Nat} {w wc w' : List Nat} {S0 S S' : AS} {c s cc ss : Nat} (h : Rl T0 w S0 c s T S) (g : Rl T wc S cc ss T' S') (hw : ∀ x ∈ w ++ wc, x ∈ w') : Rl T0 w' S0 (c + cc) (s + ss) T' S' := by
  obtain ⟨g1, g2, g3, ⟨g4, g4', g4'', g4'''⟩, g5, g6, g7, g8, g9⟩ := g
  have hty := h.ty
  have hlt := fun k hk => h.lt (k := k) hk
  have h1 := h.fI
  have h2 := h.fR
  have h3 := h.fJ
  obtain ⟨-, a2, a3, ⟨a4, a4', a4'', a4'''⟩, -, -, -, a8, a9⟩ := h
  have w1 : ∀ x, ¬ x ∈ w' → ¬ x ∈ w ∧ ¬ x ∈ wc := fun x hx => ⟨fun q => hx (hw x (List.mem_append_left _ q)), fun q => hx (hw x (List.mem_append_right _ q))⟩
  refine ⟨g1, Nat.le_trans a2 g2, ?_, ⟨by omega, by omega, by omega, by omega⟩, ?_, ?_, ?_, Int.le_trans a8 g8, a9⟩
  · intro k hk
    obtain ⟨b1, b2, b3⟩ := a3 k hk
    obtain ⟨d1, d2, d3⟩ := g3 k (by omega)
    exact ⟨d1.trans b1, d2.trans b2, d3.trans b3⟩
  · intro k j hk hj
    rw [g5 k j (by rw [hty k hk]; exact hk) (by rw [hty k hk]; exact (w1 _ hj).2)]
    exact h1 k j hk (w1 _ hj).1
  · intro k j hk hj
    rw [g6 k j (by rw [hty k hk]; exact hk) (by rw [hty k hk]; exact (w1 _ hj).2)]
    exact h2 k j hk (w1 _ hj).1
  · intro k j hk hj
    rw [g7 k j (by rw [hty k hk]; exact hk) (w1 _ hj).2]
    exact h3 k j hk (w1 _ hj).1
theorem Rlsize {T0 T : Nat → Nat} {w : List Nat} {S0 S : AS} {c s : Nat} (h : Rl T0 w S0 c s T S) {q : Nat} (hq : q < 7) (hw : ¬ cl (20 + q) 2 ∈ w) : sI S (lp q) 2 = sI S0 (lp q) 2 := by
  have e := (h.2.2.2.2.2.2.2.2.t6 q hq).1
  exact h.fI (lp q) 2 (by rw [e]; omega) (by rw [e]; exact hw)
/-- one write -/
theorem RlwI {T0 T : Nat → Nat} {w w' : List Nat} {S0 S : AS} {c s τ k j : Nat} {v : Int32} (h : Rl T0 w S0 c s T S) (ht : TI T (wI S k j v)) (hk : T k = τ) (h3 : ¬ (20 ≤ τ ∧ τ < 27 ∧ j = 2)) (hw : ∀ x ∈ cl τ j :: w, x ∈ w') (hp : ¬ phc τ j) : Rl T0 w' S0 c s T (wI S k j v) := by
  refine ⟨ht, h.2.1, h.2.2.1, ⟨h.2.2.2.1.1, h.2.2.2.1.2.1, by rw [Ph_wI h.1.t9 hk hp]; exact h.2.2.2.1.2.2.1, by rw [Gf_wI h.1.t9 hk hp]; exact h.2.2.2.1.2.2.2⟩, ?_, fun a b p q => h.fR a b p (fun z => q (hw _ (List.mem_cons_of_mem _ z))), fun a b p q => h.fJ a b p (fun z => q (hw _ (List.mem_cons_of_mem _ z))), ?_, h.2.2.2.2.2.2.2.2⟩
  · intro a b p q
    by_cases e : a = k ∧ b = j
    · obtain ⟨rfl, rfl⟩ := e
      rw [h.ty a p] at hk
      exact absurd (hw _ (by rw [hk]; exact List.mem_cons_self)) q
    · rw [ti_sI_ne e]
      exact h.fI a b p (fun z => q (hw _ (List.mem_cons_of_mem _ z)))
  · have e := (h.1.t6 5 (by omega)).1
    rw [ti_sI_ne (fun q => by
      obtain ⟨q1, q2⟩ := q
      subst q1
      rw [show lp 5 = 24 from rfl, hk] at e
      exact h3 (by omega))]
    exact h.2.2.2.2.2.2.2.1
theorem RlwR {T0 T : Nat → Nat} {w w' : List Nat} {S0 S : AS} {c s τ k j : Nat} {v : Option Nat} (h : Rl T0 w S0 c s T S) (ht : TI T (wR S k j v)) (hk : T k = τ) (hw : ∀ x ∈ cr τ j :: w, x ∈ w') : Rl T0 w' S0 c s T (wR S k j v) := by
  refine ⟨ht, h.2.1, h.2.2.1, h.2.2.2.1, fun a b p q => h.fI a b p (fun z => q (hw _ (List.mem_cons_of_mem _ z))), ?_, fun a b p q => h.fJ a b p (fun z => q (hw _ (List.mem_cons_of_mem _ z))), h.2.2.2.2.2.2.2.1, h.2.2.2.2.2.2.2.2⟩
  intro a b p q
  by_cases e : a = k ∧ b = j
  · obtain ⟨rfl, rfl⟩ := e
    rw [h.ty a p] at hk
    exact absurd (hw _ (by rw [hk]; exact List.mem_cons_self)) q
  · rw [ti_sR_ne e]
    exact h.fR a b p (fun z => q (hw _ (List.mem_cons_of_mem _ z)))
/-- writes on a place that has no type yet -/
theorem RlwI0 {T0 T : Nat → Nat} {w : List Nat} {S0 S : AS} {c s k j : Nat} {v : Int32} (h : Rl T0 w S0 c s T S) (hk : T k = 0) : Rl T0 w S0 c s T (wI S k j v) := by
  have ht : TI T (wI S k j v) := TIwI h.1 hk (fun lo hi e => by rw [rf0] at e; cases e) (fun n lo hi e => by rw [ra0] at e; cases e) (by omega)
  have hn : ∀ a, T0 a ≠ 0 → a ≠ k := fun a ha e => ha (by rw [← h.ty a ha, e]; exact hk)
  refine ⟨ht, h.2.1, h.2.2.1, ⟨h.2.2.2.1.1, h.2.2.2.1.2.1, by rw [Ph_wI h.1.t9 hk (by unfold phc; omega)]; exact h.2.2.2.1.2.2.1, by rw [Gf_wI h.1.t9 hk (by unfold phc; omega)]; exact h.2.2.2.1.2.2.2⟩, ?_, h.fR, h.fJ, ?_, h.2.2.2.2.2.2.2.2⟩
  · intro a b p q
    rw [ti_sI_ne (fun e => hn a p e.1)]
    exact h.fI a b p q
  · have e := (h.1.t6 5 (by omega)).1
    rw [ti_sI_ne (fun q => by
      obtain ⟨q1, q2⟩ := q
      subst q1
      rw [show lp 5 = 24 from rfl, hk] at e
      omega)]
    exact h.2.2.2.2.2.2.2.1
theorem RlwR0 {T0 T : Nat → Nat} {w : List Nat} {S0 S : AS} {c s k j : Nat} {v : Option Nat} (h : Rl T0 w S0 c s T S) (hk : T k = 0) (h0 : k ≠ 0) : Rl T0 w S0 c s T (wR S k j v) := by
  have ht : TI T (wR S k j v) := TIwR h.1 hk (fun τ' e => by rw [ft0] at e; cases e) (fun τ' e => by rw [fn0] at e; cases e) (by omega) (by omega) h0
  have hn : ∀ a, T0 a ≠ 0 → a ≠ k := fun a ha e => ha (by rw [← h.ty a ha, e]; exact hk)
  refine ⟨ht, h.2.1, h.2.2.1, h.2.2.2.1, h.fI, ?_, h.fJ, h.2.2.2.2.2.2.2.1, h.2.2.2.2.2.2.2.2⟩
  intro a b p q
  rw [ti_sR_ne (fun e => hn a p e.1)]
  exact h.fR a b p q
/-- a new place -/
theorem RlwN {T0 T : Nat → Nat} {w : List Nat} {S0 S : AS} {c s κ l n : Nat} (h : Rl T0 w S0 c s T S) : Rl T0 w S0 (c + 1) (s + n) T (wN S κ l n) := by
  have hn : ∀ a, T0 a ≠ 0 → a ≠ sN S := fun a ha e => by
    have h1 := h.lt ha
    have h2 := h.2.1
    omega
  refine ⟨TIwN h.1, Nat.le_succ_of_le h.2.1, ?_, ⟨Nat.succ_le_succ h.2.2.2.1.1, ?_, ?_, ?_⟩, ?_, ?_, ?_, ?_, h.2.2.2.2.2.2.2.2⟩
  · intro k hk
    have e := ti_wN (S := S) (κ := κ) (l := l) (s := n) (k := k) (by have := h.2.1; omega)
    obtain ⟨b1, b2, b3⟩ := h.2.2.1 k hk
    exact ⟨b1, e.1.trans b2, e.2.1.trans b3⟩
  · show sS S + n ≤ sS S0 + (s + n)
    have := h.2.2.2.1.2.1
    omega
  · have hf := TIfresh h.1 (Nat.le_refl (sN S))
    obtain ⟨t1, t2, t3, -⟩ := h.1.t9
    have q : ∀ a, T a ≠ 0 → a ≠ sN S := fun a ha e => ha (by rw [e]; exact hf)
    have := h.2.2.2.1.2.2.1
    rw [Ph_eq (ti_wN (q 57 (by rw [t1]; decide))).2.2.1 (ti_wN (q 89 (by rw [t2]; decide))).2.2.1 (ti_wN (q 103 (by rw [t3]; decide))).2.2.1]
    omega
  · have hf := TIfresh h.1 (Nat.le_refl (sN S))
    obtain ⟨t1, t2, t3, t4, -⟩ := h.1.t9
    have q : ∀ a, T a ≠ 0 → a ≠ sN S := fun a ha e => ha (by rw [e]; exact hf)
    have := h.2.2.2.1.2.2.2
    rw [Gf_eq (ti_wN (q 57 (by rw [t1]; decide))).2.2.1 (ti_wN (q 98 (by rw [t4]; decide))).2.2.1]
    omega
  · intro a b p q
    rw [(ti_wN (hn a p)).2.2.1]
    exact h.fI a b p q
  · intro a b p q
    rw [(ti_wN (hn a p)).2.2.2.1]
    exact h.fR a b p q
  · intro a b p q
    rw [(ti_wN (hn a p)).2.2.2.2]
    exact h.fJ a b p q
  · have e := (h.1.t6 5 (by omega)).1
    have e2 : (24 : Nat) ≠ sN S := fun z => by
      have := TIfresh h.1 (k := 24) (by omega)
      rw [show lp 5 = 24 from rfl, this] at e
      omega
    rw [(ti_wN e2).2.2.1]
    exact h.2.2.2.2.2.2.2.1
theorem RlwX {T0 T : Nat → Nat} {w : List Nat} {S0 S : AS} {c s : Nat} (h : Rl T0 w S0 c s T S) : Rl T0 w S0 (c + 1) (s + 6) T (wX S) := by
  refine ⟨h.1, h.2.1, h.2.2.1, ⟨Nat.succ_le_succ h.2.2.2.1.1, ?_, ?_, ?_⟩, h.fI, h.fR, h.fJ, h.2.2.2.2.2.2.2.1, h.2.2.2.2.2.2.2.2⟩
  · show sS S + 6 ≤ sS S0 + (s + 6)
    have := h.2.2.2.1.2.1
    omega
  · show Ph S ≤ Ph S0 + (c + 1 : Nat)
    have := h.2.2.2.1.2.2.1
    omega
  · show Gf S ≤ Gf S0 + (s + 6 : Nat)
    have := h.2.2.2.1.2.2.2
    omega
/-- a place that was made within gets its type -/
theorem Rlpr {T0 T : Nat → Nat} {w : List Nat} {S0 S : AS} {c s τ k : Nat} (h : Rl T0 w S0 c s T S) (hb : sN S0 ≤ k) (ht : TI (kr_w T k τ) S) : Rl T0 w S0 c s (kr_w T k τ) S :=
  ⟨ht, h.2.1, fun a ha => by
    obtain ⟨b1, b2, b3⟩ := h.2.2.1 a ha
    exact ⟨(if_neg (by omega)).trans b1, b2, b3⟩, h.2.2.2.1, h.fI, h.fR, h.fJ, h.2.2.2.2.2.2.2.1, h.2.2.2.2.2.2.2.2⟩
end
section
/-! ===== one rule for each operation: what is asked, what is left ===== -/
def Ho {β : Type} (x : Option β) (Q : β → Prop) : Prop := ∃ b, x = some b ∧ Q b
theorem r_some {β : Type} {b : β} {Q : β → Prop} (h : Q b) : Ho (some b) Q := ⟨b, rfl, h⟩
theorem r_val {α β : Type} {v : α} {F : α → Option β} {Q : β → Prop} (h : Ho (F v) Q) : Ho ((some v).bind F) Q := h
theorem r_if {β : Type} {c : Prop} [Decidable c] {a b : Option β} {Q : β → Prop} (h1 : c → Ho a Q) (h2 : ¬ c → Ho b Q) : Ho (if c then a else b) Q := by
  by_cases h : c
  · rw [if_pos h]; exact h1 h
  · rw [if_neg h]; exact h2 h
theorem r_ifT {β : Type} {c : Prop} [Decidable c] {a b : Option β} {Q : β → Prop} (h : c) (h1 : Ho a Q) : Ho (if c then a else b) Q := by rw [if_pos h]; exact h1
theorem r_ifF {β : Type} {c : Prop} [Decidable c] {a b : Option β} {Q : β → Prop} (h : ¬ c) (h1 : Ho b Q) : Ho (if c then a else b) Q := by rw [if_neg h]; exact h1
theorem r_bind {α β : Type} {x : Option α} {F : α → Option β} {P : α → Prop} {Q : β → Prop} (hc : Ho x P) (h : ∀ b, P b → Ho (F b) Q) : Ho (x.bind F) Q := by
  obtain ⟨b, rfl, hp⟩ := hc
  exact h b hp
theorem r_b2 {α β : Type} {x : Option (α × AS)} {F : α → AS → Option β} {P : α × AS → Prop} {Q : β → Prop} (hc : Ho x P) (h : ∀ v S', P (v, S') → Ho (F v S') Q) : Ho (kr_b2 x F) Q := by
  obtain ⟨⟨v, S'⟩, rfl, hp⟩ := hc
  exact h v S' hp
theorem r_P {α β : Type} {S : AS} {x : Option (α × AS)} {F : α → AS → Option β} {P : α → Prop} {Q : β → Prop} (hc : Ho x (fun q => q.2 = S ∧ P q.1)) (h : ∀ v, P v → Ho (F v S) Q) : Ho (kr_b2 x F) Q := by
  obtain ⟨⟨v, S'⟩, rfl, e, hp⟩ := hc
  cases e
  exact h v hp
theorem r_bx {α β : Type} {x : Option ((α ⊕ String) × AS)} {F : α → AS → Option ((β ⊕ String) × AS)} {P : (α ⊕ String) × AS → Prop} {Q : (β ⊕ String) × AS → Prop} (hc : Ho x P) (h : ∀ v S', P (.inl v, S') → Ho (F v S') Q) (he : ∀ e S', P (.inr e, S') → Q (.inr e, S')) : Ho (kr_bx x F) Q := by
  obtain ⟨⟨v, S'⟩, rfl, hp⟩ := hc
  cases v with
  | inl v => exact h v S' hp
  | inr e => exact ⟨_, rfl, he e S' hp⟩
/-- pure, or a throw -/
def PT {α : Type} (S : AS) (es : List String) (P : α → Prop) : (α ⊕ String) × AS → Prop := fun q => (∃ v, q.1 = .inl v ∧ q.2 = S ∧ P v) ∨ (∃ e, q.1 = .inr e ∧ q.2 = wX S ∧ e ∈ es)
theorem r_T {α β : Type} {S : AS} {es : List String} {x : Option ((α ⊕ String) × AS)} {F : α → AS → Option ((β ⊕ String) × AS)} {P : α → Prop} {Q : (β ⊕ String) × AS → Prop} (hc : Ho x (PT S es P)) (h : ∀ v, P v → Ho (F v S) Q) (he : ∀ e, e ∈ es → Q (.inr e, wX S)) : Ho (kr_bx x F) Q := by
  obtain ⟨⟨v, S'⟩, rfl, hp⟩ := hc
  rcases hp with ⟨v', e1, e2, e3⟩ | ⟨e, e1, e2, e3⟩
  · cases e1
    cases e2
    exact h v' e3
  · cases e1
    cases e2
    exact ⟨_, rfl, he e e3⟩
/-- changes, or a throw -/
def PX {α : Type} (T : Nat → Nat) (w : List Nat) (S : AS) (c s : Nat) (es : List String) (P : α → Prop) : (α ⊕ String) × AS → Prop := fun q => Rl T w S c s T q.2 ∧ ((∃ v, q.1 = .inl v ∧ P v) ∨ (∃ e, q.1 = .inr e ∧ e ∈ es))
def PY {α : Type} (T : Nat → Nat) (w : List Nat) (S : AS) (c s : Nat) (es : List String) (P : α → (Nat → Nat) → Prop) : (α ⊕ String) × AS → Prop := fun q => ∃ T', Rl T w S c s T' q.2 ∧ ((∃ v, q.1 = .inl v ∧ P v T') ∨ (∃ e, q.1 = .inr e ∧ e ∈ es))
theorem r_X {α β : Type} {T : Nat → Nat} {w : List Nat} {S : AS} {c s : Nat} {es : List String} {x : Option ((α ⊕ String) × AS)} {F : α → AS → Option ((β ⊕ String) × AS)} {P : α → Prop} {Q : (β ⊕ String) × AS → Prop} (hc : Ho x (PX T w S c s es P)) (h : ∀ v S', Rl T w S c s T S' → P v → Ho (F v S') Q) (he : ∀ e S', Rl T w S c s T S' → e ∈ es → Q (.inr e, S')) : Ho (kr_bx x F) Q := by
  obtain ⟨⟨v, S'⟩, rfl, h1, h2⟩ := hc
  rcases h2 with ⟨v', e1, e3⟩ | ⟨e, e1, e3⟩
  · cases e1
    exact h v' S' h1 e3
  · cases e1
    exact ⟨_, rfl, he e S' h1 e3⟩
theorem r_Y {α β : Type} {T : Nat → Nat} {w : List Nat} {S : AS} {c s : Nat} {es : List String} {x : Option ((α ⊕ String) × AS)} {F : α → AS → Option ((β ⊕ String) × AS)} {P : α → (Nat → Nat) → Prop} {Q : (β ⊕ String) × AS → Prop} (hc : Ho x (PY T w S c s es P)) (h : ∀ v T' S', Rl T w S c s T' S' → P v T' → Ho (F v S') Q) (he : ∀ e T' S', Rl T w S c s T' S' → e ∈ es → Q (.inr e, S')) : Ho (kr_bx x F) Q := by
  obtain ⟨⟨v, S'⟩, rfl, T', h1, h2⟩ := hc
  rcases h2 with ⟨v', e1, e3⟩ | ⟨e, e1, e3⟩
  · cases e1
    exact h v' T' S' h1 e3
  · cases e1
    exact ⟨_, rfl, he e T' S' h1 e3⟩
theorem Tx.K {T : Nat → Nat} {S : AS} {τ k : Nat} (h : TI T S) (hk : T k = τ) (h0 : τ ≠ 0) : sK S k = kd τ := by
  rw [← hk]
  exact (h.t1 k (by rw [hk]; exact h0)).2.1
theorem r_gI {β : Type} {T : Nat → Nat} {S : AS} {τ κ j : Nat} {x : Option Nat} {F : Int32 → Option β} {Q : β → Prop} (hT : TI T S) (hx : Tx T τ x) (hk : kd τ = κ) (h : ∀ v, (∀ lo hi, rf τ j = some (lo, hi) → In lo hi v) → Ho (F v) Q) : Ho ((gI S κ j x).bind F) Q := by
  obtain ⟨k, rfl, h1, h2⟩ := hx
  unfold gI
  rw [Option.bind_some, if_pos ((Tx.K hT h1 h2).trans hk)]
  exact h _ (fun lo hi e => hT.t4 k j lo hi (by rw [h1]; exact e))
theorem r_gR {β : Type} {T : Nat → Nat} {S : AS} {τ κ j τ' : Nat} {x : Option Nat} {F : Option Nat → Option β} {Q : β → Prop} (hT : TI T S) (hx : Tx T τ x) (hk : kd τ = κ) (hf : ft τ j = some τ') (h : ∀ v, Tx T τ' v → Ho (F v) Q) : Ho ((gR S κ j x).bind F) Q := by
  obtain ⟨k, rfl, h1, h2⟩ := hx
  unfold gR
  rw [Option.bind_some, if_pos ((Tx.K hT h1 h2).trans hk)]
  exact h _ (hT.t2 k j τ' (by rw [h1]; exact hf))
theorem r_gRn {β : Type} {T : Nat → Nat} {S : AS} {τ κ j τ' : Nat} {x : Option Nat} {F : Option Nat → Option β} {Q : β → Prop} (hT : TI T S) (hx : Tx T τ x) (hk : kd τ = κ) (hf : fn τ j = some τ') (h0 : Ho (F none) Q) (h : ∀ v, Tx T τ' v → Ho (F v) Q) : Ho ((gR S κ j x).bind F) Q := by
  obtain ⟨k, rfl, h1, h2⟩ := hx
  unfold gR
  rw [Option.bind_some, if_pos ((Tx.K hT h1 h2).trans hk)]
  rcases hT.t3 k j τ' (by rw [h1]; exact hf) with e | e
  · rw [Option.bind_some, e]; exact h0
  · exact h _ e
theorem r_rv {β : Type} {T : Nat → Nat} {S : AS} {τ κ : Nat} {x : Option Nat} {F : Unit → Option β} {Q : β → Prop} (hT : TI T S) (hx : Tx T τ x) (hk : kd τ = κ) (h : Ho (F ()) Q) : Ho ((kr_rv S κ x).bind F) Q := by
  obtain ⟨k, rfl, h1, h2⟩ := hx
  unfold kr_rv
  rw [Option.bind_some, if_pos ((Tx.K hT h1 h2).trans hk)]
  exact h
theorem r_cc {β : Type} {T : Nat → Nat} {S : AS} {τ κ : Nat} {x : Option Nat} {F : Unit → Option β} {Q : β → Prop} (hT : TI T S) (hx : Tx T τ x) (hk : kd τ = κ) (h : Ho (F ()) Q) : Ho ((kr_cc S κ x).bind F) Q := by
  obtain ⟨k, rfl, h1, h2⟩ := hx
  unfold kr_cc
  rw [if_pos (by rw [Option.all_some, (Tx.K hT h1 h2).trans hk]; exact beq_self_eq_true _)]
  exact h
theorem r_ac {β : Type} {T : Nat → Nat} {S : AS} {τ : Nat} {x : Option Nat} {F : Unit → Option β} {Q : β → Prop} (hT : TI T S) (hx : Tx T τ x) (hk : 10 ≤ kd τ) (h : Ho (F ()) Q) : Ho ((kr_ac S x).bind F) Q := by
  obtain ⟨k, rfl, h1, h2⟩ := hx
  have e := Tx.K hT h1 h2
  have h4 : 4 ≤ k := by
    obtain ⟨b0, b1, b2, b3, b4, -⟩ := hT.t8
    refine Nat.not_lt.mp (fun q => ?_)
    match k, q with
    | 0, _ => omega
    | 1, _ => omega
    | 2, _ => omega
    | 3, _ => omega
  unfold kr_ac
  rw [if_pos (by
    rw [Option.all_some, e]
    have a1 : (kd τ != 0) = true := by
      rw [bne_iff_ne]
      omega
    rw [a1, decide_eq_true h4, Bool.or_true]
    rfl)]
  exact h
theorem r_acN {β : Type} {S : AS} {F : Unit → Option β} {Q : β → Prop} (h : Ho (F ()) Q) : Ho ((kr_ac S none).bind F) Q := h
theorem In01 {v : Int32} (h : In 0 1 v) : v = 0 ∨ v = 1 := by
  obtain ⟨h1, h2⟩ := h
  have e : v.toInt = 0 ∨ v.toInt = 1 := by omega
  rcases e with e | e
  · exact Or.inl (Int32.toInt_inj.mp (by rw [e]; decide))
  · exact Or.inr (Int32.toInt_inj.mp (by rw [e]; decide))
theorem r_z {β : Type} {v : Int32} {F : Unit → Option β} {Q : β → Prop} (hv : In 0 1 v) (h : Ho (F ()) Q) : Ho ((kr_z v).bind F) Q := by
  unfold kr_z
  rw [if_pos (In01 hv)]
  exact h
theorem nat_of {i : Int32} {m : Int} {n : Nat} (hi : In 0 m i) (hm : m < n) : i.toNatClampNeg < n := by
  obtain ⟨h1, h2⟩ := hi
  have e : (i.toNatClampNeg : Int) = i.toInt := by
    rw [← Int32.toNat_toInt]
    omega
  omega
theorem r_aI {β : Type} {T : Nat → Nat} {S : AS} {τ κ n : Nat} {m : Int} {x : Option Nat} {i : Int32} {F : Int32 → Option β} {Q : β → Prop} (hT : TI T S) (hx : Tx T τ x) (hk : kd τ = κ) (hl : ln τ = some n) (hi : In 0 m i) (hm : m < n) (h : ∀ v, (∀ lo hi, ra τ = some (n, lo, hi) → In lo hi v) → Ho (F v) Q) : Ho ((aI S κ x i).bind F) Q := by
  obtain ⟨k, rfl, h1, h2⟩ := hx
  have e := (hT.t1 k (by rw [h1]; exact h2)).2.2.2 n (by rw [h1]; exact hl)
  unfold aI
  rw [Option.bind_some, if_pos ⟨(Tx.K hT h1 h2).trans hk, hi.1, by rw [e]; exact Int.lt_of_le_of_lt hi.2 hm⟩]
  exact h _ (fun lo hi' q => hT.t5 k _ n lo hi' (by rw [h1]; exact q) (nat_of hi hm))
theorem r_aR {β : Type} {T : Nat → Nat} {S : AS} {τ κ n τ' : Nat} {m : Int} {x : Option Nat} {i : Int32} {F : Option Nat → Option β} {Q : β → Prop} (hT : TI T S) (hx : Tx T τ x) (hk : kd τ = κ) (hl : ln τ = some n) (hi : In 0 m i) (hm : m < n) (hf : ∀ j, j < n → ft τ j = some τ') (h : ∀ v, Tx T τ' v → Ho (F v) Q) : Ho ((aR S κ x i).bind F) Q := by
  obtain ⟨k, rfl, h1, h2⟩ := hx
  have e := (hT.t1 k (by rw [h1]; exact h2)).2.2.2 n (by rw [h1]; exact hl)
  unfold aR
  rw [Option.bind_some, if_pos ⟨(Tx.K hT h1 h2).trans hk, hi.1, by rw [e]; exact Int.lt_of_le_of_lt hi.2 hm⟩]
  exact h _ (hT.t2 k _ τ' (by rw [h1]; exact hf _ (nat_of hi hm)))
theorem r_aN {β : Type} {T : Nat → Nat} {S : AS} {τ n : Nat} {x : Option Nat} {F : Int32 → Option β} {Q : β → Prop} (hT : TI T S) (hx : Tx T τ x) (hk : 40 ≤ kd τ) (hl : ln τ = some n) (hn : n < 100000) (h : ∀ v, In n n v → Ho (F v) Q) : Ho ((aN S x).bind F) Q := by
  obtain ⟨k, rfl, h1, h2⟩ := hx
  have e := (hT.t1 k (by rw [h1]; exact h2)).2.2.2 n (by rw [h1]; exact hl)
  unfold aN
  rw [Option.bind_some, if_pos (Or.inl (by rw [Tx.K hT h1 h2]; exact hk)), e]
  have : (Int32.ofNat n).toInt = n := Int32.toInt_ofNat_of_lt (by omega)
  exact h _ (by show (n : Int) ≤ _ ∧ _ ≤ (n : Int); omega)
theorem cl_a {τ : Nat} (h : 40 ≤ kd τ) (j : Nat) : cl τ j = cl τ 0 := by
  unfold cl
  rw [if_neg (by omega), if_neg (by omega)]
theorem r_pI {β : Type} {T0 T : Nat → Nat} {w w' : List Nat} {S0 S : AS} {c s τ κ j : Nat} {x : Option Nat} {v : Int32} {F : AS → Option β} {Q : β → Prop} (hR : Rl T0 w S0 c s T S) (hx : Tx T τ x) (hk : kd τ = κ) (ho : kd τ < 40) (hv : ∀ lo hi, rf τ j = some (lo, hi) → In lo hi v) (hz : ra τ = none) (hl : ¬ (20 ≤ τ ∧ τ < 27 ∧ j = 2)) (hw : ∀ x ∈ cl τ j :: w, x ∈ w') (hp : ¬ phc τ j) (h : ∀ S', Rl T0 w' S0 c s T S' → Ho (F S') Q) : Ho ((pI S κ j x v).bind F) Q := by
  obtain ⟨k, rfl, h1, h2⟩ := hx
  unfold pI
  rw [Option.bind_some, if_pos ((Tx.K hR.1 h1 h2).trans hk)]
  exact h _ (RlwI hR (TIwI hR.1 h1 hv (fun n lo hi q => by rw [hz] at q; cases q) hl) h1 hl hw hp)
theorem r_pZ {β : Type} {T0 T : Nat → Nat} {w w' : List Nat} {S0 S : AS} {c s τ κ j : Nat} {x : Option Nat} {v : Int32} {F : AS → Option β} {Q : β → Prop} (hR : Rl T0 w S0 c s T S) (hx : Tx T τ x) (hk : kd τ = κ) (ho : kd τ < 40) (h01 : In 0 1 v) (hv : ∀ lo hi, rf τ j = some (lo, hi) → In lo hi v) (hz : ra τ = none) (hl : ¬ (20 ≤ τ ∧ τ < 27 ∧ j = 2)) (hw : ∀ x ∈ cl τ j :: w, x ∈ w') (hp : ¬ phc τ j) (h : ∀ S', Rl T0 w' S0 c s T S' → Ho (F S') Q) : Ho ((pZ S κ j x v).bind F) Q := by
  obtain ⟨k, rfl, h1, h2⟩ := hx
  unfold pZ
  rw [Option.bind_some, if_pos ⟨(Tx.K hR.1 h1 h2).trans hk, In01 h01⟩]
  exact h _ (RlwI hR (TIwI hR.1 h1 hv (fun n lo hi q => by rw [hz] at q; cases q) hl) h1 hl hw hp)
theorem r_bI {β : Type} {T0 T : Nat → Nat} {w w' : List Nat} {S0 S : AS} {c s τ n : Nat} {m : Int} {x : Option Nat} {i v : Int32} {F : AS → Option β} {Q : β → Prop} (hR : Rl T0 w S0 c s T S) (hx : Tx T τ x) (hk : kd τ = 40) (hl : ln τ = some n) (hi : In 0 m i) (hm : m < n) (hv : ∀ n lo hi, ra τ = some (n, lo, hi) → In lo hi v) (hz : ∀ j, rf τ j = none) (hnl : ¬ (20 ≤ τ ∧ τ < 27)) (hw : ∀ x ∈ cl τ 0 :: w, x ∈ w') (hp : ∀ j, ¬ phc τ j) (h : ∀ S', Rl T0 w' S0 c s T S' → Ho (F S') Q) : Ho ((bI S x i v).bind F) Q := by
  obtain ⟨k, rfl, h1, h2⟩ := hx
  have e := (hR.1.t1 k (by rw [h1]; exact h2)).2.2.2 n (by rw [h1]; exact hl)
  unfold bI
  rw [Option.bind_some, if_pos ⟨(Tx.K hR.1 h1 h2).trans hk, hi.1, by rw [e]; exact Int.lt_of_le_of_lt hi.2 hm⟩]
  exact h _ (RlwI hR (TIwI hR.1 h1 (fun lo hi q => by rw [hz] at q; cases q) hv (fun q => hnl ⟨q.1, q.2.1⟩)) h1 (fun q => hnl ⟨q.1, q.2.1⟩) (by rw [cl_a (by omega)]; exact hw) (hp _))
theorem r_bZ {β : Type} {T0 T : Nat → Nat} {w w' : List Nat} {S0 S : AS} {c s τ n : Nat} {m : Int} {x : Option Nat} {i v : Int32} {F : AS → Option β} {Q : β → Prop} (hR : Rl T0 w S0 c s T S) (hx : Tx T τ x) (hk : kd τ = 41) (hl : ln τ = some n) (hi : In 0 m i) (hm : m < n) (h01 : In 0 1 v) (hv : ∀ n lo hi, ra τ = some (n, lo, hi) → In lo hi v) (hz : ∀ j, rf τ j = none) (hnl : ¬ (20 ≤ τ ∧ τ < 27)) (hw : ∀ x ∈ cl τ 0 :: w, x ∈ w') (hp : ∀ j, ¬ phc τ j) (h : ∀ S', Rl T0 w' S0 c s T S' → Ho (F S') Q) : Ho ((bZ S x i v).bind F) Q := by
  obtain ⟨k, rfl, h1, h2⟩ := hx
  have e := (hR.1.t1 k (by rw [h1]; exact h2)).2.2.2 n (by rw [h1]; exact hl)
  unfold bZ
  rw [Option.bind_some, if_pos ⟨(Tx.K hR.1 h1 h2).trans hk, ⟨hi.1, by rw [e]; exact Int.lt_of_le_of_lt hi.2 hm⟩, In01 h01⟩]
  exact h _ (RlwI hR (TIwI hR.1 h1 (fun lo hi q => by rw [hz] at q; cases q) hv (fun q => hnl ⟨q.1, q.2.1⟩)) h1 (fun q => hnl ⟨q.1, q.2.1⟩) (by rw [cl_a (by omega)]; exact hw) (hp _))
theorem r_pR {β : Type} {T0 T : Nat → Nat} {w w' : List Nat} {S0 S : AS} {c s τ κ j τ' : Nat} {x v : Option Nat} {F : AS → Option β} {Q : β → Prop} (hR : Rl T0 w S0 c s T S) (hx : Tx T τ x) (hk : kd τ = κ) (hv : Tx T τ' v) (hf : ft τ j = some τ') (hn : fn τ j = none) (h3 : ¬ (20 ≤ τ ∧ τ < 27)) (h4 : ¬ (30 ≤ τ ∧ τ < 37)) (h10 : 10 ≤ kd τ) (hw : ∀ x ∈ cr τ j :: w, x ∈ w') (h : ∀ S', Rl T0 w' S0 c s T S' → Ho (F S') Q) : Ho ((pR S κ j x v).bind F) Q := by
  obtain ⟨k, rfl, h1, h2⟩ := hx
  have hp : kr_pb S v = true := by
    obtain ⟨a, rfl, g1, g2⟩ := hv
    have := hR.1.t1 a (by rw [g1]; exact g2)
    unfold kr_pb
    rw [Option.all_some, this.2.1, bne_iff_ne]
    exact this.2.2.1
  have e := Tx.K hR.1 h1 h2
  have h0 : k ≠ 0 := by
    rintro rfl
    have := hR.1.t8.2.1
    omega
  unfold pR
  rw [Option.bind_some, if_pos ⟨e.trans hk, hp⟩]
  exact h _ (RlwR hR (TIwR hR.1 h1 (fun t q => by rw [hf] at q; cases q; exact hv) (fun t q => by rw [hn] at q; cases q) h3 h4 h0) h1 hw)
/-! ===== ranges ===== -/
theorem In_top (v : Int32) : In (-2147483648) 2147483647 v := ⟨Int32.le_toInt v, by have := Int32.toInt_lt v; omega⟩
theorem In_w {a b c d : Int} {v : Int32} (h : In a b v) (h1 : c ≤ a) (h2 : b ≤ d) : In c d v := ⟨Int.le_trans h1 h.1, Int.le_trans h.2 h2⟩
theorem bm {z : Int} (h1 : -2147483648 ≤ z) (h2 : z ≤ 2147483647) : z.bmod (2 ^ 32) = z := by
  rw [Int.bmod_def]
  split <;> omega
theorem In_add {a b c d : Int} {x y : Int32} (h : In a b x) (g : In c d y) (h1 : -2147483648 ≤ a + c) (h2 : b + d ≤ 2147483647) : In (a + c) (b + d) (x + y) := by
  obtain ⟨p1, p2⟩ := h
  obtain ⟨q1, q2⟩ := g
  have e : (x + y).toInt = x.toInt + y.toInt := by
    rw [Int32.toInt_add]
    exact bm (by omega) (by omega)
  show _ ≤ (x + y).toInt ∧ (x + y).toInt ≤ _
  omega
theorem In_sub {a b c d : Int} {x y : Int32} (h : In a b x) (g : In c d y) (h1 : -2147483648 ≤ a - d) (h2 : b - c ≤ 2147483647) : In (a - d) (b - c) (x - y) := by
  obtain ⟨p1, p2⟩ := h
  obtain ⟨q1, q2⟩ := g
  have e : (x - y).toInt = x.toInt - y.toInt := by
    rw [Int32.toInt_sub]
    exact bm (by omega) (by omega)
  show _ ≤ (x - y).toInt ∧ (x - y).toInt ≤ _
  omega
theorem toInt_add1 {a b : Int} {x : Int32} (h : In a b x) (h1 : -2147483648 ≤ a) (h2 : b < 2147483647) : (x + (1 : Int32)).toInt = x.toInt + 1 := by
  obtain ⟨p1, p2⟩ := h
  rw [Int32.toInt_add]
  exact bm (by rw [show (1 : Int32).toInt = 1 from by decide]; omega) (by rw [show (1 : Int32).toInt = 1 from by decide]; omega)
theorem In_mulc {a b k : Int} {x y : Int32} (h : In a b x) (hk : y.toInt = k) (h0 : 0 ≤ k) (h1 : -2147483648 ≤ k * a) (h2 : k * b ≤ 2147483647) : In (k * a) (k * b) (y * x) := by
  obtain ⟨p1, p2⟩ := h
  have m1 : k * a ≤ k * x.toInt := Int.mul_le_mul_of_nonneg_left p1 h0
  have m2 : k * x.toInt ≤ k * b := Int.mul_le_mul_of_nonneg_left p2 h0
  have e : (y * x).toInt = k * x.toInt := by
    rw [Int32.toInt_mul, hk]
    exact bm (by omega) (by omega)
  show _ ≤ (y * x).toInt ∧ (y * x).toInt ≤ _
  omega
theorem In_lt1 {a b c d : Int} {x y : Int32} (q : x < y) (h : In a b x) (g : In c d y) : In a (d - 1) x := by
  have := Int32.lt_iff_toInt_lt.mp q
  exact ⟨h.1, by have := g.2; omega⟩
theorem In_lt2 {a b c d : Int} {x y : Int32} (q : x < y) (h : In a b x) (g : In c d y) : In (a + 1) d y := by
  have := Int32.lt_iff_toInt_lt.mp q
  exact ⟨by have := h.1; omega, g.2⟩
theorem In_le1 {a b c d : Int} {x y : Int32} (q : x ≤ y) (h : In a b x) (g : In c d y) : In a d x := by
  have := Int32.le_iff_toInt_le.mp q
  exact ⟨h.1, by have := g.2; omega⟩
theorem In_le2 {a b c d : Int} {x y : Int32} (q : x ≤ y) (h : In a b x) (g : In c d y) : In a d y := by
  have := Int32.le_iff_toInt_le.mp q
  exact ⟨by have := h.1; omega, g.2⟩
theorem In_eq {c d : Int} {x y : Int32} (q : x = y) (g : In c d y) : In c d x := by rw [q]; exact g
theorem In_neL {a b : Int} {x y : Int32} (q : ¬ x = y) (h : In a b x) (g : y.toInt = a) : In (a + 1) b x := by
  have : ¬ x.toInt = y.toInt := fun z => q (Int32.toInt_inj.mp z)
  exact ⟨by have := h.1; omega, h.2⟩
theorem In_neR {a b : Int} {x y : Int32} (q : ¬ x = y) (h : In a b x) (g : y.toInt = b) : In a (b - 1) x := by
  have : ¬ x.toInt = y.toInt := fun z => q (Int32.toInt_inj.mp z)
  exact ⟨h.1, by have := h.2; omega⟩
theorem In_glb {a b c d : Int} {x : Int32} (h : In a b x) (g : In c d x) : In (max a c) (min b d) x := by
  obtain ⟨p1, p2⟩ := h
  obtain ⟨q1, q2⟩ := g
  exact ⟨by omega, by omega⟩
end
section
theorem ti_gI {S : AS} {κ j k : Nat} (h : sK S k = κ) : gI S κ j (some k) = some (sI S k j) := by
  unfold gI
  rw [Option.bind_some, if_pos h]
theorem ti_gR {S : AS} {κ j k : Nat} (h : sK S k = κ) : gR S κ j (some k) = some (sR S k j) := by
  unfold gR
  rw [Option.bind_some, if_pos h]
theorem ti_pI {S : AS} {κ j k : Nat} {v : Int32} (h : sK S k = κ) : pI S κ j (some k) v = some (wI S k j v) := by
  unfold pI
  rw [Option.bind_some, if_pos h]
theorem ti_rv {S : AS} {κ k : Nat} (h : sK S k = κ) : kr_rv S κ (some k) = some () := by
  unfold kr_rv
  rw [Option.bind_some, if_pos h]
/-! ===== lists ===== -/
theorem lp_all : ∀ q, q < 7 → sg (20 + q) = some (lp q) ∧ kd (20 + q) = 10 ∧ kd (30 + q) = 43 ∧ ln (30 + q) = none ∧ sg (30 + q) = none ∧ ra (30 + q) = none ∧ 10 ≤ kd (el q) ∧ kd (el q) ≤ 23 ∧ ra (20 + q) = none ∧ rf (20 + q) 0 = none ∧ lp q ≠ 0 := by decide +kernel
theorem ft30 : ∀ q, q < 7 → kr_ftT.getD (30 + q) [] = [] ∧ kr_fnT.getD (30 + q) [] = [] ∧ kr_rfT.getD (30 + q) [] = [] := by decide +kernel
theorem ft30a {q : Nat} (hq : q < 7) (j : Nat) : ft (30 + q) j = none ∧ fn (30 + q) j = none ∧ rf (30 + q) j = none := by
  obtain ⟨h1, h2, h3⟩ := ft30 q hq
  unfold ft fn rf
  rw [h1, h2, h3]
  exact ⟨rfl, rfl, rfl⟩
theorem lp_inj : ∀ q, q < 7 → ∀ r, r < 7 → lp q = lp r → q = r := by decide +kernel
theorem lx {T : Nat → Nat} {S : AS} {q : Nat} {x : Option Nat} (hT : TI T S) (hq : q < 7) (hx : Tx T (20 + q) x) : x = some (lp q) := by
  obtain ⟨k, rfl, h1, h2⟩ := hx
  rw [hT.t7 k (lp q) (by rw [h1]; exact (lp_all q hq).1)]
theorem lK {T : Nat → Nat} {S : AS} {q : Nat} (hT : TI T S) (hq : q < 7) : sK S (lp q) = 10 := by
  have h1 := (hT.t6 q hq).1
  rw [Tx.K hT h1 (by omega)]
  exact (lp_all q hq).2.1
theorem sizeIn {T : Nat → Nat} {S : AS} {q : Nat} {lo hi : Int} (hT : TI T S) (hq : q < 7) (e : rf (20 + q) 2 = some (lo, hi)) : In lo hi (sI S (lp q) 2) := hT.t4 (lp q) 2 lo hi (by rw [(hT.t6 q hq).1]; exact e)
theorem r_size {β : Type} {T : Nat → Nat} {S : AS} (q : Nat) {x : Option Nat} {F : Int32 → AS → Option β} {Q : β → Prop} (hT : TI T S) (hx : Tx T (20 + q) x) (hq : q < 7) (h : ∀ v, v = sI S (lp q) 2 → Ho (F v S) Q) : Ho (kr_b2 (f_AL_size S x) F) Q := by
  rw [lx hT hq hx]
  unfold f_AL_size
  rw [ti_gI (lK hT hq)]
  exact h _ rfl
theorem r_empty {β : Type} {T : Nat → Nat} {S : AS} (q : Nat) {x : Option Nat} {F : Int32 → AS → Option β} {Q : β → Prop} (hT : TI T S) (hx : Tx T (20 + q) x) (hq : q < 7) (h1 : Ho (F 1 S) Q) (h0 : ¬ sI S (lp q) 2 = 0 → Ho (F 0 S) Q) : Ho (kr_b2 (f_AL_isEmpty S x) F) Q := by
  rw [lx hT hq hx]
  unfold f_AL_isEmpty
  rw [ti_gI (lK hT hq), Option.bind_some]
  by_cases c : sI S (lp q) 2 = 0
  · rw [if_pos c]; exact h1
  · rw [if_neg c]; exact h0 c
theorem natI {i : Int32} (h : 0 ≤ i.toInt) : (i.toNatClampNeg : Int) = i.toInt := by
  rw [← Int32.toNat_toInt]
  omega
theorem nneg {i : Int32} (h : 0 ≤ i.toInt) : ¬ i < 0 := fun q => by
  have := Int32.lt_iff_toInt_lt.mp q
  rw [show (0 : Int32).toInt = 0 from by decide] at this
  omega
theorem ho_get {T : Nat → Nat} {S : AS} (q : Nat) {x : Option Nat} {i : Int32} (hT : TI T S) (hx : Tx T (20 + q) x) (hq : q < 7) (h0 : 0 ≤ i.toInt) (h1 : i.toInt < (sI S (lp q) 2).toInt) : Ho (f_AL_get S x i) (fun z => z.2 = S ∧ Tx T (el q) z.1) := by
  rw [lx hT hq hx]
  obtain ⟨l1, d, l2, l3, l4, l5, l6⟩ := hT.t6 q hq
  have hk := lK hT hq
  have hd : sK S d = 43 := by
    rcases l3 with l3 | l3
    · rw [Tx.K hT l3 (by omega)]
      exact (lp_all q hq).2.2.1
    · subst l3
      have := hT.t8.2.2.2.2.2.1
      omega
  have e := natI h0
  have hty := l6 i.toNatClampNeg (by omega)
  refine ⟨(sR S d i.toNatClampNeg, S), ?_, rfl, hty⟩
  unfold f_AL_get f_OB_checkIndex f_PR_checkIndex f_AL_elementData
  rw [ti_gI hk, Option.bind_some, if_neg (nneg h0), if_pos (Int32.lt_iff_toInt_lt.mpr h1)]
  show (kr_rv S 10 (some (lp q))).bind _ = _
  unfold kr_rv
  rw [Option.bind_some, if_pos hk, Option.bind_some, ti_gR hk, Option.bind_some, l2]
  unfold aR
  rw [Option.bind_some, if_pos ⟨hd, h0, by show i.toInt < (sL S d : Int); omega⟩]
  rfl
/-- another row for a list -/
theorem TIld {T : Nat → Nat} {S : AS} {q d : Nat} (h : TI T S) (hq : q < 7) (hd : T d = 30 + q) (h1 : (sI S (lp q) 2).toInt ≤ (sL S d : Int)) (h2 : sL S d ≤ 400) (h3 : ∀ i : Nat, (i : Int) < (sI S (lp q) 2).toInt → Tx T (el q) (sR S d i)) : TI T (wR S (lp q) 1 (some d)) := by
  have hp := (h.t6 q hq).1
  have hdp : d ≠ lp q := by
    rintro rfl
    omega
  refine ⟨h.t1, ?_, ?_, h.t4, h.t5, ?_, h.t7, h.t8, h.t9⟩
  · intro a b τ' e
    by_cases c : a = lp q ∧ b = 1
    · obtain ⟨rfl, rfl⟩ := c
      rw [hp] at e
      exact absurd e (by
        have : ∀ q, q < 7 → ft (20 + q) 1 = none := by decide +kernel
        rw [this q hq]
        exact fun z => nomatch z)
    · rw [ti_sR_ne c]
      exact h.t2 a b τ' e
  · intro a b τ' e
    by_cases c : a = lp q ∧ b = 1
    · obtain ⟨rfl, rfl⟩ := c
      rw [hp] at e
      exact absurd e (by
        have : ∀ q, q < 7 → fn (20 + q) 1 = none := by decide +kernel
        rw [this q hq]
        exact fun z => nomatch z)
    · rw [ti_sR_ne c]
      exact h.t3 a b τ' e
  · intro r hr
    by_cases c : r = q
    · subst c
      refine ⟨hp, d, ti_sR_eq _ _ _ _, Or.inl hd, h1, h2, ?_⟩
      intro i hi
      rw [ti_sR_ne (fun z => hdp z.1)]
      exact h3 i hi
    · obtain ⟨l1, d', l2, l3, l4, l5, l6⟩ := h.t6 r hr
      have c1 : lp r ≠ lp q := fun z => c (lp_inj r hr q hq z)
      have c2 : d' ≠ lp q := by
        rintro rfl
        rcases l3 with l3 | l3
        · omega
        · exact (lp_all q hq).2.2.2.2.2.2.2.2.2.2 l3
      refine ⟨l1, d', ?_, l3, l4, l5, ?_⟩
      · rw [ti_sR_ne (fun z => c1 z.1)]; exact l2
      · intro i hi
        rw [ti_sR_ne (fun z => c2 z.1)]
        exact l6 i hi
/-- one more element -/
theorem TIla {T : Nat → Nat} {S : AS} {q d : Nat} {n : Int32} {v : Option Nat} {lo hi : Int} (h : TI T S) (hq : q < 7) (hr : sR S (lp q) 1 = some d) (hd : T d = 30 + q) (hn : sI S (lp q) 2 = n) (h1 : n.toInt < (sL S d : Int)) (hc : rf (20 + q) 2 = some (lo, hi)) (h2 : n.toInt < hi) (h3 : hi ≤ 1000) (hv : Tx T (el q) v) (h0 : lo = 0) : TI T (wI (wR S d n.toNatClampNeg v) (lp q) 2 (n + 1)) := by
  have hp := (h.t6 q hq).1
  have hb := sizeIn h hq hc
  rw [hn] at hb
  have hn0 : 0 ≤ n.toInt := by have := hb.1; omega
  have e1 : (n + 1).toInt = n.toInt + 1 := toInt_add1 (a := 0) (b := 1000) ⟨hn0, by omega⟩ (by omega) (by omega)
  have hdp : d ≠ lp q := by
    rintro rfl
    omega
  have hS1 : TI T (wI S (lp q) 2 n) → True := fun _ => trivial
  refine ⟨h.t1, ?_, ?_, ?_, ?_, ?_, h.t7, h.t8, h.t9⟩
  · intro a b τ' e
    show Tx T τ' (sR (wR S d n.toNatClampNeg v) a b)
    by_cases c : a = d ∧ b = n.toNatClampNeg
    · rw [c.1, hd, (ft30a hq b).1] at e
      cases e
    · rw [ti_sR_ne c]
      exact h.t2 a b τ' e
  · intro a b τ' e
    show sR (wR S d n.toNatClampNeg v) a b = none ∨ Tx T τ' (sR (wR S d n.toNatClampNeg v) a b)
    by_cases c : a = d ∧ b = n.toNatClampNeg
    · rw [c.1, hd, (ft30a hq b).2.1] at e
      cases e
    · rw [ti_sR_ne c]
      exact h.t3 a b τ' e
  · intro a b lo' hi' e
    by_cases c : a = lp q ∧ b = 2
    · obtain ⟨rfl, rfl⟩ := c
      rw [ti_sI_eq]
      rw [hp, hc] at e
      cases e
      exact ⟨by omega, by omega⟩
    · rw [ti_sI_ne c]
      exact h.t4 a b lo' hi' e
  · intro a b m lo' hi' e hb'
    by_cases c : a = lp q ∧ b = 2
    · obtain ⟨rfl, rfl⟩ := c
      rw [hp, (lp_all q hq).2.2.2.2.2.2.2.2.1] at e
      cases e
    · rw [ti_sI_ne c]
      exact h.t5 a b m lo' hi' e hb'
  · intro r hr'
    obtain ⟨l1, d', l2, l3, l4, l5, l6⟩ := h.t6 r hr'
    by_cases c : r = q
    · subst c
      rw [hr] at l2
      cases l2
      refine ⟨hp, d, ?_, Or.inl hd, ?_, l5, ?_⟩
      · show sR (wR S d n.toNatClampNeg v) (lp r) 1 = _
        rw [ti_sR_ne (fun z => hdp z.1.symm)]
        exact hr
      · rw [ti_sI_eq, e1]
        show n.toInt + 1 ≤ (sL S d : Int)
        omega
      · intro i hi'
        rw [ti_sI_eq, e1] at hi'
        show Tx T (el r) (sR (wR S d n.toNatClampNeg v) d i)
        by_cases ci : i = n.toNatClampNeg
        · subst ci
          rw [ti_sR_eq]
          exact hv
        · rw [ti_sR_ne (fun z => ci z.2)]
          have := natI hn0
          exact l6 i (by rw [hn]; omega)
    · have c1 : lp r ≠ lp q := fun z => c (lp_inj r hr' q hq z)
      have c2 : d' ≠ d := by
        rintro rfl
        rcases l3 with l3 | l3
        · omega
        · have := (h.t1 d' (by omega)).2.1
          rw [hd, (lp_all q hq).2.2.1, l3, h.t8.2.1] at this
          omega
      have c3 : lp r ≠ d := by
        rintro rfl
        omega
      refine ⟨l1, d', ?_, l3, ?_, l5, ?_⟩
      · show sR (wR S d n.toNatClampNeg v) (lp r) 1 = _
        rw [ti_sR_ne (fun z => c3 z.1)]
        exact l2
      · rw [ti_sI_ne (fun z => c1 z.1)]
        exact l4
      · intro i hi'
        rw [ti_sI_ne (fun z => c1 z.1)] at hi'
        show Tx T (el r) (sR (wR S d n.toNatClampNeg v) d' i)
        rw [ti_sR_ne (fun z => c2 z.1)]
        exact l6 i hi'

theorem gl : ∀ n, n < 201 → ¬ (Int32.ofNat n + (if (Int32.ofNat n + (1 : Int32) - Int32.ofNat n) < (Int32.ofNat n >>> ((1 : Int32) &&& 31)) then (Int32.ofNat n >>> ((1 : Int32) &&& 31)) else (Int32.ofNat n + (1 : Int32) - Int32.ofNat n))) ≤ (0 : Int32) ∧ ¬ (2147483639 : Int32) < (Int32.ofNat n + (if (Int32.ofNat n + (1 : Int32) - Int32.ofNat n) < (Int32.ofNat n >>> ((1 : Int32) &&& 31)) then (Int32.ofNat n >>> ((1 : Int32) &&& 31)) else (Int32.ofNat n + (1 : Int32) - Int32.ofNat n))) ∧ ∃ m, m < 301 ∧ n < m ∧ (Int32.ofNat n + (if (Int32.ofNat n + (1 : Int32) - Int32.ofNat n) < (Int32.ofNat n >>> ((1 : Int32) &&& 31)) then (Int32.ofNat n >>> ((1 : Int32) &&& 31)) else (Int32.ofNat n + (1 : Int32) - Int32.ofNat n))) = Int32.ofNat m := by decide +kernel
theorem gl2 : ∀ n, n < 301 → (Int32.ofNat n).toInt = n ∧ (Int32.ofNat n).toNatClampNeg = n := by decide +kernel
theorem ofNat_of {i : Int32} {n : Nat} (h : i.toInt = n) : i = Int32.ofNat n := by
  have := Int32.ofInt_toInt i
  rw [h] at this
  exact this.symm
theorem TIwC0 {T : Nat → Nat} {S : AS} {k y n : Nat} (h : TI T S) (hy : T y = 0) (h0 : y ≠ 0) : TI T (wC S k y n) := by
  have hn : ∀ a, T a ≠ 0 → sR (wC S k y n) a = sR S a := fun a ha => if_neg (fun e => ha (by rw [e]; exact hy))
  refine ⟨h.t1, ?_, ?_, h.t4, h.t5, ?_, h.t7, h.t8, h.t9⟩
  · intro a b τ e
    rw [hn a (fun z => by rw [z, ft0] at e; cases e)]
    exact h.t2 a b τ e
  · intro a b τ e
    rw [hn a (fun z => by rw [z, fn0] at e; cases e)]
    exact h.t3 a b τ e
  · intro q hq
    obtain ⟨l1, d, l2, l3, l4, l5, l6⟩ := h.t6 q hq
    have hd : sR (wC S k y n) d = sR S d := if_neg (fun e => by
      subst e
      rcases l3 with l3 | l3
      · omega
      · exact h0 l3)
    refine ⟨l1, d, by rw [hn _ (by rw [l1]; omega)]; exact l2, l3, l4, l5, fun i hi => by rw [hd]; exact l6 i hi⟩
theorem RlwC0 {T0 T : Nat → Nat} {w : List Nat} {S0 S : AS} {c s k y n : Nat} (h : Rl T0 w S0 c s T S) (hy : T y = 0) (h0 : y ≠ 0) : Rl T0 w S0 c s T (wC S k y n) := by
  have hn : ∀ a, T0 a ≠ 0 → sR (wC S k y n) a = sR S a := fun a ha => if_neg (fun e => ha (by rw [← h.ty a ha, e]; exact hy))
  refine ⟨TIwC0 h.1 hy h0, h.2.1, h.2.2.1, h.2.2.2.1, h.fI, ?_, h.fJ, h.2.2.2.2.2.2.2.1, h.2.2.2.2.2.2.2.2⟩
  intro a b p z
  rw [hn a p]
  exact h.fR a b p z
/-- the growing -/
theorem ho_grow {T0 T : Nat → Nat} {w w' : List Nat} {S0 S : AS} {c s : Nat} (q : Nat) {n : Nat} (hR : Rl T0 w S0 c s T S) (hq : q < 7) {d : Nat} (hr : sR S (lp q) 1 = some d) (hs : sI S (lp q) 2 = Int32.ofNat n) (hn : n < 201) (hd : sL S d = n) (hw : ∀ z ∈ cr (20 + q) 1 :: w, z ∈ w') :
    ∃ T' S' d', f_AL_grow1 S (some (lp q)) = some (some d', S') ∧ Rl T0 w' S0 (c + 1) (s + 300) T' S' ∧ (∀ k, T k ≠ 0 → T' k = T k) ∧ sI S' (lp q) = sI S (lp q) ∧ sR S' (lp q) 1 = some d' ∧ T' d' = 30 + q ∧ n < sL S' d' ∧ sK S' d' = 43 ∧ (∀ a, sK S a ≠ 0 → a < sN S → sK S' a = sK S a) := by
  have hT := hR.1
  have hk := lK hT hq
  obtain ⟨l1, d0, l2, l3, l4, l5, l6⟩ := hT.t6 q hq
  rw [hr] at l2
  cases l2
  have hn2 : n < 301 := by omega
  rw [hs, (gl2 n hn2).1] at l4 l6
  have hlpN : lp q < sN S := (hT.t1 (lp q) (by rw [l1]; omega)).1
  have hfz := TIfresh hT (Nat.le_refl (sN S))
  have h4 := hT.t8.1
  -- what is common: a row of m places is made, filled from d, and put into the list
  have key : ∀ m : Nat, n < m → m < 301 → ∀ SC : AS, (SC = wN S 43 m m ∨ SC = wC (wN S 43 m m) d (sN S) n) → (n = 0 ∨ SC = wC (wN S 43 m m) d (sN S) n) →
      Rl T0 w' S0 (c + 1) (s + 300) (kr_w T (sN S) (30 + q)) (wR SC (lp q) 1 (some (sN S))) ∧ (∀ k, T k ≠ 0 → kr_w T (sN S) (30 + q) k = T k) ∧ sI (wR SC (lp q) 1 (some (sN S))) (lp q) = sI S (lp q) ∧ sR (wR SC (lp q) 1 (some (sN S))) (lp q) 1 = some (sN S) ∧ kr_w T (sN S) (30 + q) (sN S) = 30 + q ∧ n < sL (wR SC (lp q) 1 (some (sN S))) (sN S) ∧ sK (wR SC (lp q) 1 (some (sN S))) (sN S) = 43 ∧ (∀ a, sK S a ≠ 0 → a < sN S → sK (wR SC (lp q) 1 (some (sN S))) a = sK S a) := by
    intro m hm1 hm2 SC hSC hSC2
    have g1 : Rl T0 w S0 (c + 1) (s + m) T (wN S 43 m m) := RlwN hR
    have g2 : Rl T0 w S0 (c + 1) (s + m) T SC := by
      rcases hSC with e | e
      · rw [e]; exact g1
      · rw [e]; exact RlwC0 g1 hfz (by omega)
    have eK : sK SC = sK (wN S 43 m m) := by rcases hSC with e | e <;> rw [e] <;> rfl
    have eL : sL SC = sL (wN S 43 m m) := by rcases hSC with e | e <;> rw [e] <;> rfl
    have eI : sI SC = sI (wN S 43 m m) := by rcases hSC with e | e <;> rw [e] <;> rfl
    have eN : sN SC = sN S + 1 := by rcases hSC with e | e <;> rw [e] <;> rfl
    have z0 := ti_wN0 S 43 m m
    have pr : TI (kr_w T (sN S) (30 + q)) SC := by
      refine TIpr g2.1 hfz (by omega) ?_ ?_ ?_ ?_ ?_ ?_ ?_ ?_
      · rw [eK, z0.1, (lp_all q hq).2.2.1]
      · rw [(lp_all q hq).2.2.1]; decide
      · intro a e; rw [(lp_all q hq).2.2.2.1] at e; cases e
      · intro j τ e; rw [(ft30a hq j).1] at e; cases e
      · intro j τ e; rw [(ft30a hq j).2.1] at e; cases e
      · intro j lo hi e; rw [(ft30a hq j).2.2] at e; cases e
      · intro j a lo hi e; rw [(lp_all q hq).2.2.2.2.2.1] at e; cases e
      · exact (lp_all q hq).2.2.2.2.1
    have g3 : Rl T0 w S0 (c + 1) (s + m) (kr_w T (sN S) (30 + q)) SC := Rlpr g2 hR.2.1 pr
    have eu : ∀ k, T k ≠ 0 → kr_w T (sN S) (30 + q) k = T k := fun k hk' => if_neg (fun e => hk' (by rw [e]; exact hfz))
    have ed : kr_w T (sN S) (30 + q) (sN S) = 30 + q := if_pos rfl
    have eIl : sI SC (lp q) = sI S (lp q) := by rw [eI, (ti_wN (by omega)).2.2.1]
    have eLn : sL SC (sN S) = m := by rw [eL, z0.2.1]
    have el' : ∀ i : Nat, (i : Int) < n → Tx (kr_w T (sN S) (30 + q)) (el q) (sR SC (sN S) i) := by
      intro i hi
      rcases hSC2 with e | e
      · omega
      · have : sR SC (sN S) i = sR S d i := by
          rw [e]
          show (if sN S = sN S then (fun b => if b < n then sR (wN S 43 m m) d b else sR (wN S 43 m m) (sN S) b) else sR (wN S 43 m m) (sN S)) i = sR S d i
          rw [if_pos rfl]
          show (if i < n then sR (wN S 43 m m) d i else sR (wN S 43 m m) (sN S) i) = sR S d i
          rw [if_pos (by omega), (ti_wN (by
            rintro rfl
            rcases l3 with l3 | l3
            · omega
            · omega)).2.2.2.1]
        rw [this]
        exact (l6 i hi).up eu
    have ti := TIld (q := q) (d := sN S) pr hq ed (by rw [eIl, hs, (gl2 n hn2).1, eLn]; omega) (by rw [eLn]; omega) (by rw [eIl, hs, (gl2 n hn2).1]; exact el')
    refine ⟨?_, eu, eIl, ti_sR_eq _ _ _ _, ed, by show n < sL SC (sN S); omega, by show sK SC (sN S) = 43; rw [eK, z0.1], fun a ha hb => by show sK SC a = _; rw [eK, (ti_wN (by omega)).1]⟩
    exact Rlweak (RlwR (τ := 20 + q) (w' := w') g3 ti (by rw [eu _ (by rw [l1]; omega)]; exact l1) hw) (fun _ z => z) (Nat.le_refl _) (by omega)
  unfold f_AL_grow1 f_AL_grow2
  rw [ti_gI hk, Option.bind_some, ti_rv hk, Option.bind_some, ti_gR hk, Option.bind_some, hr, hs]
  have hN : aN S (some d) = some (Int32.ofNat n) := by
    unfold aN
    rw [Option.bind_some, if_pos (by
      rcases l3 with l3 | l3
      · exact Or.inl (by rw [Tx.K hT l3 (by omega), (lp_all q hq).2.2.1]; decide)
      · exact Or.inr (by rw [l3]; exact hT.t8.2.1)), hd]
  rw [hN, Option.bind_some]
  have b20 : (d ≠ 0) → ∃ m, n < m ∧ m < 301 ∧ f_AL_grow2_B20 S (some (lp q)) (Int32.ofNat n + (1 : Int32)) (Int32.ofNat n) = some (some (sN S), wR (wC (wN S 43 m m) d (sN S) n) (lp q) 1 (some (sN S))) := by
    intro hd0
    have hdT : T d = 30 + q := by
      rcases l3 with l3 | l3
      · exact l3
      · exact absurd l3 hd0
    have hdK : sK S d = 43 := by rw [Tx.K hT hdT (by omega), (lp_all q hq).2.2.1]
    have hdN : d ≠ sN S := by
      rintro rfl
      omega
    obtain ⟨g1, g2, m, g3, g4, g5⟩ := gl n hn
    refine ⟨m, g4, g3, ?_⟩
    unfold f_AL_grow2_B20 f_AS_newLength
    rw [Option.bind_some, if_neg g1, if_neg g2, g5]
    show (gR S 10 1 (some (lp q))).bind _ = _
    rw [ti_gR hk, Option.bind_some, hr]
    unfold f_AR_copyOf1 f_AR_copyOf2
    rw [ti_rv hdK, Option.bind_some, if_pos rfl]
    unfold nA
    rw [if_pos ⟨by rw [(gl2 m g3).1]; omega, by rw [(gl2 m g3).1]; omega⟩, Option.bind_some, (gl2 m g3).2]
    have e1 := ti_wN (S := S) (κ := 43) (l := m) (s := m) hdN
    have e0 := ti_wN0 S 43 m m
    unfold f_AR_copyOf2_B24
    have hN2 : aN (wN S 43 m m) (some d) = some (Int32.ofNat n) := by
      unfold aN
      rw [Option.bind_some, if_pos (Or.inl (by rw [e1.1, hdK]; decide)), e1.2.1, hd]
    rw [hN2, Option.bind_some, if_neg (fun z => by
      have := Int32.lt_iff_toInt_lt.mp z
      rw [(gl2 m g3).1, (gl2 n hn2).1] at this
      omega)]
    have hcp : kr_cp (wN S 43 m m) (some d) (some (sN S)) (Int32.ofNat n) = some (wC (wN S 43 m m) d (sN S) n) := by
      unfold kr_cp
      rw [Option.bind_some, Option.bind_some, if_pos, (gl2 n hn2).2]
      refine ⟨⟨by rw [e1.1]; exact hdK, e0.1⟩, ⟨by rw [(gl2 n hn2).1]; omega, by rw [(gl2 n hn2).1, e1.2.1, hd]; omega, by rw [(gl2 n hn2).1, e0.2.1]; omega⟩, ?_⟩
      rw [(gl2 n hn2).2, List.all_eq_true]
      intro i hi
      have hi' : i < n := List.mem_range.mp hi
      obtain ⟨a, ha1, ha2, ha3⟩ := l6 i (by omega)
      have haK := Tx.K hT ha2 ha3
      have haN : a ≠ sN S := by
        rintro rfl
        omega
      rw [e1.2.2.2.1, ha1, Option.all_some, decide_eq_true_iff]
      have h5 := lp_all q hq
      rw [(ti_wN haN).1, haK]
      have : kr_nC = 14 := rfl
      omega
    rw [hcp, Option.bind_some]
    show (pR (wC (wN S 43 m m) d (sN S) n) 10 1 (some (lp q)) (some (sN S))).bind _ = _
    unfold pR
    rw [Option.bind_some, if_pos ⟨by show sK (wN S 43 m m) (lp q) = 10; rw [(ti_wN (by omega)).1]; exact hk, by
      show (sK (wN S 43 m m) (sN S) != 0) = true
      rw [e0.1]
      rfl⟩]
    rfl
  by_cases c0 : 0 < Int32.ofNat n
  · rw [if_pos c0]
    have hd0 : d ≠ 0 := by
      rintro rfl
      rw [hT.t8.2.2.2.2.2.1] at hd
      subst hd
      exact absurd c0 (by decide)
    obtain ⟨m, m1, m2, e⟩ := b20 hd0
    rw [e]
    exact ⟨_, _, _, rfl, key m m1 m2 _ (Or.inr rfl) (Or.inr rfl)⟩
  · rw [if_neg c0, Option.bind_some]
    have n0 : n = 0 := by
      have := Int32.not_lt.mp c0
      have := Int32.le_iff_toInt_le.mp this
      rw [(gl2 n hn2).1, show (0 : Int32).toInt = 0 from by decide] at this
      omega
    have hac : kr_ac S (some d) = some () := by
      unfold kr_ac
      rw [if_pos]
      rw [Option.all_some]
      by_cases hd0 : d = 0
      · subst hd0
        rw [hT.t8.2.1]
        rfl
      · have hdT : T d = 30 + q := by
          rcases l3 with l3 | l3
          · exact l3
          · exact absurd l3 hd0
        have hdK : sK S d = 43 := by rw [Tx.K hT hdT (by omega), (lp_all q hq).2.2.1]
        have : 4 ≤ d := by
          obtain ⟨t0, t1, t2, t3, t4, -⟩ := hT.t8
          refine Nat.not_lt.mp (fun z => ?_)
          match d, z with
          | 0, _ => omega
          | 1, _ => omega
          | 2, _ => omega
          | 3, _ => omega
        rw [hdK, decide_eq_true this, Bool.or_true]
        rfl
    have hac0 : kr_ac S (some 0) = some () := by
      unfold kr_ac
      rw [if_pos]
      rw [Option.all_some, hT.t8.2.1]
      rfl
    rw [hac, Option.bind_some, hac0, Option.bind_some]
    by_cases hd0 : d = 0
    · subst hd0
      subst n0
      rw [if_pos rfl, if_neg (by decide)]
      have e10 : nA S 43 (10 : Int32) = some (wN S 43 10 10) := by
        unfold nA
        rw [if_pos (by decide)]
        rfl
      rw [e10, Option.bind_some]
      unfold pR
      rw [Option.bind_some, if_pos ⟨by rw [(ti_wN (by omega)).1]; exact hk, by
        show (sK (wN S 43 10 10) (sN S) != 0) = true
        rw [(ti_wN0 S 43 10 10).1]
        rfl⟩]
      exact ⟨_, _, _, rfl, key 10 (by omega) (by omega) _ (Or.inl rfl) (Or.inl rfl)⟩
    · rw [if_neg (fun z => hd0 (Option.some.inj z))]
      obtain ⟨m, m1, m2, e⟩ := b20 hd0
      rw [e]
      exact ⟨_, _, _, rfl, key m m1 m2 _ (Or.inr rfl) (Or.inr rfl)⟩

theorem ho_add {T0 T : Nat → Nat} {w w' : List Nat} {S0 S : AS} {c s : Nat} {hi : Int} (q : Nat) {x v : Option Nat} (hR : Rl T0 w S0 c s T S) (hx : Tx T (20 + q) x) (hq : q < 7) (hv : Tx T (el q) v) (hc : rf (20 + q) 2 = some (0, hi)) (h2 : (sI S (lp q) 2).toInt < hi) (h3 : hi ≤ 200) (hw : ∀ z ∈ cr (30 + q) 0 :: cl (20 + q) 2 :: cr (20 + q) 1 :: cl (20 + q) 0 :: w, z ∈ w') :
    Ho (f_AL_add1 S x v) (fun z => ∃ T', Rl T0 w' S0 (c + 1) (s + 300) T' z.2 ∧ (∀ k, T k ≠ 0 → T' k = T k) ∧ sI z.2 (lp q) 2 = sI S (lp q) 2 + 1) := by
  rw [lx hR.1 hq hx]
  have hk := lK hR.1 hq
  have hp := (hR.1.t6 q hq).1
  have hlq := lp_all q hq
  have rS : Rl T0 (cl (20 + q) 0 :: w) S0 c s T (wI S (lp q) 0 (sI S (lp q) 0 + 1)) := RlwI hR (TIwI hR.1 hp (fun lo hi e => by rw [hlq.2.2.2.2.2.2.2.2.2.1] at e; cases e) (fun n lo hi e => by rw [hlq.2.2.2.2.2.2.2.2.1] at e; cases e) (by omega)) hp (by omega) (fun _ z => z) (by unfold phc; omega)
  unfold f_AL_add1
  rw [ti_gI hk, Option.bind_some, ti_pI hk, Option.bind_some]
  have e2 : sI (wI S (lp q) 0 (sI S (lp q) 0 + 1)) (lp q) 2 = sI S (lp q) 2 := ti_sI_ne (by omega)
  generalize wI S (lp q) 0 (sI S (lp q) 0 + 1) = S2 at rS e2
  have hT := rS.1
  have hk2 := lK hT hq
  obtain ⟨l1, d, l2, l3, l4, l5, l6⟩ := hT.t6 q hq
  rw [ti_gR hk2, Option.bind_some, ti_gI hk2, Option.bind_some, ti_rv hk2, Option.bind_some, l2]
  have hb := sizeIn hT hq hc
  rw [e2] at hb l4
  obtain ⟨n, hn⟩ : ∃ n : Nat, (sI S (lp q) 2).toInt = n := ⟨(sI S (lp q) 2).toInt.toNat, by have := hb.1; omega⟩
  have hnn := ofNat_of hn
  have hn2 : n < 201 := by omega
  rw [e2]
  rw [hn] at l4 h2
  have hxN : aN S2 (some d) = some (Int32.ofNat (sL S2 d)) := by
    unfold aN
    rw [Option.bind_some, if_pos (by
      rcases l3 with l3 | l3
      · exact Or.inl (by rw [Tx.K hT l3 (by omega), hlq.2.2.1]; decide)
      · exact Or.inr (by rw [l3]; exact hT.t8.2.1))]
  -- the last step, on any row with room
  have fin : ∀ (T1 : Nat → Nat) (S3 : AS) (d' : Nat) (c1 s1 : Nat) (w1 : List Nat), Rl T0 w1 S0 c1 s1 T1 S3 → c1 ≤ c + 1 → s1 ≤ s + 300 → (∀ z ∈ w1, z ∈ cr (20 + q) 1 :: cl (20 + q) 0 :: w) → (∀ k, T k ≠ 0 → T1 k = T k) → sI S3 (lp q) 2 = Int32.ofNat n → sR S3 (lp q) 1 = some d' → T1 d' = 30 + q → n < sL S3 d' → sK S3 d' = 43 →
      Ho ((f_AL_add2_B11 S3 (some (lp q)) v (some d') (Int32.ofNat n)).bind fun S6 => some ((1 : Int32), S6)) (fun z => ∃ T', Rl T0 w' S0 (c + 1) (s + 300) T' z.2 ∧ (∀ k, T k ≠ 0 → T' k = T k) ∧ sI z.2 (lp q) 2 = Int32.ofNat n + 1) := by
    intro T1 S3 d' c1 s1 w1 hR3 hc1 hs1 hw1 hu e3 er hd' hl' hK'
    have hv3 := hv.up hu
    obtain ⟨a, rfl, ha1, ha2⟩ := hv3
    have haK := Tx.K hR3.1 ha1 ha2
    have hk3 := lK hR3.1 hq
    have g2 := gl2 n (by omega)
    have hti := TIla (d := d') (n := Int32.ofNat n) (v := some a) (lo := 0) (hi := hi) hR3.1 hq er hd' e3 (by rw [g2.1]; omega) hc (by rw [g2.1]; omega) (by omega) ⟨a, rfl, ha1, ha2⟩ rfl
    refine ⟨(1, wI (wR S3 d' (Int32.ofNat n).toNatClampNeg (some a)) (lp q) 2 (Int32.ofNat n + 1)), ?_, T1, ?_, hu, ?_⟩
    · unfold f_AL_add2_B11
      unfold bR
      rw [Option.bind_some, Option.bind_some, if_pos ⟨hK', ⟨by rw [g2.1]; omega, by rw [g2.1]; omega⟩, by rw [haK]; exact hlq.2.2.2.2.2.2.1, by rw [haK]; exact hlq.2.2.2.2.2.2.2.1⟩, Option.bind_some, ti_pI (by exact hk3), Option.bind_some]
      rfl
    · have hwm : ∀ z, z ∈ w1 → z ∈ w' := fun z hz => hw z (List.mem_cons_of_mem _ (List.mem_cons_of_mem _ (hw1 z hz)))
      have q1 : T1 (lp q) = 20 + q := by rw [hu _ (by rw [hp]; omega)]; exact hp
      have hlim := hR3.2.2.2.1
      refine ⟨hti, hR3.2.1, hR3.2.2.1, ⟨Nat.le_trans hlim.1 (by omega), Nat.le_trans hlim.2.1 (by omega), by
        have e := Ph_wI (S := wR S3 d' (Int32.ofNat n).toNatClampNeg (some a)) (v := Int32.ofNat n + 1) (j := 2) (T := T1) (k := lp q) (τ := 20 + q) hR3.1.t9 q1 (by unfold phc; omega)
        have e2 : Ph (wR S3 d' (Int32.ofNat n).toNatClampNeg (some a)) = Ph S3 := Ph_eq rfl rfl rfl
        rw [e, e2]
        have := hlim.2.2.1
        omega, by
        have e := Gf_wI (S := wR S3 d' (Int32.ofNat n).toNatClampNeg (some a)) (v := Int32.ofNat n + 1) (j := 2) (T := T1) (k := lp q) (τ := 20 + q) hR3.1.t9 q1 (by unfold phc; omega)
        have e2 : Gf (wR S3 d' (Int32.ofNat n).toNatClampNeg (some a)) = Gf S3 := Gf_eq rfl rfl
        rw [e, e2]
        have := hlim.2.2.2
        omega⟩, ?_, ?_, fun k j p z => hR3.fJ k j p (fun y => z (hwm _ y)), ?_, hR3.2.2.2.2.2.2.2.2⟩
      · intro k j p z
        have : ¬ (k = lp q ∧ j = 2) := by
          rintro ⟨rfl, rfl⟩
          have := hR3.ty _ p
          rw [q1] at this
          rw [← this] at z
          exact z (hw _ (List.mem_cons_of_mem _ List.mem_cons_self))
        rw [ti_sI_ne this]
        exact hR3.fI k j p (fun y => z (hwm _ y))
      · intro k j p z
        have : ¬ (k = d' ∧ j = (Int32.ofNat n).toNatClampNeg) := by
          rintro ⟨rfl, rfl⟩
          have := hR3.ty _ p
          rw [hd'] at this
          rw [← this] at z
          refine z (hw _ ?_)
          unfold cr
          rw [cl_a (τ := 30 + q) (by rw [hlq.2.2.1]; decide) (Int32.ofNat n).toNatClampNeg]
          exact List.mem_cons_self
        show sR (wR S3 d' (Int32.ofNat n).toNatClampNeg (some a)) k j = _
        rw [ti_sR_ne this]
        exact hR3.fR k j p (fun y => z (hwm _ y))
      · have ht := hR3.2.2.2.2.2.2.2.1
        by_cases c5 : 24 = lp q
        · rw [c5] at ht ⊢
          rw [ti_sI_eq, toInt_add1 (a := 0) (b := 300) ⟨by rw [g2.1]; omega, by rw [g2.1]; omega⟩ (by omega) (by omega)]
          rw [e3] at ht
          omega
        · rw [ti_sI_ne (fun z => c5 z.1)]
          exact ht
    · exact ti_sI_eq _ _ _ _
  unfold f_AL_add2
  rw [hxN, Option.bind_some, hnn]
  by_cases cN : Int32.ofNat n = Int32.ofNat (sL S2 d)
  · have hd : sL S2 d = n := by
      have := congrArg Int32.toInt cN
      rw [(gl2 n (by omega)).1, Int32.toInt_ofNat_of_lt (by omega)] at this
      omega
    obtain ⟨T', S', d', g1, g2, g3, g4, g5, g6, g7, g8, g9⟩ := ho_grow (w' := cr (20 + q) 1 :: cl (20 + q) 0 :: w) q rS hq l2 (e2.trans hnn) hn2 hd (fun _ z => z)
    rw [if_pos cN, ti_rv hk2, Option.bind_some, g1]
    exact fin T' S' d' (c + 1) (s + 300) _ g2 (Nat.le_refl _) (Nat.le_refl _) (fun _ z => z) g3 (by rw [g4]; exact e2.trans hnn) g5 g6 g7 g8
  · rw [if_neg cN]
    have hlt : n < sL S2 d := by
      rcases Nat.lt_or_ge n (sL S2 d) with q | q
      · exact q
      · exact absurd (by rw [show sL S2 d = n by omega]) cN
    have hdT : T d = 30 + q := by
      rcases l3 with l3 | l3
      · exact l3
      · rw [l3, hT.t8.2.2.2.2.2.1] at hlt
        omega
    exact fin T S2 d c s _ rS (by omega) (by omega) (fun z y => List.mem_cons_of_mem _ y) (fun _ _ => rfl) (e2.trans hnn) l2 hdT hlt (by rw [Tx.K hT hdT (by omega), hlq.2.2.1])
end
section
/-! ===== new objects ===== -/
def RawP (S0 : AS) (T : Nat → Nat) (S : AS) (κ k : Nat) : Prop := T k = 0 ∧ k < sN S ∧ sN S0 ≤ k ∧ 4 ≤ k ∧ sK S k = κ ∧ (∀ j, sI S k j = 0) ∧ (∀ j, sR S k j = none)
/-- what a making leaves: the new one has its type, what had one keeps it, what waits still waits -/
def Mk (S0 : AS) (T : Nat → Nat) (S : AS) (τ k : Nat) (T' : Nat → Nat) (S' : AS) : Prop := T' k = τ ∧ (∀ a, T a ≠ 0 → T' a = T a) ∧ (∀ κ a, a ≠ k → RawP S0 T S κ a → RawP S0 T' S' κ a)
theorem r_nO {β : Type} {T0 T : Nat → Nat} {w : List Nat} {S0 S : AS} {c s κ : Nat} {F : AS → Option β} {Q : β → Prop} (hR : Rl T0 w S0 c s T S) (hn : kr_cN (κ - 10) ≤ 20) (h : ∀ S', Rl T0 w S0 (c + 1) (s + 20) T S' → RawP S0 T S' κ (sN S) → (∀ κ' a, RawP S0 T S κ' a → RawP S0 T S' κ' a) → Ho (F S') Q) : Ho ((some (nO S κ)).bind F) Q := by
  have h4 := hR.1.t8.1
  have z := ti_wN0 S κ 0 (kr_cN (κ - 10))
  refine h (nO S κ) (Rlweak (RlwN hR) (fun _ q => q) (Nat.le_refl _) (by omega)) ⟨TIfresh hR.1 (Nat.le_refl _), Nat.lt_succ_self _, hR.2.1, h4, z.1, fun j => by show sI (wN S κ 0 (kr_cN (κ - 10))) (sN S) j = 0; rw [z.2.2.1], fun j => by show sR (wN S κ 0 (kr_cN (κ - 10))) (sN S) j = none; rw [z.2.2.2]⟩ ?_
  rintro κ' a ⟨r1, r2, r3, r4, r5, r6, r7⟩
  have e := ti_wN (S := S) (κ := κ) (l := 0) (s := kr_cN (κ - 10)) (k := a) (by omega)
  exact ⟨r1, Nat.lt_succ_of_lt r2, r3, r4, e.1.trans r5, fun j => by show sI (wN S κ 0 (kr_cN (κ - 10))) a j = 0; rw [e.2.2.1]; exact r6 j, fun j => by show sR (wN S κ 0 (kr_cN (κ - 10))) a j = none; rw [e.2.2.2.1]; exact r7 j⟩
theorem pb_tx {T : Nat → Nat} {S : AS} {τ : Nat} {v : Option Nat} (hT : TI T S) (h : Tx T τ v) : kr_pb S v = true := by
  obtain ⟨a, rfl, g1, g2⟩ := h
  have := hT.t1 a (by rw [g1]; exact g2)
  unfold kr_pb
  rw [Option.all_some, this.2.1, bne_iff_ne]
  exact this.2.2.1
theorem pb_k {S : AS} {a : Nat} (h : sK S a ≠ 0) : kr_pb S (some a) = true := by
  unfold kr_pb
  rw [Option.all_some, bne_iff_ne]
  exact h
theorem ti_pR {S : AS} {κ j k : Nat} {v : Option Nat} (h : sK S k = κ) (hp : kr_pb S v = true) : pR S κ j (some k) v = some (wR S k j v) := by
  unfold pR
  rw [Option.bind_some, if_pos ⟨h, hp⟩]
theorem ti_pZ {S : AS} {κ j k : Nat} {v : Int32} (h : sK S k = κ) (hv : v = 0 ∨ v = 1) : pZ S κ j (some k) v = some (wI S k j v) := by
  unfold pZ
  rw [Option.bind_some, if_pos ⟨h, hv⟩]
theorem Raw_ne {S0 : AS} {T : Nat → Nat} {S : AS} {κ k a : Nat} (h : RawP S0 T S κ k) (ha : T a ≠ 0) : a ≠ k := fun e => ha (by rw [e]; exact h.1)
theorem ft41 : (∀ j, ft 41 j = none) ∧ (∀ j, fn 41 j = none) ∧ (∀ j, rf 41 j = none) ∧ ra 41 = none ∧ sg 41 = none ∧ kd 41 = 40 ∧ ln 41 = some 12 := ⟨fun _ => rfl, fun _ => rfl, fun _ => rfl, rfl, rfl, rfl, rfl⟩
/-- a row of ints is made and gets its type -/
theorem mk_row {T0 T : Nat → Nat} {w : List Nat} {S0 S : AS} {c s τ n : Nat} (hR : Rl T0 w S0 c s T S) (hk : kd τ = 40) (hl : ln τ = some n) (h1 : ∀ j, ft τ j = none) (h2 : ∀ j, fn τ j = none) (h3 : ∀ j, rf τ j = none) (h4 : ra τ = none) (h5 : sg τ = none) (h0 : τ ≠ 0) :
    Rl T0 w S0 (c + 1) (s + n) (kr_w T (sN S) τ) (wN S 40 n n) ∧ Mk S0 T S τ (sN S) (kr_w T (sN S) τ) (wN S 40 n n) := by
  have hf := TIfresh hR.1 (Nat.le_refl (sN S))
  have g := RlwN (κ := 40) (l := n) (n := n) hR
  have z := ti_wN0 S 40 n n
  refine ⟨Rlpr g hR.2.1 (TIpr g.1 hf (Nat.lt_succ_self _) (by rw [z.1, hk]) (by rw [hk]; decide) (fun m e => by rw [hl] at e; cases e; exact z.2.1) (fun j t e => by rw [h1] at e; cases e) (fun j t e => by rw [h2] at e; cases e) (fun j lo hi e => by rw [h3] at e; cases e) (fun j m lo hi e => by rw [h4] at e; cases e) h5), if_pos rfl, fun a ha => if_neg (fun e => ha (by rw [e]; exact hf)), ?_⟩
  rintro κ' a hne ⟨r1, r2, r3, r4, r5, r6, r7⟩
  have e := ti_wN (S := S) (κ := 40) (l := n) (s := n) (k := a) hne
  exact ⟨(if_neg hne).trans r1, Nat.lt_succ_of_lt r2, r3, r4, e.1.trans r5, fun j => by rw [e.2.2.1]; exact r6 j, fun j => by rw [e.2.2.2.1]; exact r7 j⟩
theorem nA_s {S : AS} {κ : Nat} (v : Int32) (n : Nat) (h : v.toInt = n ∧ v.toNatClampNeg = n) (hn : n ≤ 100000) : nA S κ v = some (wN S κ n n) := by
  unfold nA
  rw [if_pos ⟨by rw [h.1]; omega, by rw [h.1]; omega⟩, h.2]
/-- a row for a field of a waiting object -/
theorem mk_fld {T0 T : Nat → Nat} {w : List Nat} {S0 S : AS} {c s κ k j a : Nat} (hR : Rl T0 w S0 c s T S) (h1 : T k = 0) (h2 : k < sN S) (h3 : sN S0 ≤ k) (h4 : 4 ≤ k) (h5 : sK S k = κ) :
    Rl T0 w S0 (c + 1) (s + 12) (kr_w T (sN S) 41) (wR (wN S 40 12 12) k j (some (sN S))) ∧ kr_w T (sN S) 41 k = 0 ∧ k < sN (wR (wN S 40 12 12) k j (some (sN S))) ∧ sK (wR (wN S 40 12 12) k j (some (sN S))) k = κ ∧ kr_w T (sN S) 41 (sN S) = 41 ∧ (∀ a, T a ≠ 0 → kr_w T (sN S) 41 a = T a) ∧ (∀ i, ¬ i = j → sR (wR (wN S 40 12 12) k j (some (sN S))) k i = sR S k i) ∧ sI (wR (wN S 40 12 12) k j (some (sN S))) k = sI S k ∧ (∀ κ' a, a ≠ k → RawP S0 T S κ' a → RawP S0 (kr_w T (sN S) 41) (wR (wN S 40 12 12) k j (some (sN S))) κ' a) := by
  obtain ⟨g1, g2, g3, g4⟩ := mk_row (τ := 41) (n := 12) hR rfl rfl (fun _ => rfl) (fun _ => rfl) (fun _ => rfl) rfl rfl (by decide)
  have hne : k ≠ sN S := by omega
  have e := ti_wN (S := S) (κ := 40) (l := 12) (s := 12) (k := k) hne
  have k0 : kr_w T (sN S) 41 k = 0 := (if_neg hne).trans h1
  refine ⟨RlwR0 g1 k0 (by omega), k0, Nat.lt_succ_of_lt h2, e.1.trans h5, g2, g3, fun i hi => ?_, e.2.2.1, ?_⟩
  · rw [ti_sR_ne (fun q => hi q.2), e.2.2.2.1]
  · intro κ' b hb hr
    obtain ⟨r1, r2, r3, r4, r5, r6, r7⟩ := hr
    have hbn : b ≠ sN S := by omega
    obtain ⟨q1, q2, q3, q4, q5, q6, q7⟩ := g4 κ' b hbn ⟨r1, r2, r3, r4, r5, r6, r7⟩
    exact ⟨q1, q2, q3, q4, q5, q6, fun i => by rw [ti_sR_ne (fun z => hb z.1)]; exact q7 i⟩
theorem tv12 : (12 : Int32).toInt = ((12 : Nat) : Int) ∧ (12 : Int32).toNatClampNeg = 12 := by decide
theorem ho_Flow {T0 T : Nat → Nat} {w : List Nat} {S0 S : AS} {c s k : Nat} (hR : Rl T0 w S0 c s T S) (hk : RawP S0 T S 13 k) : Ho (f_Flow_init S (some k)) (fun S' => ∃ T', Rl T0 w S0 (c + 5) (s + 60) T' S' ∧ Mk S0 T S 40 k T' S') := by
  obtain ⟨r1, r2, r3, r4, r5, r6, r7⟩ := hk
  unfold f_Flow_init
  rw [Option.bind_some]
  obtain ⟨a1, a2, a3, a4, a5, a6, a7, a8, a9⟩ := mk_fld (j := 0) (a := 0) hR r1 r2 r3 r4 r5
  rw [nA_s (12 : Int32) 12 tv12 (by decide), Option.bind_some, ti_pR (by rw [(ti_wN (by omega)).1]; exact r5) (pb_k (by rw [(ti_wN0 S 40 12 12).1]; decide)), Option.bind_some]
  obtain ⟨b1, b2, b3, b4, b5, b6, b7, b8, b9⟩ := mk_fld (j := 1) (a := 0) a1 a2 a3 r3 r4 a4
  have p0 := ti_sR_eq (wN S 40 12 12) k 0 (some (sN S))
  generalize wR (wN S 40 12 12) k 0 (some (sN S)) = S3 at *
  rw [nA_s (12 : Int32) 12 tv12 (by decide), Option.bind_some, ti_pR (by rw [(ti_wN (by omega)).1]; exact a4) (pb_k (by rw [(ti_wN0 S3 40 12 12).1]; decide)), Option.bind_some]
  obtain ⟨c1, c2, c3, c4, c5, c6, c7, c8, c9⟩ := mk_fld (j := 2) (a := 0) b1 b2 b3 r3 r4 b4
  have p1 := ti_sR_eq (wN S3 40 12 12) k 1 (some (sN S3))
  generalize wR (wN S3 40 12 12) k 1 (some (sN S3)) = S5 at *
  rw [nA_s (12 : Int32) 12 tv12 (by decide), Option.bind_some, ti_pR (by rw [(ti_wN (by omega)).1]; exact b4) (pb_k (by rw [(ti_wN0 S5 40 12 12).1]; decide)), Option.bind_some]
  obtain ⟨d1, d2, d3, d4, d5, d6, d7, d8, d9⟩ := mk_fld (j := 3) (a := 0) c1 c2 c3 r3 r4 c4
  have p2 := ti_sR_eq (wN S5 40 12 12) k 2 (some (sN S5))
  generalize wR (wN S5 40 12 12) k 2 (some (sN S5)) = S7 at *
  rw [nA_s (12 : Int32) 12 tv12 (by decide), Option.bind_some, ti_pR (by rw [(ti_wN (by omega)).1]; exact c4) (pb_k (by rw [(ti_wN0 S7 40 12 12).1]; decide)), Option.bind_some]
  obtain ⟨e1, e2, e3, e4, e5, e6, e7, e8, e9⟩ := mk_fld (j := 4) (a := 0) d1 d2 d3 r3 r4 d4
  have p3 := ti_sR_eq (wN S7 40 12 12) k 3 (some (sN S7))
  generalize wR (wN S7 40 12 12) k 3 (some (sN S7)) = S9 at *
  rw [nA_s (12 : Int32) 12 tv12 (by decide), Option.bind_some, ti_pR (by rw [(ti_wN (by omega)).1]; exact d4) (pb_k (by rw [(ti_wN0 S9 40 12 12).1]; decide)), Option.bind_some]
  have p4 := ti_sR_eq (wN S9 40 12 12) k 4 (some (sN S9))
  generalize wR (wN S9 40 12 12) k 4 (some (sN S9)) = S11 at *
  generalize kr_w T (sN S) 41 = T1 at *
  generalize kr_w T1 (sN S3) 41 = T2 at *
  generalize kr_w T2 (sN S5) 41 = T3 at *
  generalize kr_w T3 (sN S7) 41 = T4 at *
  generalize kr_w T4 (sN S9) 41 = T5 at *
  have u4 : ∀ a, T4 a ≠ 0 → T5 a = T4 a := e6
  have u3 : ∀ a, T3 a ≠ 0 → T5 a = T3 a := fun a h => (u4 a (by rw [d6 a h]; exact h)).trans (d6 a h)
  have u2 : ∀ a, T2 a ≠ 0 → T5 a = T2 a := fun a h => (u3 a (by rw [c6 a h]; exact h)).trans (c6 a h)
  have u1 : ∀ a, T1 a ≠ 0 → T5 a = T1 a := fun a h => (u2 a (by rw [b6 a h]; exact h)).trans (b6 a h)
  have u0 : ∀ a, T a ≠ 0 → T5 a = T a := fun a h => (u1 a (by rw [a6 a h]; exact h)).trans (a6 a h)
  have x0 : Tx T5 41 (sR S11 k 0) := ⟨_, by rw [e7 0 (by decide), d7 0 (by decide), c7 0 (by decide), b7 0 (by decide)]; exact p0, by rw [u1 _ (by rw [a5]; decide)]; exact a5, by decide⟩
  have x1 : Tx T5 41 (sR S11 k 1) := ⟨_, by rw [e7 1 (by decide), d7 1 (by decide), c7 1 (by decide)]; exact p1, by rw [u2 _ (by rw [b5]; decide)]; exact b5, by decide⟩
  have x2 : Tx T5 41 (sR S11 k 2) := ⟨_, by rw [e7 2 (by decide), d7 2 (by decide)]; exact p2, by rw [u3 _ (by rw [c5]; decide)]; exact c5, by decide⟩
  have x3 : Tx T5 41 (sR S11 k 3) := ⟨_, by rw [e7 3 (by decide)]; exact p3, by rw [u4 _ (by rw [d5]; decide)]; exact d5, by decide⟩
  have x4 : Tx T5 41 (sR S11 k 4) := ⟨_, p4, e5, by decide⟩
  have pr : TI (kr_w T5 k 40) S11 := by
    refine TIpr e1.1 e2 e3 (e4.trans rfl) (by decide) (fun n q => by cases q) ?_ (fun j t q => by cases q) ?_ (fun j n lo hi q => by cases q) rfl
    · intro j t q
      match j, q with
      | 0, q => cases q; exact x0
      | 1, q => cases q; exact x1
      | 2, q => cases q; exact x2
      | 3, q => cases q; exact x3
      | 4, q => cases q; exact x4
      | n + 5, q => cases q
    · intro j lo hi q
      match j, q with
      | 0, q => cases q
      | 1, q => cases q
      | 2, q => cases q
      | 3, q => cases q
      | 4, q => cases q
      | 5, q =>
        cases q
        rw [e8, d8, c8, b8, a8, r6 5]
        decide
      | n + 6, q => cases q
  refine ⟨S11, rfl, kr_w T5 k 40, Rlweak (Rlpr e1 r3 pr) (fun _ z => z) (by omega) (by omega), if_pos rfl, fun a ha => (if_neg (fun q => ha (by rw [q]; exact r1))).trans (u0 a ha), ?_⟩
  intro κ' a ha hr
  obtain ⟨z1, z2⟩ := e9 κ' a ha (d9 κ' a ha (c9 κ' a ha (b9 κ' a ha (a9 κ' a ha hr))))
  exact ⟨(if_neg ha).trans z1, z2⟩
end
section
/-- an object waits while its fields are written -/
def Bd (T0 : Nat → Nat) (w : List Nat) (S0 : AS) (c s : Nat) (T : Nat → Nat) (Sb : AS) (κ k : Nat) (S : AS) : Prop := Rl T0 w S0 c s T S ∧ T k = 0 ∧ k < sN S ∧ sN S0 ≤ k ∧ 4 ≤ k ∧ sK S k = κ ∧ (∀ κ' a, a ≠ k → RawP S0 T Sb κ' a → RawP S0 T S κ' a)
theorem Bd0 {T0 T : Nat → Nat} {w : List Nat} {S0 S : AS} {c s κ k : Nat} (hR : Rl T0 w S0 c s T S) (hk : RawP S0 T S κ k) : Bd T0 w S0 c s T S κ k S := ⟨hR, hk.1, hk.2.1, hk.2.2.1, hk.2.2.2.1, hk.2.2.2.2.1, fun _ _ _ h => h⟩
theorem BdI {T0 T : Nat → Nat} {w : List Nat} {S0 S Sb : AS} {c s κ k : Nat} (h : Bd T0 w S0 c s T Sb κ k S) (j : Nat) (v : Int32) : Bd T0 w S0 c s T Sb κ k (wI S k j v) := by
  obtain ⟨h1, h2, h3, h4, h5, h6, h7⟩ := h
  refine ⟨RlwI0 h1 h2, h2, h3, h4, h5, h6, fun κ' a ha hr => ?_⟩
  obtain ⟨r1, r2, r3, r4, r5, r6, r7⟩ := h7 κ' a ha hr
  exact ⟨r1, r2, r3, r4, r5, fun i => by rw [ti_sI_ne (fun z => ha z.1)]; exact r6 i, r7⟩
theorem BdR {T0 T : Nat → Nat} {w : List Nat} {S0 S Sb : AS} {c s κ k : Nat} (h : Bd T0 w S0 c s T Sb κ k S) (j : Nat) (v : Option Nat) : Bd T0 w S0 c s T Sb κ k (wR S k j v) := by
  obtain ⟨h1, h2, h3, h4, h5, h6, h7⟩ := h
  refine ⟨RlwR0 h1 h2 (by omega), h2, h3, h4, h5, h6, fun κ' a ha hr => ?_⟩
  obtain ⟨r1, r2, r3, r4, r5, r6, r7⟩ := h7 κ' a ha hr
  exact ⟨r1, r2, r3, r4, r5, r6, fun i => by rw [ti_sR_ne (fun z => ha z.1)]; exact r7 i⟩
theorem BdE {T0 T : Nat → Nat} {w : List Nat} {S0 S Sb : AS} {c s κ k τ : Nat} (h : Bd T0 w S0 c s T Sb κ k S) (ht : TI (kr_w T k τ) S) : Rl T0 w S0 c s (kr_w T k τ) S ∧ Mk S0 T Sb τ k (kr_w T k τ) S := by
  obtain ⟨h1, h2, h3, h4, h5, h6, h7⟩ := h
  refine ⟨Rlpr h1 h4 ht, if_pos rfl, fun a ha => if_neg (fun q => ha (by rw [q]; exact h2)), fun κ' a ha hr => ?_⟩
  obtain ⟨z1, z2⟩ := h7 κ' a ha hr
  exact ⟨(if_neg ha).trans z1, z2⟩
theorem pb_n {S : AS} : kr_pb S none = true := rfl
theorem ho_Session {T0 T : Nat → Nat} {w : List Nat} {S0 S : AS} {c s k : Nat} {n b : Int32} {p o sh : Option Nat} (hR : Rl T0 w S0 c s T S) (hk : RawP S0 T S 19 k) (hp : Tx T 13 p) (ho : o = none ∨ Tx T 43 o) (hs : Tx T 47 sh) : Ho (f_Session_init S (some k) n p o sh b) (fun S' => ∃ T', Rl T0 w S0 c s T' S' ∧ Mk S0 T S 43 k T' S') := by
  have hpb := pb_tx hR.1 hp
  have hsb := pb_tx hR.1 hs
  have b0 := Bd0 hR hk
  have e := hk.2.2.2.2.1
  have g := BdI (BdI (BdR (BdR (BdR (BdI (BdI b0 6 1) 0 n) 1 p) 2 o) 3 sh) 4 b) 5 b
  have po : kr_pb S o = true := by
    rcases ho with ho | ho
    · rw [ho]; rfl
    · exact pb_tx hR.1 ho
  have pr := TIpr (τ := 43) g.1.1 g.2.1 g.2.2.1 (g.2.2.2.2.2.1.trans rfl) (by decide) (fun n q => by cases q) (fun j t q => by
    match j, q with
    | 0, q => cases q
    | 1, q =>
      cases q
      show Tx T 13 (sR (wR (wR (wR S k 1 p) k 2 o) k 3 sh) k 1)
      rw [ti_sR_ne (by omega), ti_sR_ne (by omega), ti_sR_eq]
      exact hp
    | 2, q => cases q
    | 3, q =>
      cases q
      show Tx T 47 (sR (wR (wR (wR S k 1 p) k 2 o) k 3 sh) k 3)
      rw [ti_sR_eq]
      exact hs
    | n + 4, q => cases q) (fun j t q => by
    match j, q with
    | 0, q => cases q
    | 1, q => cases q
    | 2, q =>
      cases q
      show sR (wR (wR (wR S k 1 p) k 2 o) k 3 sh) k 2 = none ∨ Tx T 43 (sR (wR (wR (wR S k 1 p) k 2 o) k 3 sh) k 2)
      rw [ti_sR_ne (by omega), ti_sR_eq]
      exact ho
    | n + 3, q => cases q) (fun j lo hi q => by
    match j, q with
    | 0, q => cases q
    | 1, q => cases q
    | 2, q => cases q
    | 3, q => cases q
    | 4, q => cases q
    | 5, q => cases q
    | 6, q =>
      cases q
      rw [ti_sI_ne (by omega), ti_sI_ne (by omega)]
      show In 0 1 (sI (wI (wI S k 6 1) k 0 n) k 6)
      rw [ti_sI_ne (by omega), ti_sI_eq]
      decide
    | n + 7, q => cases q) (fun j n lo hi q => by cases q) rfl
  have fin := BdE g pr
  refine ⟨_, ?_, _, fin.1, fin.2⟩
  unfold f_Session_init
  rw [Option.bind_some, ti_pZ e (Or.inr rfl), Option.bind_some, ti_pI (by exact e), Option.bind_some, ti_pR (by exact e) (by exact hpb), Option.bind_some, ti_pR (by exact e) (by exact po), Option.bind_some, ti_pR (by exact e) (by exact hsb), Option.bind_some, ti_pI (by exact e), Option.bind_some, ti_pI (by exact e), Option.bind_some]
theorem ho_Grant {T0 T : Nat → Nat} {w : List Nat} {S0 S : AS} {c s k : Nat} {a2 a3 a4 a5 : Int32} {p : Option Nat} (hR : Rl T0 w S0 c s T S) (hk : RawP S0 T S 14 k) (hp : Tx T 43 p) : Ho (f_Grant_init S (some k) p a2 a3 a4 a5) (fun S' => ∃ T', Rl T0 w S0 c s T' S' ∧ Mk S0 T S 44 k T' S') := by
  have hpb := pb_tx hR.1 hp
  have b0 := Bd0 hR hk
  have e := hk.2.2.2.2.1
  have g := BdI (BdI (BdI (BdI (BdR (BdI (BdI b0 5 (-1)) 9 (-1)) 0 p) 1 a2) 2 a3) 3 a4) 4 a5
  have pr := TIpr (τ := 44) g.1.1 g.2.1 g.2.2.1 (g.2.2.2.2.2.1.trans rfl) (by decide) (fun n q => by cases q) (fun j t q => by
    match j, q with
    | 0, q =>
      cases q
      show Tx T 43 (sR (wR S k 0 p) k 0)
      rw [ti_sR_eq]
      exact hp
    | n + 1, q => cases q) (fun j t q => by cases q) (fun j lo hi q => by
    match j, q with
    | 0, q => cases q
    | 1, q => cases q
    | 2, q => cases q
    | 3, q => cases q
    | 4, q => cases q
    | 5, q => cases q
    | 6, q =>
      cases q
      rw [ti_sI_ne (by omega), ti_sI_ne (by omega), ti_sI_ne (by omega), ti_sI_ne (by omega)]
      show In 0 1 (sI (wI (wI S k 5 (-1)) k 9 (-1)) k 6)
      rw [ti_sI_ne (by omega), ti_sI_ne (by omega), hk.2.2.2.2.2.1 6]
      decide
    | n + 7, q => cases q) (fun j n lo hi q => by cases q) rfl
  have fin := BdE g pr
  refine ⟨_, ?_, _, fin.1, fin.2⟩
  unfold f_Grant_init
  rw [Option.bind_some, ti_pI e, Option.bind_some, ti_pI (by exact e), Option.bind_some, ti_pR (by exact e) (by exact hpb), Option.bind_some, ti_pI (by exact e), Option.bind_some, ti_pI (by exact e), Option.bind_some, ti_pI (by exact e), Option.bind_some, ti_pI (by exact e), Option.bind_some]
theorem ho_Token {T0 T : Nat → Nat} {w : List Nat} {S0 S : AS} {c s k : Nat} {a2 a3 a4 a5 a6 a7 : Int32} {p : Option Nat} (hR : Rl T0 w S0 c s T S) (hk : RawP S0 T S 21 k) (hp : Tx T 44 p) : Ho (f_Token_init S (some k) p a2 a3 a4 a5 a6 a7) (fun S' => ∃ T', Rl T0 w S0 c s T' S' ∧ Mk S0 T S 45 k T' S') := by
  have hpb := pb_tx hR.1 hp
  have b0 := Bd0 hR hk
  have e := hk.2.2.2.2.1
  have g := BdI (BdI (BdI (BdI (BdI (BdI (BdR b0 0 p) 1 a2) 2 a3) 3 a4) 4 a5) 5 a6) 6 a7
  have pr := TIpr (τ := 45) g.1.1 g.2.1 g.2.2.1 (g.2.2.2.2.2.1.trans rfl) (by decide) (fun n q => by cases q) (fun j t q => by
    match j, q with
    | 0, q =>
      cases q
      show Tx T 44 (sR (wR S k 0 p) k 0)
      rw [ti_sR_eq]
      exact hp
    | n + 1, q => cases q) (fun j t q => by cases q) (fun j lo hi q => by cases q) (fun j n lo hi q => by cases q) rfl
  have fin := BdE g pr
  refine ⟨_, ?_, _, fin.1, fin.2⟩
  unfold f_Token_init
  rw [Option.bind_some, ti_pR e hpb, Option.bind_some, ti_pI (by exact e), Option.bind_some, ti_pI (by exact e), Option.bind_some, ti_pI (by exact e), Option.bind_some, ti_pI (by exact e), Option.bind_some, ti_pI (by exact e), Option.bind_some, ti_pI (by exact e), Option.bind_some]
theorem ho_Recovery {T0 T : Nat → Nat} {w : List Nat} {S0 S : AS} {c s k : Nat} {a2 : Int32} {p : Option Nat} (hR : Rl T0 w S0 c s T S) (hk : RawP S0 T S 17 k) (hp : Tx T 13 p) : Ho (f_Recovery_init S (some k) p a2) (fun S' => ∃ T', Rl T0 w S0 c s T' S' ∧ Mk S0 T S 46 k T' S') := by
  have hpb := pb_tx hR.1 hp
  have b0 := Bd0 hR hk
  have e := hk.2.2.2.2.1
  have g := BdI (BdR (BdI b0 2 1) 0 p) 1 a2
  have pr := TIpr (τ := 46) g.1.1 g.2.1 g.2.2.1 (g.2.2.2.2.2.1.trans rfl) (by decide) (fun n q => by cases q) (fun j t q => by
    match j, q with
    | 0, q =>
      cases q
      show Tx T 13 (sR (wR S k 0 p) k 0)
      rw [ti_sR_eq]
      exact hp
    | n + 1, q => cases q) (fun j t q => by cases q) (fun j lo hi q => by
    match j, q with
    | 0, q => cases q
    | 1, q => cases q
    | 2, q =>
      cases q
      rw [ti_sI_ne (by omega)]
      show In 0 1 (sI (wI S k 2 1) k 2)
      rw [ti_sI_eq]
      decide
    | n + 3, q => cases q) (fun j n lo hi q => by cases q) rfl
  have fin := BdE g pr
  refine ⟨_, ?_, _, fin.1, fin.2⟩
  unfold f_Recovery_init
  rw [Option.bind_some, ti_pZ e (Or.inr rfl), Option.bind_some, ti_pR (by exact e) (by exact hpb), Option.bind_some, ti_pI (by exact e), Option.bind_some]
theorem tv3 : (3 : Int32).toInt = ((3 : Nat) : Int) ∧ (3 : Int32).toNatClampNeg = 3 := by decide
theorem bI_s {S : AS} {k n : Nat} (i : Int32) (j : Nat) (v : Int32) (hk : sK S k = 40) (hl : sL S k = n) (h : i.toInt = j ∧ i.toNatClampNeg = j) (hj : j < n) : bI S (some k) i v = some (wI S k j v) := by
  unfold bI
  rw [Option.bind_some, if_pos ⟨hk, by rw [h.1]; omega, by rw [h.1, hl]; omega⟩, h.2]
theorem w3f (X : AS) (a : Nat) (v : Int32) : ∃ Y, Y = wI (wI (wI X a 0 v) a 1 v) a 2 v ∧ sK Y = sK X ∧ sL Y = sL X ∧ sR Y = sR X ∧ sN Y = sN X ∧ ∀ b, b ≠ a → sI Y b = sI X b := by
  refine ⟨_, rfl, rfl, rfl, rfl, rfl, fun b hb => ?_⟩
  funext j
  rw [ti_sI_ne (fun q => hb q.1), ti_sI_ne (fun q => hb q.1), ti_sI_ne (fun q => hb q.1)]
theorem sNwR (S : AS) (k j : Nat) (v : Option Nat) : sN (wR S k j v) = sN S := rfl
theorem sKwR (S : AS) (k j : Nat) (v : Option Nat) : sK (wR S k j v) = sK S := rfl
theorem sLwR (S : AS) (k j : Nat) (v : Option Nat) : sL (wR S k j v) = sL S := rfl
theorem sIwR (S : AS) (k j : Nat) (v : Option Nat) : sI (wR S k j v) = sI S := rfl
theorem sNwN (S : AS) (κ l s : Nat) : sN (wN S κ l s) = sN S + 1 := rfl
/-- the minutes' row is made, filled, and put into its object -/
theorem mk_shown {T0 T : Nat → Nat} {w : List Nat} {S0 S Y : AS} {c s k : Nat} (hR : Rl T0 w S0 c s T S) (hk : RawP S0 T S 20 k) (hY : Y = wI (wI (wI (wN S 40 3 3) (sN S) 0 (-1)) (sN S) 1 (-1)) (sN S) 2 (-1)) (y1 : sK Y = sK (wN S 40 3 3)) (y2 : sL Y = sL (wN S 40 3 3)) (y3 : sR Y = sR (wN S 40 3 3)) (y4 : sN Y = sN (wN S 40 3 3)) (y5 : ∀ b, b ≠ sN S → sI Y b = sI (wN S 40 3 3) b) : ∃ T', Rl T0 w S0 (c + 1) (s + 3) T' (wR Y k 0 (some (sN S))) ∧ Mk S0 T S 47 k T' (wR Y k 0 (some (sN S))) := by
  obtain ⟨r1, r2, r3, r4, r5, r6, r7⟩ := hk
  have hf := TIfresh hR.1 (Nat.le_refl (sN S))
  have z := ti_wN0 S 40 3 3
  have hne : k ≠ sN S := by omega
  rw [sNwN] at y4
  have g1 : Rl T0 w S0 (c + 1) (s + 3) T Y := by
    rw [hY]
    exact RlwI0 (j := 2) (v := -1) (RlwI0 (j := 1) (v := -1) (RlwI0 (j := 0) (v := -1) (RlwN (κ := 40) (l := 3) (n := 3) hR) hf) hf) hf
  clear hY
  have p1 : TI (kr_w T (sN S) 48) Y := TIpr g1.1 hf (by rw [y4]; exact Nat.lt_succ_self _) (by rw [y1]; exact z.1) (by decide) (fun n q => by cases q; rw [y2]; exact z.2.1) (fun j t q => by cases q) (fun j t q => by cases q) (fun j lo hi q => by cases q) (fun j n lo hi q => by cases q) rfl
  have g2 := Rlpr g1 hR.2.1 p1
  have k1 : kr_w T (sN S) 48 k = 0 := (if_neg hne).trans r1
  have g3 := RlwR0 (j := 0) (v := some (sN S)) g2 k1 (by omega)
  have u1 : ∀ a, T a ≠ 0 → kr_w T (sN S) 48 a = T a := fun a ha => if_neg (fun e => ha (by rw [e]; exact hf))
  have e := ti_wN (S := S) (κ := 40) (l := 3) (s := 3) (k := k) hne
  have u2 : kr_w T (sN S) 48 (sN S) = 48 := if_pos rfl
  have u3 : ∀ a, a ≠ sN S → kr_w T (sN S) 48 a = T a := fun a ha => if_neg ha
  generalize kr_w T (sN S) 48 = T1 at *
  have p2 : TI (kr_w T1 k 47) (wR Y k 0 (some (sN S))) := TIpr g3.1 k1 (by rw [sNwR, y4]; omega) (by rw [sKwR, y1, e.1, r5]; rfl) (by decide) (fun n q => by cases q) (fun j t q => by
    match j, q with
    | 0, q =>
      cases q
      rw [ti_sR_eq]
      exact ⟨_, rfl, u2, by decide⟩
    | n + 1, q => cases q) (fun j t q => by cases q) (fun j lo hi q => by cases q) (fun j n lo hi q => by cases q) rfl
  refine ⟨_, Rlpr g3 r3 p2, if_pos rfl, fun a ha => (if_neg (fun q => ha (by rw [q]; exact r1))).trans (u1 a ha), ?_⟩
  rintro κ' a ha ⟨q1, q2, q3, q4, q5, q6, q7⟩
  have hb : a ≠ sN S := by omega
  have ea := ti_wN (S := S) (κ := 40) (l := 3) (s := 3) (k := a) hb
  have ha1 : T1 a = 0 := (u3 a hb).trans q1
  refine ⟨(if_neg ha).trans ha1, by rw [sNwR, y4]; omega, q3, q4, by rw [sKwR, y1, ea.1]; exact q5, fun j => ?_, fun j => ?_⟩
  · rw [sIwR, y5 a hb, ea.2.2.1]
    exact q6 j
  · rw [ti_sR_ne (fun x => ha x.1), y3, ea.2.2.2.1]
    exact q7 j
theorem ho_Shown1 {T0 T : Nat → Nat} {w : List Nat} {S0 S : AS} {c s k : Nat} (hR : Rl T0 w S0 c s T S) (hk : RawP S0 T S 20 k) : Ho (f_Shown_init1 S (some k)) (fun S' => ∃ T', Rl T0 w S0 (c + 1) (s + 3) T' S' ∧ Mk S0 T S 47 k T' S') := by
  obtain ⟨Y, hY, y1, y2, y3, y4, y5⟩ := w3f (wN S 40 3 3) (sN S) (-1)
  obtain ⟨T', h1, h2⟩ := mk_shown hR hk hY y1 y2 y3 y4 y5
  refine ⟨_, ?_, T', h1, h2⟩
  have z := ti_wN0 S 40 3 3
  have e := ti_wN (S := S) (κ := 40) (l := 3) (s := 3) (k := k) (by have := hk.2.1; omega)
  unfold f_Shown_init1
  rw [Option.bind_some, nA_s (3 : Int32) 3 tv3 (by decide), Option.bind_some]
  rw [bI_s (n := 3) (0 : Int32) 0 _ z.1 z.2.1 (by decide) (by decide), Option.bind_some]
  rw [bI_s (S := wI (wN S 40 3 3) (sN S) 0 (-1)) (n := 3) (1 : Int32) 1 _ z.1 z.2.1 (by decide) (by decide), Option.bind_some]
  rw [bI_s (S := wI (wI (wN S 40 3 3) (sN S) 0 (-1)) (sN S) 1 (-1)) (n := 3) (2 : Int32) 2 _ z.1 z.2.1 (by decide) (by decide), Option.bind_some, ← hY]
  rw [ti_pR (by rw [y1]; exact e.1.trans hk.2.2.2.2.1) (pb_k (by rw [y1, z.1]; decide)), Option.bind_some]
theorem ho_Shown2s {T0 T : Nat → Nat} {w : List Nat} {S0 S : AS} {c s k : Nat} {x : Option Nat} {Q : AS → Prop} (hR : Rl T0 w S0 c s T S) (hk : RawP S0 T S 20 k) (h : ∀ T' S', Rl T0 w S0 (c + 1) (s + 3) T' S' → Mk S0 T S 47 k T' S' → Ho (f_Shown_init2_L25 kr_FU S' (some k) x (0 : Int32)) Q) : Ho (f_Shown_init2 S (some k) x) Q := by
  obtain ⟨Y, hY, y1, y2, y3, y4, y5⟩ := w3f (wN S 40 3 3) (sN S) (-1)
  obtain ⟨T', h1, h2⟩ := mk_shown hR hk hY y1 y2 y3 y4 y5
  have z := ti_wN0 S 40 3 3
  have e := ti_wN (S := S) (κ := 40) (l := 3) (s := 3) (k := k) (by have := hk.2.1; omega)
  unfold f_Shown_init2
  rw [Option.bind_some, nA_s (3 : Int32) 3 tv3 (by decide), Option.bind_some]
  rw [bI_s (n := 3) (0 : Int32) 0 _ z.1 z.2.1 (by decide) (by decide), Option.bind_some]
  rw [bI_s (S := wI (wN S 40 3 3) (sN S) 0 (-1)) (n := 3) (1 : Int32) 1 _ z.1 z.2.1 (by decide) (by decide), Option.bind_some]
  rw [bI_s (S := wI (wI (wN S 40 3 3) (sN S) 0 (-1)) (sN S) 1 (-1)) (n := 3) (2 : Int32) 2 _ z.1 z.2.1 (by decide) (by decide), Option.bind_some, ← hY]
  rw [ti_pR (by rw [y1]; exact e.1.trans hk.2.2.2.2.1) (pb_k (by rw [y1, z.1]; decide)), Option.bind_some]
  exact h T' _ h1 h2
theorem ho_Attempt {T0 T : Nat → Nat} {w : List Nat} {S0 S : AS} {c s k : Nat} {a2 a3 : Int32} {p f : Option Nat} (hR : Rl T0 w S0 c s T S) (hk : RawP S0 T S 11 k) (hp : Tx T 13 p) (hf : Tx T 40 f) : Ho (f_Attempt_init S (some k) p a2 a3 f) (fun S' => ∃ T', Rl T0 w S0 (c + 2) (s + 23) T' S' ∧ Mk S0 T S 42 k T' S') := by
  unfold f_Attempt_init
  rw [Option.bind_some]
  refine r_nO hR (by decide) (fun S2 g1 rw1 kp1 => ?_)
  refine r_bind (ho_Shown1 g1 rw1) (fun S3 hh => ?_)
  obtain ⟨T', g2, m1, m2, m3⟩ := hh
  have hne : k ≠ sN S := by have := hk.2.1; omega
  have hk2 := m3 11 k hne (kp1 11 k hk)
  have hT0 : T' (sN S) ≠ 0 := by rw [m1]; decide
  have hs : Tx T' 47 (some (sN S)) := ⟨_, rfl, m1, by decide⟩
  have hp2 := hp.up m2
  have hf2 := hf.up m2
  have hkeep : ∀ κ' a, a ≠ k → RawP S0 T S κ' a → RawP S0 T' S3 κ' a := fun κ' a ha hr => m3 κ' a (by have := hr.2.1; omega) (kp1 κ' a hr)
  clear m3 kp1 hk hR
  have b0 := Bd0 g2 hk2
  have e := hk2.2.2.2.2.1
  have hsb := pb_tx g2.1 hs
  have hpb := pb_tx g2.1 hp2
  have hfb := pb_tx g2.1 hf2
  have g := BdR (BdI (BdI (BdR (BdI (BdI (BdI (BdR b0 4 (some (sN S))) 5 0) 6 (-1)) 9 (-1)) 0 p) 1 a2) 2 a3) 3 f
  have pr := TIpr (τ := 42) g.1.1 g.2.1 g.2.2.1 (g.2.2.2.2.2.1.trans rfl) (by decide) (fun n q => by cases q) (fun j t q => by
    match j, q with
    | 0, q =>
      cases q
      show Tx T' 13 (sR (wR (wR (wR S3 k 4 (some (sN S))) k 0 p) k 3 f) k 0)
      rw [ti_sR_ne (by omega), ti_sR_eq]
      exact hp2
    | 1, q => cases q
    | 2, q => cases q
    | 3, q =>
      cases q
      show Tx T' 40 (sR (wR (wR (wR S3 k 4 (some (sN S))) k 0 p) k 3 f) k 3)
      rw [ti_sR_eq]
      exact hf2
    | 4, q =>
      cases q
      show Tx T' 47 (sR (wR (wR (wR S3 k 4 (some (sN S))) k 0 p) k 3 f) k 4)
      rw [ti_sR_ne (by omega), ti_sR_ne (by omega), ti_sR_eq]
      exact hs
    | n + 5, q => cases q) (fun j t q => by cases q) (fun j lo hi q => by cases q) (fun j n lo hi q => by cases q) rfl
  have fin := BdE g pr
  refine ⟨_, ?_, _, Rlweak fin.1 (fun _ z => z) (by omega) (by omega), fin.2.1, fun a ha => (fin.2.2.1 a (by rw [m2 a ha]; exact ha)).trans (m2 a ha), fun κ' a ha hr => fin.2.2.2 κ' a ha (hkeep κ' a ha hr)⟩
  rw [ti_pR e hsb, Option.bind_some, ti_pI (by exact e), Option.bind_some, ti_pI (by exact e), Option.bind_some, ti_pI (by exact e), Option.bind_some, ti_pR (by exact e) (by exact hpb), Option.bind_some, ti_pI (by exact e), Option.bind_some, ti_pI (by exact e), Option.bind_some, ti_pR (by exact e) (by exact hfb), Option.bind_some]
end
section
/-! ===== the copy of what was shown; small functions ===== -/
theorem sh_loop {T0 T : Nat → Nat} {w : List Nat} {S0 : AS} {c s : Nat} {k : Nat} {y : Option Nat} {PP : AS → Prop} (hx : T k = 47) (hy : Tx T 47 y) (hw : cl 48 0 ∈ w) (hP : ∀ S a i v, T a = 48 → PP S → PP (wI S a i v)) : ∀ (m : Nat) (i : Nat) (f : Nat), i + m = 3 → m < f → ∀ S, Rl T0 w S0 c s T S → PP S → Ho (f_Shown_init2_L25 f S (some k) y (Int32.ofNat i)) (fun S' => Rl T0 w S0 c s T S' ∧ PP S') := by
  intro m
  induction m with
  | zero =>
    intro i f h1 h2 S hR hp
    obtain ⟨f, rfl⟩ : ∃ g, f = g + 1 := ⟨f - 1, by omega⟩
    have hi : i = 3 := by omega
    subst hi
    show Ho (f_Shown_init2_C25 _ _ _ _ _) _
    unfold f_Shown_init2_C25
    exact r_ifT (by decide) (r_some ⟨hR, hp⟩)
  | succ m ih =>
    intro i f h1 h2 S hR hp
    obtain ⟨f, rfl⟩ : ∃ g, f = g + 1 := ⟨f - 1, by omega⟩
    have hi : i < 3 := by omega
    have e1 : (Int32.ofNat i).toInt = i ∧ (Int32.ofNat i).toNatClampNeg = i := gl2 i (by omega)
    have hin : In 0 2 (Int32.ofNat i) := ⟨by rw [e1.1]; omega, by rw [e1.1]; omega⟩
    have hT := hR.1
    have hkk : sK S k = 20 := Tx.K hT hx (by decide)
    obtain ⟨a, ha1, ha2, ha3⟩ := hT.t2 k 0 48 (by rw [hx]; rfl)
    have hak := (hT.t1 a (by rw [ha2]; exact ha3))
    show Ho (f_Shown_init2_C25 _ _ _ _ _) _
    unfold f_Shown_init2_C25
    refine r_ifF (fun q => by
      have := Int32.le_iff_toInt_le.mp q
      rw [e1.1, show (3 : Int32).toInt = 3 from by decide] at this
      omega) ?_
    rw [ti_gR hkk, Option.bind_some, ha1]
    refine r_gR hT hy rfl rfl (fun v2 g2 => ?_)
    refine r_aI hT g2 rfl rfl hin (by decide) (fun v3 g3 => ?_)
    rw [bI_s (n := 3) (Int32.ofNat i) i v3 (hak.2.1.trans (by rw [ha2]; rfl)) (hak.2.2.2 3 (by rw [ha2]; rfl)) e1 hi, Option.bind_some]
    refine r_val ?_
    have hti := TIwI (j := i) (v := v3) hT ha2 (fun _ _ q => by cases q) (fun _ _ _ q => by cases q) (by omega)
    have hr2 : Rl T0 w S0 c s T (wI S a i v3) := RlwI hR hti ha2 (by omega) (fun x q => by
      rcases List.mem_cons.mp q with q | q
      · rw [q, cl_a (by decide)]; exact hw
      · exact q) (by unfold phc; omega)
    have e2 : Int32.ofNat i + (1 : Int32) = Int32.ofNat (i + 1) := (Int32.ofNat_add i 1).symm
    rw [e2]
    exact ih (i + 1) f (by omega) (by omega) _ hr2 (hP S a i v3 ha2 hp)
theorem ho_Shown2 {T0 T : Nat → Nat} {w w' : List Nat} {S0 S : AS} {c s k : Nat} {x : Option Nat} (hR : Rl T0 w S0 c s T S) (hk : RawP S0 T S 20 k) (hx : Tx T 47 x) (hw : ∀ z ∈ cl 48 0 :: w, z ∈ w') : Ho (f_Shown_init2 S (some k) x) (fun S' => ∃ T', Rl T0 w' S0 (c + 1) (s + 3) T' S' ∧ Mk S0 T S 47 k T' S') := by
  refine ho_Shown2s hR hk (fun T1 S1 g1 m1 => ?_)
  have g2 := Rlweak g1 (fun z q => hw z (List.mem_cons_of_mem _ q)) (Nat.le_refl _) (Nat.le_refl _)
  have h := sh_loop (PP := fun S' => ∀ κ a, a ≠ k → RawP S0 T S κ a → RawP S0 T1 S' κ a) m1.1 (hx.up m1.2.1) (hw _ List.mem_cons_self) (fun S' a i v ha hp κ b hb hr => by
    obtain ⟨r1, r2, r3, r4, r5, r6, r7⟩ := hp κ b hb hr
    exact ⟨r1, r2, r3, r4, r5, fun j => by rw [ti_sI_ne (fun q => by rw [← q.1, r1] at ha; cases ha)]; exact r6 j, r7⟩) 3 0 kr_FU rfl (by decide) S1 g2 m1.2.2
  obtain ⟨S', e, g3, p3⟩ := h
  exact ⟨S', e, T1, g3, m1.1, m1.2.1, p3⟩
theorem r_Kw {β : Type} {S : AS} {a lo hi : Int32} {F : Int32 → AS → Option β} {Q : β → Prop} (h1 : lo ≤ a → a ≤ hi → Ho (F 1 S) Q) (h0 : Ho (F 0 S) Q) : Ho (kr_b2 (f_K_isWithin S a lo hi) F) Q := by
  unfold f_K_isWithin
  by_cases c1 : a < lo
  · rw [if_pos c1]; exact h0
  · by_cases c2 : hi < a
    · rw [if_neg c1, if_pos c2]; exact h0
    · rw [if_neg c1, if_neg c2]; exact h1 (Int32.not_lt.mp c1) (Int32.not_lt.mp c2)
theorem In_of {a lo hi : Int32} (h1 : lo ≤ a) (h2 : a ≤ hi) : In lo.toInt hi.toInt a := ⟨Int32.le_iff_toInt_le.mp h1, Int32.le_iff_toInt_le.mp h2⟩
theorem r_Kf {β : Type} {S : AS} {a : Int32} {F : Int32 → AS → Option β} {Q : β → Prop} (h1 : In 0 2 a → Ho (F 1 S) Q) (h0 : Ho (F 0 S) Q) : Ho (kr_b2 (f_K_isFactor S a) F) Q := by
  obtain ⟨b, hb, hq⟩ : Ho (f_K_isFactor S a) (fun q => q.2 = S ∧ ((q.1 = 1 ∧ In 0 2 a) ∨ q.1 = 0)) := by
    unfold f_K_isFactor
    exact r_Kw (fun p q => ⟨(1, S), rfl, rfl, Or.inl ⟨rfl, In_w (In_of p q) (by decide) (by decide)⟩⟩) ⟨(0, S), rfl, rfl, Or.inr rfl⟩
  rw [hb]
  obtain ⟨v, S'⟩ := b
  obtain ⟨e1, e2⟩ := hq
  cases e1
  rcases e2 with ⟨e2, e3⟩ | e2
  · cases e2
    exact h1 e3
  · cases e2
    exact h0
theorem r_rI {β : Type} {S : AS} {a n : Int32} {F : Unit → AS → Option ((β ⊕ String) × AS)} {Q : (β ⊕ String) × AS → Prop} (h : 0 ≤ a.toInt → a < n → Ho (F () S) Q) (he : Q (.inr "java/lang/IndexOutOfBoundsException", wX S)) : Ho (kr_bx (f_K_requireIndex S a n) F) Q := by
  unfold f_K_requireIndex f_K_requireIndex_B9
  by_cases c1 : a < 0
  · rw [if_pos c1]; exact ⟨_, rfl, he⟩
  · by_cases c2 : a < n
    · rw [if_neg c1, if_pos c2]
      exact h (by have := Int32.le_iff_toInt_le.mp (Int32.not_lt.mp c1); rw [show (0 : Int32).toInt = 0 from by decide] at this; exact this) c2
    · rw [if_neg c1, if_neg c2]; exact ⟨_, rfl, he⟩
theorem r_rA {β : Type} {S : AS} {a : Int32} {F : Unit → AS → Option ((β ⊕ String) × AS)} {Q : (β ⊕ String) × AS → Prop} (h : ¬ a = 0 → Ho (F () S) Q) (he : Q (.inr "java/lang/IllegalArgumentException", wX S)) : Ho (kr_bx (f_K_requireArgument S a) F) Q := by
  unfold f_K_requireArgument
  by_cases c1 : a = 0
  · rw [if_pos c1]; exact ⟨_, rfl, he⟩
  · rw [if_neg c1]; exact h c1
theorem r_rS {β : Type} {S : AS} {a : Int32} {F : Unit → AS → Option ((β ⊕ String) × AS)} {Q : (β ⊕ String) × AS → Prop} (h : ¬ a = 0 → Ho (F () S) Q) (he : Q (.inr "java/lang/IllegalStateException", wX S)) : Ho (kr_bx (f_K_requireState S a) F) Q := by
  unfold f_K_requireState
  by_cases c1 : a = 0
  · rw [if_pos c1]; exact ⟨_, rfl, he⟩
  · rw [if_neg c1]; exact h c1
theorem t_Shown_weightOf {T : Nat → Nat} {S : AS} (hT : TI T S) (a : Int32) : Ho (f_Shown_weightOf S a) (fun q => q.2 = S) := by
  obtain ⟨b0, b1, b2, b3, b4, b5, b6⟩ := hT.t8
  unfold f_Shown_weightOf
  refine r_Kf (fun g => r_ifF (by decide) ?_) (r_ifT rfl (r_some rfl))
  have : aI S 2 (some 1) a = some (sI S 1 a.toNatClampNeg) := by
    unfold aI
    rw [Option.bind_some, if_pos ⟨b2, g.1, by rw [b6]; have := g.2; omega⟩]
  rw [this]
  exact r_some rfl
/-- sizes -/
theorem sz_lt {i v z : Int32} (c : ¬ v ≤ i) (e : v = z) : i.toInt < z.toInt := by
  rw [← e]
  exact Int.not_le.mp (fun q => c (Int32.le_iff_toInt_le.mpr q))
theorem sz_lt2 {i v z : Int32} (c : i < v) (e : v = z) : i.toInt < z.toInt := by
  rw [← e]
  exact Int32.lt_iff_toInt_lt.mp c
theorem sz0 {T0 T : Nat → Nat} {w : List Nat} {S0 S : AS} {c s : Nat} {v k : Int32} (q : Nat) (hR : Rl T0 w S0 c s T S) (hq : q < 7) (hw : ¬ cl (20 + q) 2 ∈ w) (e : v = sI S (lp q) 2) (cc : ¬ k ≤ v) : (sI S0 (lp q) 2).toInt < k.toInt := by
  rw [← Rlsize hR hq hw, ← e]
  exact Int.not_le.mp (fun q => cc (Int32.le_iff_toInt_le.mpr q))
theorem sz1 {T0 T : Nat → Nat} {w : List Nat} {S0 S : AS} {c s : Nat} {k : Int} (q : Nat) (hR : Rl T0 w S0 c s T S) (hq : q < 7) (hw : ¬ cl (20 + q) 2 ∈ w) (h : (sI S0 (lp q) 2).toInt < k) : (sI S (lp q) 2).toInt < k := by
  rw [Rlsize hR hq hw]
  exact h
theorem sz2 {T0 T : Nat → Nat} {w : List Nat} {S0 S : AS} {c s : Nat} (q : Nat) (hR : Rl T0 w S0 c s T S) (hq : q < 7) (hw : ¬ cl (20 + q) 2 ∈ w) (cc : ¬ sI S (lp q) 2 = 0) : ¬ sI S0 (lp q) 2 = 0 := by
  rw [← Rlsize hR hq hw]
  exact cc
/-- the last of a list that isn't empty -/
theorem sz_last {T0 T : Nat → Nat} {w : List Nat} {S0 S : AS} {c s : Nat} {v : Int32} {hi : Int} (q : Nat) (hR : Rl T0 w S0 c s T S) (hq : q < 7) (hw : ¬ cl (20 + q) 2 ∈ w) (hc : rf (20 + q) 2 = some (0, hi)) (h3 : hi ≤ 1000) (h : ¬ sI S0 (lp q) 2 = 0) (e : v = sI S (lp q) 2) : 0 ≤ (v - 1).toInt ∧ (v - 1).toInt < (sI S (lp q) 2).toInt := by
  have hb := sizeIn hR.1 hq hc
  have h1 : ¬ (sI S (lp q) 2).toInt = 0 := fun z => h (by
    rw [← Rlsize hR hq hw]
    exact Int32.toInt_inj.mp (by rw [z]; decide))
  rw [e]
  have := (In_sub (y := (1 : Int32)) (c := 1) (d := 1) hb (by decide) (by decide) (by omega))
  have e2 : (sI S (lp q) 2 - 1).toInt = (sI S (lp q) 2).toInt - 1 := by
    rw [Int32.toInt_sub]
    exact bm (by rw [show (1 : Int32).toInt = 1 from by decide]; have := hb.1; omega) (by rw [show (1 : Int32).toInt = 1 from by decide]; have := hb.2; omega)
  have := hb.1
  omega
theorem r_gIe {β : Type} {T : Nat → Nat} {S : AS} {τ κ j : Nat} {x : Option Nat} {F : Int32 → Option β} {Q : β → Prop} (hT : TI T S) (hx : Tx T τ x) (hk : kd τ = κ) (h : ∀ v, (∀ lo hi, rf τ j = some (lo, hi) → In lo hi v) → (∀ k, x = some k → v = sI S k j) → Ho (F v) Q) : Ho ((gI S κ j x).bind F) Q := by
  obtain ⟨k, rfl, h1, h2⟩ := hx
  unfold gI
  rw [Option.bind_some, if_pos ((Tx.K hT h1 h2).trans hk)]
  exact h _ (fun lo hi e => hT.t4 k j lo hi (by rw [h1]; exact e)) (fun k' e => by cases e; rfl)
theorem rd_p {T : Nat → Nat} {S : AS} {τ j : Nat} {x : Option Nat} {v w : Int32} (hx : Tx T τ x) (h1 : ∀ k, x = some k → v = sI S k j) (h2 : ∀ k, x = some k → w = sI S k j) : w = v := by
  obtain ⟨k, e, -⟩ := hx
  rw [h1 k e, h2 k e]
theorem rd_w {T0 T1 T2 : Nat → Nat} {w1 w2 : List Nat} {S0 S1 S2 : AS} {c1 s1 c2 s2 τ j : Nat} {x : Option Nat} {v w : Int32} (hx : Tx T0 τ x) (g1 : Rl T0 w1 S0 c1 s1 T1 S1) (g2 : Rl T0 w2 S0 c2 s2 T2 S2) (n1 : ¬ cl τ j ∈ w1) (n2 : ¬ cl τ j ∈ w2) (h1 : ∀ k, x = some k → v = sI S1 k j) (h2 : ∀ k, x = some k → w = sI S2 k j) : w = v := by
  obtain ⟨k, e, hk, h0⟩ := hx
  rw [h1 k e, h2 k e, g1.fI k j (by rw [hk]; exact h0) (by rw [hk]; exact n1), g2.fI k j (by rw [hk]; exact h0) (by rw [hk]; exact n2)]
theorem r_Ft {β : Type} {T : Nat → Nat} {S : AS} {x : Option Nat} {a : Int32} {F : Int32 → AS → Option β} {Q : β → Prop} (hT : TI T S) (hx : Tx T 40 x) (h1 : In 0 11 a → Ho (F 1 S) Q) (h0 : Ho (F 0 S) Q) : Ho (kr_b2 (f_Flow_isThere S x a) F) Q := by
  obtain ⟨b, hb, hq⟩ : Ho (f_Flow_isThere S x a) (fun q => q.2 = S ∧ ((q.1 = 1 ∧ In 0 11 a) ∨ q.1 = 0)) := by
    unfold f_Flow_isThere
    refine r_if (fun c => r_some ⟨rfl, Or.inr rfl⟩) (fun c => ?_)
    refine r_gI hT hx rfl (fun v hv => ?_)
    refine r_if (fun c1 => r_some ⟨rfl, Or.inr rfl⟩) (fun c1 => ?_)
    refine r_if (fun c2 => r_some ⟨rfl, Or.inr rfl⟩) (fun c2 => r_some ⟨rfl, Or.inl ⟨rfl, ?_⟩⟩)
    have a1 := In_le2 (Int32.not_lt.mp c) (by decide : In 0 0 (0 : Int32)) (In_top a)
    exact In_w (In_lt1 (Int32.not_le.mp c2) a1 (by decide : In 12 12 (12 : Int32))) (by decide) (by decide)
  rw [hb]
  obtain ⟨v, S'⟩ := b
  obtain ⟨e1, e2⟩ := hq
  cases e1
  rcases e2 with ⟨e2, e3⟩ | e2
  · cases e2
    exact h1 e3
  · cases e2
    exact h0
theorem hO_and {α : Type} {S : AS} {x : Option (α × AS)} (h : Ho x (fun q => q.2 = S)) : Ho x (fun q => q.2 = S ∧ True) := by
  obtain ⟨b, h1, h2⟩ := h
  exact ⟨b, h1, h2, trivial⟩
theorem r_row51 {β : Type} {T0 T : Nat → Nat} {w : List Nat} {S0 S : AS} {c s : Nat} {F : AS → Option β} {Q : β → Prop} (hR : Rl T0 w S0 c s T S) (h : ∀ T' S', Rl T0 w S0 (c + 1) (s + 12) T' S' → T' (sN S) = 51 → (∀ a, T a ≠ 0 → T' a = T a) → Ho (F S') Q) : Ho ((nA S 40 (12 : Int32)).bind F) Q := by
  obtain ⟨g1, g2, g3, g4⟩ := mk_row (τ := 51) (n := 12) hR rfl rfl (fun _ => rfl) (fun _ => rfl) (fun _ => rfl) rfl rfl (by decide)
  rw [nA_s (12 : Int32) 12 tv12 (by decide)]
  exact h _ _ g1 g2 g3
theorem or01 : ∀ a, a < 2 → ∀ b, b < 2 → In 0 1 (Int32.ofNat a ||| Int32.ofNat b) := by decide +kernel
theorem or7 : ∀ a, a < 8 → ∀ b, b < 8 → In 0 7 (Int32.ofNat a ||| Int32.ofNat b) := by decide +kernel
theorem or15 : ∀ a, a < 16 → ∀ b, b < 16 → In 0 15 (Int32.ofNat a ||| Int32.ofNat b) := by decide +kernel
theorem ofNat_In {v : Int32} {n : Nat} (h : In 0 n v) : ∃ a, a < n + 1 ∧ v = Int32.ofNat a := by
  obtain ⟨h1, h2⟩ := h
  exact ⟨v.toInt.toNat, by omega, ofNat_of (by omega)⟩
theorem In_or1 {x y : Int32} (h : In 0 1 x) (g : In 0 1 y) : In 0 1 (x ||| y) := by
  obtain ⟨a, ha, rfl⟩ := ofNat_In (n := 1) h
  obtain ⟨b, hb, rfl⟩ := ofNat_In (n := 1) g
  exact or01 a ha b hb
theorem In_or7 {x y : Int32} (h : In 0 7 x) (g : In 0 7 y) : In 0 7 (x ||| y) := by
  obtain ⟨a, ha, rfl⟩ := ofNat_In (n := 7) h
  obtain ⟨b, hb, rfl⟩ := ofNat_In (n := 7) g
  exact or7 a ha b hb
theorem In_or15 {x y : Int32} (h : In 0 15 x) (g : In 0 15 y) : In 0 15 (x ||| y) := by
  obtain ⟨a, ha, rfl⟩ := ofNat_In (n := 15) h
  obtain ⟨b, hb, rfl⟩ := ofNat_In (n := 15) g
  exact or15 a ha b hb
theorem t_findService_ok {T : Nat → Nat} {S : AS} {x : Option Nat} {i : Int32} (hT : TI T S) (hx : Tx T 1 x) (hi : In 0 3 i) : Ho (f_K_findService S x i) (fun q => q.2 = S ∧ ∃ v, q.1 = .inl v ∧ Tx T 17 v) := by
  unfold f_K_findService
  refine r_ifF (nneg hi.1) ?_
  refine r_gR hT hx rfl rfl (fun v1 h1 => ?_)
  refine r_aN hT h1 (by decide) rfl (by decide) (fun v2 h2 => ?_)
  refine r_ifF (fun q => by
    have := Int32.le_iff_toInt_le.mp q
    have a1 := h2.1
    have a2 := hi.2
    omega) ?_
  refine r_gR hT hx rfl rfl (fun v3 h3 => ?_)
  refine r_aR (τ' := 17) hT h3 rfl rfl hi (by decide) (by decide) (fun v4 h4 => ?_)
  unfold f_K_findService_B23
  exact r_ifF (Tx.ne h4) (r_some ⟨rfl, _, rfl, h4⟩)
theorem r_fS {β : Type} {T : Nat → Nat} {S : AS} {x : Option Nat} {i : Int32} {F : Option Nat → AS → Option ((β ⊕ String) × AS)} {Q : (β ⊕ String) × AS → Prop} (hT : TI T S) (hx : Tx T 1 x) (hi : In 0 3 i) (h : ∀ v, Tx T 17 v → Ho (F v S) Q) : Ho (kr_bx (f_K_findService S x i) F) Q := by
  obtain ⟨⟨v, S'⟩, e, h1, v', h2, h3⟩ := t_findService_ok hT hx hi
  cases h1
  cases h2
  rw [e]
  exact h v' h3
end
