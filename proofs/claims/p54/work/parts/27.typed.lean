/-! ===== types of places: the kind, the length, what a field refers to, the range of its ints, where the only one lies ===== -/
def kr_kdT : List Nat := [0, 22, 12, 40, 40, 44, 40, 40, 40, 45, 15, 40, 40, 16, 40, 40, 40, 18, 0, 0, 10, 10, 10, 10, 10, 10, 10, 0, 0, 0, 43, 43, 43, 43, 43, 43, 43, 0, 0, 0, 13, 40, 11, 19, 14, 21, 17, 20, 40, 0, 48, 40, 2, 0, 0, 0, 0, 0, 0, 0, 0, 0, 0, 0, 0, 0, 0, 0, 0, 0, 0, 0, 0, 0, 0, 0, 0, 0, 0, 0, 0, 0, 0, 0, 0, 0, 0, 0, 0, 0, 0, 0, 0, 0, 0, 0, 0, 0, 0, 0, 39, 46, 46, 46, 46, 47, 47, 47, 47, 0, 46, 46, 46, 46, 46, 46, 47, 46, 46, 0, 46, 46, 46, 46, 46, 46, 46, 46, 46, 46, 0, 46, 46, 46, 46, 47, 46, 46, 46, 0, 46, 46, 46, 46, 46, 46, 0, 46, 46, 46, 46, 47, 0, 46, 46, 46, 46, 46, 46, 46, 0, 0, 0, 0, 47, 46, 47, 46, 46, 47, 0, 46, 46, 47, 46, 46, 46, 0, 46, 46, 46, 0, 0, 0, 0, 0, 0, 0, 0, 0, 0, 0, 0, 0, 0, 0, 0, 0, 0, 0, 40, 40, 40, 40, 40, 40, 40, 40, 40, 40, 40, 40, 40, 40]
def kd (τ : Nat) : Nat := kr_kdT.getD τ 0
def kr_lnT : List (Option Nat) := [none, none, none, some 1024, some 1024, some 6, some 3, some 3, some 4, some 4, none, some 20, some 6, none, some 3, some 3, some 4, none, none, none, none, none, none, none, none, none, none, none, none, none, none, none, none, none, none, none, none, none, none, none, none, some 12, none, none, none, none, none, none, some 3, none, some 1, some 12, some 3, none, none, none, none, none, none, none, none, none, none, none, none, none, none, none, none, none, none, none, none, none, none, none, none, none, none, none, none, none, none, none, none, none, none, none, none, none, none, none, none, none, none, none, none, none, none, none, none, some 18, some 18, some 6, some 18, some 36, some 36, some 6, some 6, none, some 9, some 108, some 108, some 108, some 108, some 108, some 96, some 3, some 3, none, some 60, some 60, some 60, some 60, some 60, some 60, some 60, some 60, some 60, some 180, none, some 60, some 60, some 60, some 60, some 60, some 180, some 28, some 4, none, some 60, some 60, some 60, some 60, some 60, some 60, none, some 60, some 60, some 60, some 60, some 60, none, some 200, some 200, some 200, some 200, some 200, some 200, some 200, none, none, none, none, some 20, some 20, some 4, some 4, some 4, some 240, none, some 20, some 20, some 20, some 20, some 20, some 6, none, some 1200, some 1200, some 1200, none, none, none, none, none, none, none, none, none, none, none, none, none, none, none, none, none, none, none, some 14, some 35, some 36, some 60, some 20, some 30, some 60, some 45, some 60, some 50, some 60, some 20, some 16, some 20]
def ln (τ : Nat) : Option Nat := kr_lnT.getD τ none
def kr_sgT : List (Option Nat) := [none, some 4, some 5, some 6, some 7, some 8, some 9, some 10, some 20, some 21, some 25, some 26, some 28, none, none, none, none, none, none, none, some 17, some 18, some 19, some 22, some 23, some 24, some 27, none, none, none, none, none, none, none, none, none, none, none, none, none, none, none, none, none, none, none, none, none, none, none, some 126, none, none, none, none, none, none, none, none, none, none, none, none, none, none, none, none, none, none, none, none, none, none, none, none, none, none, none, none, none, none, none, none, none, none, none, none, none, none, none, none, none, none, none, none, none, none, none, none, none, some 57, some 58, some 59, some 60, some 61, some 62, some 63, some 64, some 65, none, some 66, some 67, some 68, some 69, some 70, some 71, some 72, some 73, some 74, none, some 75, some 76, some 77, some 78, some 79, some 80, some 81, some 82, some 83, some 84, none, some 85, some 86, some 87, some 88, some 89, some 90, some 91, some 92, none, some 93, some 94, some 95, some 96, some 97, some 98, none, some 99, some 100, some 101, some 102, some 103, none, some 104, some 105, some 106, some 107, some 108, some 109, some 110, none, none, none, none, some 111, some 112, some 113, some 114, some 115, some 116, none, some 117, some 118, some 119, some 120, some 121, some 122, none, some 123, some 124, some 125, none, none, none, none]
def sg (τ : Nat) : Option Nat := kr_sgT.getD τ none
def kr_ftT : List (List (Option Nat)) := [[], [none, some 2, some 5, some 6, some 7, some 40, some 20, some 21, some 22, none, some 8, some 9, some 23, some 24, some 25, some 10, some 26, some 12], [some 3, some 4], [], [], [some 13, some 13, some 13, some 13, some 13, some 13], [], [], [], [some 17, some 17, some 17, some 17], [none, none, none, none, none, some 11], [], [], [none, some 14, some 15, none, none, none, none, none, none, some 16], [], [], [], [], [], [], [], [], [], [], [], [], [], [], [], [], [], [], [], [], [], [], [], [], [], [], [some 41, some 41, some 41, some 41, some 41], [], [some 13, none, none, some 40, some 47], [none, some 13, none, some 47], [some 43], [some 44], [some 13], [some 48], [], [], [], [], [], [], [], [], [], [], [], [], [], [], [], [], [], [], [], [], [], [], [], [], [], [], [], [], [], [], [], [], [], [], [], [], [], [], [], [], [], [], [], [], [], [], [], [], [], [], [], [], [none, some 101, some 102, some 103, some 104, some 105, some 106, some 107, some 108, none, some 110, some 111, some 112, some 113, some 114, some 115, some 116, some 117, some 118, none, some 120, some 121, some 122, some 123, some 124, some 125, some 126, some 127, some 128, some 129, none, some 131, some 132, some 133, some 134, some 135, some 136, some 137, some 138, none, some 140, some 141, some 142, some 143, some 144, some 145, none, some 147, some 148, some 149, some 150, some 151, none, some 153, some 154, some 155, some 156, some 157, some 158, some 159, none, none, none, none, some 164, some 165, some 166, some 167, some 168, some 169, none, some 171, some 172, some 173, some 174, some 175, some 176, none, some 178, some 179, some 180], [], [], [], [], [], [], [], [], [], [], [], [], [], [], [], [], [], [], [], [], [], [], [], [], [], [], [], [], [], [], [], [], [], [], [], [], [], [], [], [], [], [], [], [], [], [], [], [], [], [], [], [], [], [], [], [], [], [], [], [], [], [], [], [], [], [], [], [], [], [], [], [], [], [], [], [], [], [], [], [], [], [], [], []]
def ft (τ j : Nat) : Option Nat := (kr_ftT.getD τ []).getD j none
def kr_fnT : List (List (Option Nat)) := [[], [], [], [], [], [], [], [], [], [], [], [], [], [], [], [], [], [], [], [], [], [], [], [], [], [], [], [], [], [], [], [], [], [], [], [], [], [], [], [], [], [], [], [none, none, some 43], [], [], [], [], [], [], [], [], [], [], [], [], [], [], [], [], [], [], [], [], [], [], [], [], [], [], [], [], [], [], [], [], [], [], [], [], [], [], [], [], [], [], [], [], [], [], [], [], [], [], [], [], [], [], [], [], [], [], [], [], [], [], [], [], [], [], [], [], [], [], [], [], [], [], [], [], [], [], [], [], [], [], [], [], [], [], [], [], [], [], [], [], [], [], [], [], [], [], [], [], [], [], [], [], [], [], [], [], [], [], [], [], [], [], [], [], [], [], [], [], [], [], [], [], [], [], [], [], [], [], [], [], [], [], [], [], [], [], [], [], []]
def fn (τ j : Nat) : Option Nat := (kr_fnT.getD τ []).getD j none
def kr_rfT : List (List (Option (Int × Int))) := [[], [], [none, none, some (0, 1024)], [], [], [], [], [], [], [], [], [], [], [none, none, none, none, none, none, none, none, none, none, some (0, 1), some (0, 1)], [], [], [], [none, some (0, 1)], [], [], [none, none, some (0, 8)], [none, none, some (0, 60)], [none, none, some (0, 60)], [none, none, some (0, 60)], [none, none, some (0, 200)], [none, none, some (0, 200)], [none, none, some (0, 20)], [], [], [], [], [], [], [], [], [], [], [], [], [], [none, none, none, none, none, some (0, 12)], [], [], [none, none, none, none, none, none, some (0, 1)], [none, none, none, none, none, none, some (0, 1)], [], [none, none, some (0, 1)], [], [], [], [], [], [], [], [], [], [], [], [], [], [], [], [], [], [], [], [], [], [], [], [], [], [], [], [], [], [], [], [], [], [], [], [], [], [], [], [], [], [], [], [], [], [], [], [], [], [], [], [], [], [none, none, none, none, none, none, none, none, none, some (0, 8), none, none, none, none, none, none, none, none, none, some (0, 60), none, none, none, none, none, none, none, none, none, none, some (0, 60), none, none, none, none, none, none, none, none, some (0, 60), none, none, none, none, none, none, some (0, 60), none, none, none, none, none, some (0, 200), none, none, none, none, none, none, none, some (1, 20), some (0, 19), some (-1, 19), none, none, none, none, none, none, none, some (0, 20), none, none, none, none, none, none, some (0, 1200)], [], [], [], [], [], [], [], [], [], [], [], [], [], [], [], [], [], [], [], [], [], [], [], [], [], [], [], [], [], [], [], [], [], [], [], [], [], [], [], [], [], [], [], [], [], [], [], [], [], [], [], [], [], [], [], [], [], [], [], [], [], [], [], [], [], [], [], [], [], [], [], [], [], [], [], [], [], [], [], [], [], [], [], []]
def rf (τ j : Nat) : Option (Int × Int) := (kr_rfT.getD τ []).getD j none
def kr_raT : List (Option (Nat × Int × Int)) := [none, none, none, none, none, none, none, none, none, none, none, none, none, none, none, none, none, none, none, none, none, none, none, none, none, none, none, none, none, none, none, none, none, none, none, none, none, none, none, none, none, none, none, none, none, none, none, none, none, none, none, none, none, none, none, none, none, none, none, none, none, none, none, none, none, none, none, none, none, none, none, none, none, none, none, none, none, none, none, none, none, none, none, none, none, none, none, none, none, none, none, none, none, none, none, none, none, none, none, none, none, some (18, 0, 2), none, none, none, some (36, 0, 1), some (36, 0, 1), some (6, 0, 1), some (6, 0, 1), none, some (9, 0, 12), some (108, 0, 6), some (108, 0, 20), none, none, none, some (96, 0, 1), none, none, none, some (60, 0, 5), some (60, 0, 5), some (60, 0, 5), some (60, 0, 7), some (60, -1, 11), some (60, 0, 2), none, none, some (60, -1, 59), none, none, some (60, 0, 5), none, none, some (60, -1, 59), some (60, 0, 1), none, none, none, none, some (60, 0, 59), some (60, 0, 3), some (60, 0, 3), none, none, some (60, -1, 59), none, some (60, 0, 59), none, none, none, some (60, 0, 1), none, some (200, 0, 3), some (200, 0, 3), none, none, some (200, 0, 59), some (200, 0, 19), none, none, none, none, none, some (20, 0, 1), none, some (4, 0, 1), none, none, some (240, 0, 1), none, some (20, 0, 5), none, some (20, 0, 1), none, none, some (6, -1, 5), none, none, none, none, none, none, none, none]
def ra (τ : Nat) : Option (Nat × Int × Int) := kr_raT.getD τ none
def lp (q : Nat) : Nat := [17, 18, 19, 22, 23, 24, 27].getD q 0
def el (q : Nat) : Nat := [40, 42, 43, 44, 44, 45, 46].getD q 0
abbrev In (lo hi : Int) (v : Int32) : Prop := lo ≤ v.toInt ∧ v.toInt ≤ hi
def Tx (T : Nat → Nat) (τ : Nat) (x : Option Nat) : Prop := ∃ k, x = some k ∧ T k = τ ∧ τ ≠ 0
/-- a list: its row, its size, its elements -/
def LO (T : Nat → Nat) (S : AS) (q : Nat) : Prop := T (lp q) = 20 + q ∧ ∃ d, sR S (lp q) 1 = some d ∧ (T d = 30 + q ∨ d = 0) ∧ (sI S (lp q) 2).toInt ≤ (sL S d : Int) ∧ sL S d ≤ 400 ∧ ∀ i : Nat, (i : Int) < (sI S (lp q) 2).toInt → Tx T (el q) (sR S d i)
def TI (T : Nat → Nat) (S : AS) : Prop :=
  (∀ k, T k ≠ 0 → k < sN S ∧ sK S k = kd (T k) ∧ kd (T k) ≠ 0 ∧ (∀ n, ln (T k) = some n → sL S k = n)) ∧
  (∀ k j τ, ft (T k) j = some τ → Tx T τ (sR S k j)) ∧
  (∀ k j τ, fn (T k) j = some τ → sR S k j = none ∨ Tx T τ (sR S k j)) ∧
  (∀ k j lo hi, rf (T k) j = some (lo, hi) → In lo hi (sI S k j)) ∧
  (∀ k j n lo hi, ra (T k) = some (n, lo, hi) → j < n → In lo hi (sI S k j)) ∧
  (∀ q, q < 7 → LO T S q) ∧
  (∀ k p, sg (T k) = some p → k = p) ∧
  (4 ≤ sN S ∧ sK S 0 = 1 ∧ sK S 1 = 2 ∧ sK S 2 = 3 ∧ sK S 3 = 4 ∧ sL S 0 = 0 ∧ sL S 1 = 3) ∧
  (T 57 = 100 ∧ T 89 = 135 ∧ T 103 = 151 ∧ T 98 = 145 ∧ T 4 = 1 ∧ T 126 = 50)
theorem TI.t1 {T : Nat → Nat} {S : AS} (h : TI T S) : ∀ k, T k ≠ 0 → k < sN S ∧ sK S k = kd (T k) ∧ kd (T k) ≠ 0 ∧ (∀ n, ln (T k) = some n → sL S k = n) := h.1
theorem TI.t2 {T : Nat → Nat} {S : AS} (h : TI T S) : ∀ k j τ, ft (T k) j = some τ → Tx T τ (sR S k j) := h.2.1
theorem TI.t3 {T : Nat → Nat} {S : AS} (h : TI T S) : ∀ k j τ, fn (T k) j = some τ → sR S k j = none ∨ Tx T τ (sR S k j) := h.2.2.1
theorem TI.t4 {T : Nat → Nat} {S : AS} (h : TI T S) : ∀ k j lo hi, rf (T k) j = some (lo, hi) → In lo hi (sI S k j) := h.2.2.2.1
theorem TI.t5 {T : Nat → Nat} {S : AS} (h : TI T S) : ∀ k j n lo hi, ra (T k) = some (n, lo, hi) → j < n → In lo hi (sI S k j) := h.2.2.2.2.1
theorem TI.t6 {T : Nat → Nat} {S : AS} (h : TI T S) : ∀ q, q < 7 → LO T S q := h.2.2.2.2.2.1
theorem TI.t7 {T : Nat → Nat} {S : AS} (h : TI T S) : ∀ k p, sg (T k) = some p → k = p := h.2.2.2.2.2.2.1
theorem TI.t8 {T : Nat → Nat} {S : AS} (h : TI T S) : 4 ≤ sN S ∧ sK S 0 = 1 ∧ sK S 1 = 2 ∧ sK S 2 = 3 ∧ sK S 3 = 4 ∧ sL S 0 = 0 ∧ sL S 1 = 3 := h.2.2.2.2.2.2.2.1
theorem TI.t9 {T : Nat → Nat} {S : AS} (h : TI T S) : T 57 = 100 ∧ T 89 = 135 ∧ T 103 = 151 ∧ T 98 = 145 ∧ T 4 = 1 ∧ T 126 = 50 := h.2.2.2.2.2.2.2.2
theorem ti_sI_ne {S : AS} {k j a b : Nat} {v : Int32} (h : ¬ (a = k ∧ b = j)) : sI (wI S k j v) a b = sI S a b := by
  show (if a = k ∧ b = j then v else sI S a b) = _
  rw [if_neg h]
theorem ti_sI_eq (S : AS) (k j : Nat) (v : Int32) : sI (wI S k j v) k j = v := by
  show (if k = k ∧ j = j then v else sI S k j) = v
  rw [if_pos ⟨rfl, rfl⟩]
theorem ti_sR_ne {S : AS} {k j a b : Nat} {v : Option Nat} (h : ¬ (a = k ∧ b = j)) : sR (wR S k j v) a b = sR S a b := by
  show (if a = k ∧ b = j then v else sR S a b) = _
  rw [if_neg h]
theorem ti_sR_eq (S : AS) (k j : Nat) (v : Option Nat) : sR (wR S k j v) k j = v := by
  show (if k = k ∧ j = j then v else sR S k j) = v
  rw [if_pos ⟨rfl, rfl⟩]
theorem TIwI {T : Nat → Nat} {S : AS} {τ k j : Nat} {v : Int32} (h : TI T S) (hk : T k = τ) (h1 : ∀ lo hi, rf τ j = some (lo, hi) → In lo hi v) (h2 : ∀ n lo hi, ra τ = some (n, lo, hi) → In lo hi v) (h3 : ¬ (20 ≤ τ ∧ τ < 27 ∧ j = 2)) : TI T (wI S k j v) := by
  refine ⟨h.t1, h.t2, h.t3, ?_, ?_, ?_, h.t7, h.t8, h.t9⟩
  · intro a b lo hi e
    by_cases c : a = k ∧ b = j
    · obtain ⟨rfl, rfl⟩ := c
      rw [ti_sI_eq]
      exact h1 lo hi (by rw [← hk]; exact e)
    · rw [ti_sI_ne c]
      exact h.t4 a b lo hi e
  · intro a b n lo hi e hb
    by_cases c : a = k ∧ b = j
    · obtain ⟨rfl, rfl⟩ := c
      rw [ti_sI_eq]
      exact h2 n lo hi (by rw [← hk]; exact e)
    · rw [ti_sI_ne c]
      exact h.t5 a b n lo hi e hb
  · intro q hq
    obtain ⟨l1, d, l2, l3, l4, l5, l6⟩ := h.t6 q hq
    have c : ¬ (lp q = k ∧ 2 = j) := by
      rintro ⟨c1, c2⟩
      subst c1
      rw [l1] at hk
      exact h3 (by omega)
    refine ⟨l1, d, l2, l3, ?_, l5, ?_⟩
    · rw [ti_sI_ne c]; exact l4
    · rw [ti_sI_ne c]; exact l6
theorem TIwR {T : Nat → Nat} {S : AS} {τ k j : Nat} {v : Option Nat} (h : TI T S) (hk : T k = τ) (h1 : ∀ τ', ft τ j = some τ' → Tx T τ' v) (h2 : ∀ τ', fn τ j = some τ' → v = none ∨ Tx T τ' v) (h3 : ¬ (20 ≤ τ ∧ τ < 27)) (h4 : ¬ (30 ≤ τ ∧ τ < 37)) (h5 : k ≠ 0) : TI T (wR S k j v) := by
  refine ⟨h.t1, ?_, ?_, h.t4, h.t5, ?_, h.t7, h.t8, h.t9⟩
  · intro a b τ' e
    by_cases c : a = k ∧ b = j
    · obtain ⟨rfl, rfl⟩ := c
      rw [ti_sR_eq]
      exact h1 τ' (by rw [← hk]; exact e)
    · rw [ti_sR_ne c]
      exact h.t2 a b τ' e
  · intro a b τ' e
    by_cases c : a = k ∧ b = j
    · obtain ⟨rfl, rfl⟩ := c
      rw [ti_sR_eq]
      exact h2 τ' (by rw [← hk]; exact e)
    · rw [ti_sR_ne c]
      exact h.t3 a b τ' e
  · intro q hq
    obtain ⟨l1, d, l2, l3, l4, l5, l6⟩ := h.t6 q hq
    have c : ¬ (lp q = k ∧ 1 = j) := by
      rintro ⟨c1, c2⟩
      subst c1
      rw [l1] at hk
      exact h3 (by omega)
    have c' : d ≠ k := by
      rintro rfl
      rcases l3 with l3 | l3
      · rw [l3] at hk
        exact h4 (by omega)
      · exact h5 l3
    refine ⟨l1, d, ?_, l3, l4, l5, ?_⟩
    · rw [ti_sR_ne c]; exact l2
    · intro i hi
      rw [ti_sR_ne (fun q => c' q.1)]
      exact l6 i hi
theorem TIfresh {T : Nat → Nat} {S : AS} (h : TI T S) {k : Nat} (hk : sN S ≤ k) : T k = 0 := by
  by_cases c : T k = 0
  · exact c
  · exact absurd (h.t1 k c).1 (by omega)
theorem ti_wN {S : AS} {κ l s k : Nat} (hk : k ≠ sN S) : sK (wN S κ l s) k = sK S k ∧ sL (wN S κ l s) k = sL S k ∧ sI (wN S κ l s) k = sI S k ∧ sR (wN S κ l s) k = sR S k ∧ sJ (wN S κ l s) k = sJ S k := ⟨if_neg hk, if_neg hk, if_neg hk, if_neg hk, if_neg hk⟩
theorem ti_wN0 (S : AS) (κ l s : Nat) : sK (wN S κ l s) (sN S) = κ ∧ sL (wN S κ l s) (sN S) = l ∧ sI (wN S κ l s) (sN S) = (fun _ => 0) ∧ sR (wN S κ l s) (sN S) = (fun _ => none) := ⟨if_pos rfl, if_pos rfl, if_pos rfl, if_pos rfl⟩
theorem ft0 (j : Nat) : ft 0 j = none := rfl
theorem fn0 (j : Nat) : fn 0 j = none := rfl
theorem rf0 (j : Nat) : rf 0 j = none := rfl
theorem ra0 : ra 0 = none := rfl
theorem sg0 : sg 0 = none := rfl
theorem TIwN {T : Nat → Nat} {S : AS} {κ l s : Nat} (h : TI T S) : TI T (wN S κ l s) := by
  have hf : T (sN S) = 0 := TIfresh h (Nat.le_refl _)
  have h8 := h.t8
  have hne : ∀ {k : Nat}, T k ≠ 0 → k ≠ sN S := fun hk e => hk (by rw [e]; exact hf)
  refine ⟨?_, ?_, ?_, ?_, ?_, ?_, h.t7, ?_, h.t9⟩
  · intro k hk
    obtain ⟨a1, a2, a3, a4⟩ := h.t1 k hk
    have e := ti_wN (S := S) (κ := κ) (l := l) (s := s) (hne hk)
    exact ⟨Nat.lt_succ_of_lt a1, by rw [e.1]; exact a2, a3, fun n q => by rw [e.2.1]; exact a4 n q⟩
  · intro k j τ e
    have hk : T k ≠ 0 := fun q => by rw [q, ft0] at e; cases e
    rw [(ti_wN (S := S) (κ := κ) (l := l) (s := s) (hne hk)).2.2.2.1]
    exact h.t2 k j τ e
  · intro k j τ e
    have hk : T k ≠ 0 := fun q => by rw [q, fn0] at e; cases e
    rw [(ti_wN (S := S) (κ := κ) (l := l) (s := s) (hne hk)).2.2.2.1]
    exact h.t3 k j τ e
  · intro k j lo hi e
    have hk : T k ≠ 0 := fun q => by rw [q, rf0] at e; cases e
    rw [(ti_wN (S := S) (κ := κ) (l := l) (s := s) (hne hk)).2.2.1]
    exact h.t4 k j lo hi e
  · intro k j n lo hi e hj
    have hk : T k ≠ 0 := fun q => by rw [q, ra0] at e; cases e
    rw [(ti_wN (S := S) (κ := κ) (l := l) (s := s) (hne hk)).2.2.1]
    exact h.t5 k j n lo hi e hj
  · intro q hq
    obtain ⟨l1, d, l2, l3, l4, l5, l6⟩ := h.t6 q hq
    have hp : lp q ≠ sN S := hne (by rw [l1]; omega)
    have hd : d ≠ sN S := by
      rcases l3 with l3 | l3
      · exact hne (by rw [l3]; omega)
      · omega
    obtain ⟨p1, p2, p3, p4, p5⟩ := ti_wN (S := S) (κ := κ) (l := l) (s := s) hp
    obtain ⟨d1, d2, d3, d4, d5⟩ := ti_wN (S := S) (κ := κ) (l := l) (s := s) hd
    refine ⟨l1, d, by rw [p4]; exact l2, l3, by rw [p3, d2]; exact l4, by rw [d2]; exact l5, fun i hi => by rw [d4]; rw [p3] at hi; exact l6 i hi⟩
  · obtain ⟨b0, b1, b2, b3, b4, b5, b6⟩ := h8
    have e : ∀ k, k < 4 → sK (wN S κ l s) k = sK S k ∧ sL (wN S κ l s) k = sL S k := fun k hk => by
      have := ti_wN (S := S) (κ := κ) (l := l) (s := s) (k := k) (by omega)
      exact ⟨this.1, this.2.1⟩
    exact ⟨Nat.le_succ_of_le b0, by rw [(e 0 (by omega)).1]; exact b1, by rw [(e 1 (by omega)).1]; exact b2, by rw [(e 2 (by omega)).1]; exact b3, by rw [(e 3 (by omega)).1]; exact b4, by rw [(e 0 (by omega)).2]; exact b5, by rw [(e 1 (by omega)).2]; exact b6⟩

theorem Tx.ne {T : Nat → Nat} {τ : Nat} {x : Option Nat} (h : Tx T τ x) : ¬ x = none := by
  obtain ⟨k, rfl, -⟩ := h
  exact fun q => nomatch q
theorem Tx.up {T T' : Nat → Nat} {τ : Nat} {x : Option Nat} (h : Tx T τ x) (e : ∀ k, T k ≠ 0 → T' k = T k) : Tx T' τ x := by
  obtain ⟨k, h1, h2, h3⟩ := h
  exact ⟨k, h1, by rw [e k (by rw [h2]; exact h3)]; exact h2, h3⟩
/-- a place gets its type -/
theorem TIpr {T : Nat → Nat} {S : AS} {τ k : Nat} (h : TI T S) (h0 : T k = 0) (hk : k < sN S) (hK : sK S k = kd τ) (hne : kd τ ≠ 0) (hl : ∀ n, ln τ = some n → sL S k = n)
    (h1 : ∀ j τ', ft τ j = some τ' → Tx T τ' (sR S k j)) (h2 : ∀ j τ', fn τ j = some τ' → sR S k j = none ∨ Tx T τ' (sR S k j))
    (h3 : ∀ j lo hi, rf τ j = some (lo, hi) → In lo hi (sI S k j)) (h4 : ∀ j n lo hi, ra τ = some (n, lo, hi) → j < n → In lo hi (sI S k j)) (h5 : sg τ = none) : TI (kr_w T k τ) S := by
  have e : ∀ a, T a ≠ 0 → kr_w T k τ a = T a := fun a ha => if_neg (fun q => ha (by rw [q]; exact h0))
  have ek : kr_w T k τ k = τ := if_pos rfl
  have en : ∀ a, a ≠ k → kr_w T k τ a = T a := fun a ha => if_neg ha
  refine ⟨?_, ?_, ?_, ?_, ?_, ?_, ?_, h.t8, by
    obtain ⟨z1, z2, z3, z6, z4, z5⟩ := h.t9
    exact ⟨(e _ (by rw [z1]; decide)).trans z1, (e _ (by rw [z2]; decide)).trans z2, (e _ (by rw [z3]; decide)).trans z3, (e _ (by rw [z6]; decide)).trans z6, (e _ (by rw [z4]; decide)).trans z4, (e _ (by rw [z5]; decide)).trans z5⟩⟩
  · intro a ha
    by_cases c : a = k
    · subst c
      rw [ek]
      exact ⟨hk, hK, hne, hl⟩
    · rw [en a c] at ha ⊢
      exact h.t1 a ha
  · intro a j τ' q
    by_cases c : a = k
    · subst c
      rw [ek] at q
      exact (h1 j τ' q).up e
    · rw [en a c] at q
      exact (h.t2 a j τ' q).up e
  · intro a j τ' q
    by_cases c : a = k
    · subst c
      rw [ek] at q
      exact (h2 j τ' q).imp id (fun z => z.up e)
    · rw [en a c] at q
      exact (h.t3 a j τ' q).imp id (fun z => z.up e)
  · intro a j lo hi q
    by_cases c : a = k
    · subst c
      rw [ek] at q
      exact h3 j lo hi q
    · rw [en a c] at q
      exact h.t4 a j lo hi q
  · intro a j n lo hi q hj
    by_cases c : a = k
    · subst c
      rw [ek] at q
      exact h4 j n lo hi q hj
    · rw [en a c] at q
      exact h.t5 a j n lo hi q hj
  · intro q hq
    obtain ⟨l1, d, l2, l3, l4, l5, l6⟩ := h.t6 q hq
    refine ⟨by rw [e _ (by rw [l1]; omega)]; exact l1, d, l2, ?_, l4, l5, fun i hi => (l6 i hi).up e⟩
    rcases l3 with l3 | l3
    · exact Or.inl (by rw [e _ (by rw [l3]; omega)]; exact l3)
    · exact Or.inr l3
  · intro a p q
    by_cases c : a = k
    · subst c
      rw [ek, h5] at q
      cases q
    · rw [en a c] at q
      exact h.t7 a p q
/-! ===== what bounds the entries of the reference ===== -/
def cnt (f : Nat → Int32) : Nat → Nat
  | 0 => 0
  | n + 1 => cnt f n + (if f n = 1 then 1 else 0)
theorem cnt_eq {f g : Nat → Int32} : ∀ {n : Nat}, (∀ j, j < n → f j = g j) → cnt f n = cnt g n
  | 0, _ => rfl
  | n + 1, h => by
    show cnt f n + _ = cnt g n + _
    rw [cnt_eq (n := n) (fun j hj => h j (by omega)), h n (by omega)]
theorem cnt_le (f : Nat → Int32) : ∀ n, cnt f n ≤ n
  | 0 => Nat.le_refl _
  | n + 1 => by
    have := cnt_le f n
    show cnt f n + (if f n = 1 then 1 else 0) ≤ n + 1
    split <;> omega
theorem cnt_one {f g : Nat → Int32} {i : Nat} (h : ∀ j, j ≠ i → f j = g j) : ∀ {n : Nat}, i < n → cnt f n + (if g i = 1 then 1 else 0) = cnt g n + (if f i = 1 then 1 else 0)
  | 0, hi => absurd hi (Nat.not_lt_zero _)
  | n + 1, hi => by
    show cnt f n + (if f n = 1 then 1 else 0) + _ = cnt g n + (if g n = 1 then 1 else 0) + _
    by_cases c : i = n
    · subst c
      rw [cnt_eq (f := f) (g := g) (fun j hj => h j (by omega))]
      omega
    · have := cnt_one h (n := n) (by omega)
      rw [h n (fun q => c q.symm)]
      omega
def Ph (S : AS) : Int := (sI S 57 77).toInt + cnt (sI S 89) 60 + cnt (sI S 103) 60 + 240 - 2 * (sI S 57 30).toInt - 2 * (sI S 57 46).toInt + (if sI S 57 62 = -1 then 0 else 1)
def cnm (f : Nat → Int32) : Nat → Nat
  | 0 => 0
  | n + 1 => cnm f n + (if f n = -1 then 1 else 0)
theorem cnm_eq {f g : Nat → Int32} : ∀ {n : Nat}, (∀ j, j < n → f j = g j) → cnm f n = cnm g n
  | 0, _ => rfl
  | n + 1, h => by
    show cnm f n + _ = cnm g n + _
    rw [cnm_eq (n := n) (fun j hj => h j (by omega)), h n (by omega)]
theorem cnm_one {f g : Nat → Int32} {i : Nat} (h : ∀ j, j ≠ i → f j = g j) : ∀ {n : Nat}, i < n → cnm f n + (if g i = -1 then 1 else 0) = cnm g n + (if f i = -1 then 1 else 0)
  | 0, hi => absurd hi (Nat.not_lt_zero _)
  | n + 1, hi => by
    show cnm f n + (if f n = -1 then 1 else 0) + _ = cnm g n + (if g n = -1 then 1 else 0) + _
    by_cases c : i = n
    · subst c
      rw [cnm_eq (f := f) (g := g) (fun j hj => h j (by omega))]
      omega
    · have := cnm_one h (n := n) (by omega)
      rw [h n (fun q => c q.symm)]
      omega
theorem cnm_pos {f : Nat → Int32} {i : Nat} (h : f i = -1) : ∀ {n : Nat}, i < n → 1 ≤ cnm f n
  | 0, hi => absurd hi (Nat.not_lt_zero _)
  | n + 1, hi => by
    show 1 ≤ cnm f n + (if f n = -1 then 1 else 0)
    by_cases c : i = n
    · subst c
      rw [if_pos h]
      omega
    · have := cnm_pos h (n := n) (by omega)
      omega
/-- families and codes that wait, against the codes -/
def Gf (S : AS) : Int := (sI S 57 46).toInt + cnm (sI S 98) 60 - (sI S 57 39).toInt
theorem Gf_eq {S S' : AS} (h1 : sI S' 57 = sI S 57) (h2 : sI S' 98 = sI S 98) : Gf S' = Gf S := by
  unfold Gf
  rw [h1, h2]
theorem Ph_eq {S S' : AS} (h1 : sI S' 57 = sI S 57) (h2 : sI S' 89 = sI S 89) (h3 : sI S' 103 = sI S 103) : Ph S' = Ph S := by
  unfold Ph
  rw [h1, h2, h3]
/-- the cells that the bound is made of -/
def phc (τ j : Nat) : Prop := τ = 135 ∨ τ = 151 ∨ (τ = 100 ∧ (j = 77 ∨ j = 30 ∨ j = 46 ∨ j = 39 ∨ j = 62)) ∨ τ = 145
theorem Ph_wI {T : Nat → Nat} {S : AS} {τ k j : Nat} {v : Int32} (h : T 57 = 100 ∧ T 89 = 135 ∧ T 103 = 151 ∧ T 98 = 145 ∧ T 4 = 1 ∧ T 126 = 50) (hk : T k = τ) (hp : ¬ phc τ j) : Ph (wI S k j v) = Ph S := by
  obtain ⟨t1, t2, t3, -⟩ := h
  have e2 : sI (wI S k j v) 89 = sI S 89 := by
    funext b
    rw [ti_sI_ne]
    rintro ⟨rfl, rfl⟩
    rw [t2] at hk
    exact hp (Or.inl hk.symm)
  have e3 : sI (wI S k j v) 103 = sI S 103 := by
    funext b
    rw [ti_sI_ne]
    rintro ⟨rfl, rfl⟩
    rw [t3] at hk
    exact hp (Or.inr (Or.inl hk.symm))
  have e1 : ∀ b, (b = 77 ∨ b = 30 ∨ b = 46 ∨ b = 39 ∨ b = 62) → sI (wI S k j v) 57 b = sI S 57 b := by
    intro b hb
    rw [ti_sI_ne]
    rintro ⟨rfl, rfl⟩
    rw [t1] at hk
    exact hp (Or.inr (Or.inr (Or.inl ⟨hk.symm, hb⟩)))
  unfold Ph
  rw [e1 77 (by omega), e1 30 (by omega), e1 46 (by omega), e1 62 (by omega), e2, e3]
theorem Gf_wI {T : Nat → Nat} {S : AS} {τ k j : Nat} {v : Int32} (h : T 57 = 100 ∧ T 89 = 135 ∧ T 103 = 151 ∧ T 98 = 145 ∧ T 4 = 1 ∧ T 126 = 50) (hk : T k = τ) (hp : ¬ phc τ j) : Gf (wI S k j v) = Gf S := by
  obtain ⟨t1, t2, t3, t4, -⟩ := h
  have e2 : sI (wI S k j v) 98 = sI S 98 := by
    funext b
    rw [ti_sI_ne]
    rintro ⟨rfl, rfl⟩
    rw [t4] at hk
    exact hp (Or.inr (Or.inr (Or.inr hk.symm)))
  have e1 : ∀ b, (b = 77 ∨ b = 30 ∨ b = 46 ∨ b = 39 ∨ b = 62) → sI (wI S k j v) 57 b = sI S 57 b := by
    intro b hb
    rw [ti_sI_ne]
    rintro ⟨rfl, rfl⟩
    rw [t1] at hk
    exact hp (Or.inr (Or.inr (Or.inl ⟨hk.symm, hb⟩)))
  unfold Gf
  rw [e1 46 (by omega), e1 39 (by omega), e2]
/-! ===== what a run of a function leaves: types kept, what isn't in the list of its classes unchanged, the room ===== -/
def cl (τ j : Nat) : Nat := if kd τ < 40 then 100 * τ + j else 100 * τ
def cr (τ j : Nat) : Nat := 50000 + cl τ j
def Rl (T0 : Nat → Nat) (w : List Nat) (S0 : AS) (c s : Nat) (T : Nat → Nat) (S : AS) : Prop :=
  TI T S ∧ sN S0 ≤ sN S ∧ (∀ k, k < sN S0 → T k = T0 k ∧ sK S k = sK S0 k ∧ sL S k = sL S0 k) ∧ (sC S ≤ sC S0 + c ∧ sS S ≤ sS S0 + s ∧ Ph S ≤ Ph S0 + c ∧ Gf S ≤ Gf S0 + s) ∧
  (∀ k j, T0 k ≠ 0 → ¬ cl (T0 k) j ∈ w → sI S k j = sI S0 k j) ∧ (∀ k j, T0 k ≠ 0 → ¬ cr (T0 k) j ∈ w → sR S k j = sR S0 k j) ∧
  (∀ k j, T0 k ≠ 0 → ¬ 99999 ∈ w → sJ S k j = sJ S0 k j) ∧ (sI S0 24 2).toInt ≤ (sI S 24 2).toInt ∧ TI T0 S0
theorem Rl.ti {T0 T : Nat → Nat} {w : List Nat} {S0 S : AS} {c s : Nat} (h : Rl T0 w S0 c s T S) : TI T S := h.1
theorem Rl.lt {T0 T : Nat → Nat} {w : List Nat} {S0 S : AS} {c s : Nat} (h : Rl T0 w S0 c s T S) {k : Nat} (hk : T0 k ≠ 0) : k < sN S0 := (h.2.2.2.2.2.2.2.2.t1 k hk).1
theorem Rl.ty {T0 T : Nat → Nat} {w : List Nat} {S0 S : AS} {c s : Nat} (h : Rl T0 w S0 c s T S) : ∀ k, T0 k ≠ 0 → T k = T0 k := fun k hk => (h.2.2.1 k (h.lt hk)).1
theorem Rl.fI {T0 T : Nat → Nat} {w : List Nat} {S0 S : AS} {c s : Nat} (h : Rl T0 w S0 c s T S) : ∀ k j, T0 k ≠ 0 → ¬ cl (T0 k) j ∈ w → sI S k j = sI S0 k j := h.2.2.2.2.1
theorem Rl.fR {T0 T : Nat → Nat} {w : List Nat} {S0 S : AS} {c s : Nat} (h : Rl T0 w S0 c s T S) : ∀ k j, T0 k ≠ 0 → ¬ cr (T0 k) j ∈ w → sR S k j = sR S0 k j := h.2.2.2.2.2.1
theorem Rl.fJ {T0 T : Nat → Nat} {w : List Nat} {S0 S : AS} {c s : Nat} (h : Rl T0 w S0 c s T S) : ∀ k j, T0 k ≠ 0 → ¬ 99999 ∈ w → sJ S k j = sJ S0 k j := h.2.2.2.2.2.2.1
theorem Rlrf {T : Nat → Nat} {S : AS} (h : TI T S) : Rl T [] S 0 0 T S :=
  ⟨h, Nat.le_refl _, fun _ _ => ⟨rfl, rfl, rfl⟩, ⟨Nat.le_refl _, Nat.le_refl _, by omega, by omega⟩, fun _ _ _ _ => rfl, fun _ _ _ _ => rfl, fun _ _ _ _ => rfl, Int.le_refl _, h⟩
theorem Rlweak {T0 T : Nat → Nat} {w w' : List Nat} {S0 S : AS} {c s c' s' : Nat} (h : Rl T0 w S0 c s T S) (hw : ∀ x ∈ w, x ∈ w') (hc : c ≤ c') (hs : s ≤ s') : Rl T0 w' S0 c' s' T S :=
  ⟨h.1, h.2.1, h.2.2.1, ⟨Nat.le_trans h.2.2.2.1.1 (Nat.add_le_add_left hc _), Nat.le_trans h.2.2.2.1.2.1 (Nat.add_le_add_left hs _), by have := h.2.2.2.1.2.2.1; omega, by have := h.2.2.2.1.2.2.2; omega⟩, fun k j a b => h.fI k j a (fun q => b (hw _ q)), fun k j a b => h.fR k j a (fun q => b (hw _ q)), fun k j a b => h.fJ k j a (fun q => b (hw _ q)), h.2.2.2.2.2.2.2.1, h.2.2.2.2.2.2.2.2⟩
theorem Rltrans {T0 T T' : Nat → Nat} {w wc w' : List Nat} {S0 S S' : AS} {c s cc ss : Nat} (h : Rl T0 w S0 c s T S) (g : Rl T wc S cc ss T' S') (hw : ∀ x ∈ w ++ wc, x ∈ w') : Rl T0 w' S0 (c + cc) (s + ss) T' S' := by
  obtain ⟨g1, g2, g3, ⟨g4, g4', g4'', g4'''⟩, g5, g6, g7, g8, g9⟩ := g
  have hty := h.ty
  have hlt := fun k hk => h.lt (k := k) hk
  have h1 := h.fI
  have h2 := h.fR
  have h3 := h.fJ
  obtain ⟨-, a2, a3, ⟨a4, a4', a4'', a4'''⟩, -, -, -, a8, a9⟩ := h
  have w1 : ∀ x, ¬ x ∈ w' → ¬ x ∈ w ∧ ¬ x ∈ wc := fun x hx => ⟨fun q => hx (hw x (List.mem_append_left _ q)), fun q => hx (hw x (List.mem_append_right _ q))⟩
  refine ⟨g1, Nat.le_trans a2 g2, ?_, ⟨by omega, by omega, by omega, by omega⟩, ?_, ?_, ?_, Int.le_trans a8 g8, a9⟩
  · intro k hk
    obtain ⟨b1, b2, b3⟩ := a3 k hk
    obtain ⟨d1, d2, d3⟩ := g3 k (by omega)
    exact ⟨d1.trans b1, d2.trans b2, d3.trans b3⟩
  · intro k j hk hj
    rw [g5 k j (by rw [hty k hk]; exact hk) (by rw [hty k hk]; exact (w1 _ hj).2)]
    exact h1 k j hk (w1 _ hj).1
  · intro k j hk hj
    rw [g6 k j (by rw [hty k hk]; exact hk) (by rw [hty k hk]; exact (w1 _ hj).2)]
    exact h2 k j hk (w1 _ hj).1
  · intro k j hk hj
    rw [g7 k j (by rw [hty k hk]; exact hk) (w1 _ hj).2]
    exact h3 k j hk (w1 _ hj).1
theorem Rlsize {T0 T : Nat → Nat} {w : List Nat} {S0 S : AS} {c s : Nat} (h : Rl T0 w S0 c s T S) {q : Nat} (hq : q < 7) (hw : ¬ cl (20 + q) 2 ∈ w) : sI S (lp q) 2 = sI S0 (lp q) 2 := by
  have e := (h.2.2.2.2.2.2.2.2.t6 q hq).1
  exact h.fI (lp q) 2 (by rw [e]; omega) (by rw [e]; exact hw)
/-- one write -/
theorem RlwI {T0 T : Nat → Nat} {w w' : List Nat} {S0 S : AS} {c s τ k j : Nat} {v : Int32} (h : Rl T0 w S0 c s T S) (ht : TI T (wI S k j v)) (hk : T k = τ) (h3 : ¬ (20 ≤ τ ∧ τ < 27 ∧ j = 2)) (hw : ∀ x ∈ cl τ j :: w, x ∈ w') (hp : ¬ phc τ j) : Rl T0 w' S0 c s T (wI S k j v) := by
  refine ⟨ht, h.2.1, h.2.2.1, ⟨h.2.2.2.1.1, h.2.2.2.1.2.1, by rw [Ph_wI h.1.t9 hk hp]; exact h.2.2.2.1.2.2.1, by rw [Gf_wI h.1.t9 hk hp]; exact h.2.2.2.1.2.2.2⟩, ?_, fun a b p q => h.fR a b p (fun z => q (hw _ (List.mem_cons_of_mem _ z))), fun a b p q => h.fJ a b p (fun z => q (hw _ (List.mem_cons_of_mem _ z))), ?_, h.2.2.2.2.2.2.2.2⟩
  · intro a b p q
    by_cases e : a = k ∧ b = j
    · obtain ⟨rfl, rfl⟩ := e
      rw [h.ty a p] at hk
      exact absurd (hw _ (by rw [hk]; exact List.mem_cons_self)) q
    · rw [ti_sI_ne e]
      exact h.fI a b p (fun z => q (hw _ (List.mem_cons_of_mem _ z)))
  · have e := (h.1.t6 5 (by omega)).1
    rw [ti_sI_ne (fun q => by
      obtain ⟨q1, q2⟩ := q
      subst q1
      rw [show lp 5 = 24 from rfl, hk] at e
      exact h3 (by omega))]
    exact h.2.2.2.2.2.2.2.1
theorem RlwR {T0 T : Nat → Nat} {w w' : List Nat} {S0 S : AS} {c s τ k j : Nat} {v : Option Nat} (h : Rl T0 w S0 c s T S) (ht : TI T (wR S k j v)) (hk : T k = τ) (hw : ∀ x ∈ cr τ j :: w, x ∈ w') : Rl T0 w' S0 c s T (wR S k j v) := by
  refine ⟨ht, h.2.1, h.2.2.1, h.2.2.2.1, fun a b p q => h.fI a b p (fun z => q (hw _ (List.mem_cons_of_mem _ z))), ?_, fun a b p q => h.fJ a b p (fun z => q (hw _ (List.mem_cons_of_mem _ z))), h.2.2.2.2.2.2.2.1, h.2.2.2.2.2.2.2.2⟩
  intro a b p q
  by_cases e : a = k ∧ b = j
  · obtain ⟨rfl, rfl⟩ := e
    rw [h.ty a p] at hk
    exact absurd (hw _ (by rw [hk]; exact List.mem_cons_self)) q
  · rw [ti_sR_ne e]
    exact h.fR a b p (fun z => q (hw _ (List.mem_cons_of_mem _ z)))
/-- writes on a place that has no type yet -/
theorem RlwI0 {T0 T : Nat → Nat} {w : List Nat} {S0 S : AS} {c s k j : Nat} {v : Int32} (h : Rl T0 w S0 c s T S) (hk : T k = 0) : Rl T0 w S0 c s T (wI S k j v) := by
  have ht : TI T (wI S k j v) := TIwI h.1 hk (fun lo hi e => by rw [rf0] at e; cases e) (fun n lo hi e => by rw [ra0] at e; cases e) (by omega)
  have hn : ∀ a, T0 a ≠ 0 → a ≠ k := fun a ha e => ha (by rw [← h.ty a ha, e]; exact hk)
  refine ⟨ht, h.2.1, h.2.2.1, ⟨h.2.2.2.1.1, h.2.2.2.1.2.1, by rw [Ph_wI h.1.t9 hk (by unfold phc; omega)]; exact h.2.2.2.1.2.2.1, by rw [Gf_wI h.1.t9 hk (by unfold phc; omega)]; exact h.2.2.2.1.2.2.2⟩, ?_, h.fR, h.fJ, ?_, h.2.2.2.2.2.2.2.2⟩
  · intro a b p q
    rw [ti_sI_ne (fun e => hn a p e.1)]
    exact h.fI a b p q
  · have e := (h.1.t6 5 (by omega)).1
    rw [ti_sI_ne (fun q => by
      obtain ⟨q1, q2⟩ := q
      subst q1
      rw [show lp 5 = 24 from rfl, hk] at e
      omega)]
    exact h.2.2.2.2.2.2.2.1
theorem RlwR0 {T0 T : Nat → Nat} {w : List Nat} {S0 S : AS} {c s k j : Nat} {v : Option Nat} (h : Rl T0 w S0 c s T S) (hk : T k = 0) (h0 : k ≠ 0) : Rl T0 w S0 c s T (wR S k j v) := by
  have ht : TI T (wR S k j v) := TIwR h.1 hk (fun τ' e => by rw [ft0] at e; cases e) (fun τ' e => by rw [fn0] at e; cases e) (by omega) (by omega) h0
  have hn : ∀ a, T0 a ≠ 0 → a ≠ k := fun a ha e => ha (by rw [← h.ty a ha, e]; exact hk)
  refine ⟨ht, h.2.1, h.2.2.1, h.2.2.2.1, h.fI, ?_, h.fJ, h.2.2.2.2.2.2.2.1, h.2.2.2.2.2.2.2.2⟩
  intro a b p q
  rw [ti_sR_ne (fun e => hn a p e.1)]
  exact h.fR a b p q
/-- a new place -/
theorem RlwN {T0 T : Nat → Nat} {w : List Nat} {S0 S : AS} {c s κ l n : Nat} (h : Rl T0 w S0 c s T S) : Rl T0 w S0 (c + 1) (s + n) T (wN S κ l n) := by
  have hn : ∀ a, T0 a ≠ 0 → a ≠ sN S := fun a ha e => by
    have h1 := h.lt ha
    have h2 := h.2.1
    omega
  refine ⟨TIwN h.1, Nat.le_succ_of_le h.2.1, ?_, ⟨Nat.succ_le_succ h.2.2.2.1.1, ?_, ?_, ?_⟩, ?_, ?_, ?_, ?_, h.2.2.2.2.2.2.2.2⟩
  · intro k hk
    have e := ti_wN (S := S) (κ := κ) (l := l) (s := n) (k := k) (by have := h.2.1; omega)
    obtain ⟨b1, b2, b3⟩ := h.2.2.1 k hk
    exact ⟨b1, e.1.trans b2, e.2.1.trans b3⟩
  · show sS S + n ≤ sS S0 + (s + n)
    have := h.2.2.2.1.2.1
    omega
  · have hf := TIfresh h.1 (Nat.le_refl (sN S))
    obtain ⟨t1, t2, t3, -⟩ := h.1.t9
    have q : ∀ a, T a ≠ 0 → a ≠ sN S := fun a ha e => ha (by rw [e]; exact hf)
    have := h.2.2.2.1.2.2.1
    rw [Ph_eq (ti_wN (q 57 (by rw [t1]; decide))).2.2.1 (ti_wN (q 89 (by rw [t2]; decide))).2.2.1 (ti_wN (q 103 (by rw [t3]; decide))).2.2.1]
    omega
  · have hf := TIfresh h.1 (Nat.le_refl (sN S))
    obtain ⟨t1, t2, t3, t4, -⟩ := h.1.t9
    have q : ∀ a, T a ≠ 0 → a ≠ sN S := fun a ha e => ha (by rw [e]; exact hf)
    have := h.2.2.2.1.2.2.2
    rw [Gf_eq (ti_wN (q 57 (by rw [t1]; decide))).2.2.1 (ti_wN (q 98 (by rw [t4]; decide))).2.2.1]
    omega
  · intro a b p q
    rw [(ti_wN (hn a p)).2.2.1]
    exact h.fI a b p q
  · intro a b p q
    rw [(ti_wN (hn a p)).2.2.2.1]
    exact h.fR a b p q
  · intro a b p q
    rw [(ti_wN (hn a p)).2.2.2.2]
    exact h.fJ a b p q
  · have e := (h.1.t6 5 (by omega)).1
    have e2 : (24 : Nat) ≠ sN S := fun z => by
      have := TIfresh h.1 (k := 24) (by omega)
      rw [show lp 5 = 24 from rfl, this] at e
      omega
    rw [(ti_wN e2).2.2.1]
    exact h.2.2.2.2.2.2.2.1
theorem RlwX {T0 T : Nat → Nat} {w : List Nat} {S0 S : AS} {c s : Nat} (h : Rl T0 w S0 c s T S) : Rl T0 w S0 (c + 1) (s + 6) T (wX S) := by
  refine ⟨h.1, h.2.1, h.2.2.1, ⟨Nat.succ_le_succ h.2.2.2.1.1, ?_, ?_, ?_⟩, h.fI, h.fR, h.fJ, h.2.2.2.2.2.2.2.1, h.2.2.2.2.2.2.2.2⟩
  · show sS S + 6 ≤ sS S0 + (s + 6)
    have := h.2.2.2.1.2.1
    omega
  · show Ph S ≤ Ph S0 + (c + 1 : Nat)
    have := h.2.2.2.1.2.2.1
    omega
  · show Gf S ≤ Gf S0 + (s + 6 : Nat)
    have := h.2.2.2.1.2.2.2
    omega
/-- a place that was made within gets its type -/
theorem Rlpr {T0 T : Nat → Nat} {w : List Nat} {S0 S : AS} {c s τ k : Nat} (h : Rl T0 w S0 c s T S) (hb : sN S0 ≤ k) (ht : TI (kr_w T k τ) S) : Rl T0 w S0 c s (kr_w T k τ) S :=
  ⟨ht, h.2.1, fun a ha => by
    obtain ⟨b1, b2, b3⟩ := h.2.2.1 a ha
    exact ⟨(if_neg (by omega)).trans b1, b2, b3⟩, h.2.2.2.1, h.fI, h.fR, h.fJ, h.2.2.2.2.2.2.2.1, h.2.2.2.2.2.2.2.2⟩
