/-! ===== one call on the fresh objects ===== -/
def kr_good (r : Option (Int32 × AS)) : Bool := match r with
  | some (v, S) => v == 1 && Nat.ble (sC S) 600002 && Nat.ble (sS S) 7302231
  | none => false
theorem kr_good_of {r : Option (Int32 × AS)} (h : kr_good r = true) : ∃ S' : AS, r = some (1, S') ∧ sC S' ≤ 600002 ∧ sS S' ≤ 7302231 := by
  cases r with
  | none => cases h
  | some q =>
    obtain ⟨v, S⟩ := q
    simp only [kr_good, Bool.and_eq_true, beq_iff_eq, Nat.ble_eq] at h
    exact ⟨S, by rw [h.1.1], h.1.2, h.2⟩
/-- the law's loop behind the first call -/
def kr_K6 (X : Nat → Int32) : AS → Option Nat → Option Nat → Option Nat → Int32 → Option (Int32 × AS) := f_W_law_L23 X 6 1999
theorem kr_sx1 (X : Nat → Int32) : kr_sx X 6 ((0 : Int32) + (1 : Int32)) = some (X 1) := by unfold kr_sx; rw [if_pos (by decide)]; rfl
theorem kr_sx2 (X : Nat → Int32) : kr_sx X 6 ((0 : Int32) + (2 : Int32)) = some (X 2) := by unfold kr_sx; rw [if_pos (by decide)]; rfl
theorem kr_sx3 (X : Nat → Int32) : kr_sx X 6 ((0 : Int32) + (3 : Int32)) = some (X 3) := by unfold kr_sx; rw [if_pos (by decide)]; rfl
theorem kr_sx4 (X : Nat → Int32) : kr_sx X 6 ((0 : Int32) + (4 : Int32)) = some (X 4) := by unfold kr_sx; rw [if_pos (by decide)]; rfl
theorem kr_sx5 (X : Nat → Int32) : kr_sx X 6 ((0 : Int32) + (5 : Int32)) = some (X 5) := by unfold kr_sx; rw [if_pos (by decide)]; rfl
theorem kr_sx0 (X : Nat → Int32) : kr_sx X 6 (0 : Int32) = some (X 0) := by unfold kr_sx; rw [if_pos (by decide)]; rfl
theorem kr_tail (X : Nat → Int32) (S : AS) (x1 x2 x3 : Option Nat) : f_W_law_B3320 X 6 (kr_K6 X) S x1 x2 x3 (0 : Int32) = some ((1 : Int32), S) := by
  show f_W_law_C23 X 6 (f_W_law_L23 X 6 1998) S x1 x2 x3 ((0 : Int32) + 6) = _
  unfold f_W_law_C23
  rw [if_pos (by decide)]
/-- a number of a range -/
theorem kr_rng {v lo hi : Int32} (h : lo ≤ v ∧ v ≤ hi) : ∃ n : Nat, n < (hi.toInt - lo.toInt).toNat + 1 ∧ v = Int32.ofInt (lo.toInt + n) := by
  have h1 : lo.toInt ≤ v.toInt := Int32.le_iff_toInt_le.mp h.1
  have h2 : v.toInt ≤ hi.toInt := Int32.le_iff_toInt_le.mp h.2
  refine ⟨(v.toInt - lo.toInt).toNat, by omega, ?_⟩
  rw [show lo.toInt + ((v.toInt - lo.toInt).toNat : Int) = v.toInt by omega, Int32.ofInt_toInt]
theorem kr_zf0 : sK kr_Z 4 = 22 ∧ sK kr_Z 57 = 23 ∧ sK kr_Z 126 = 42 ∧ gR kr_Z 22 2 (some 4) = some (some 8) := by decide +kernel
theorem kr_t1 : ∀ n, n < 6 → ∀ m, m < 3 → kr_good (kr_b2 (f_W_enroll kr_Z (some 4) (Int32.ofInt (0 + (n : Nat))) (Int32.ofInt (0 + (m : Nat))) (some 126)) fun v16 S15 =>
  (kr_rv S15 23 (some 57)).bind fun u19 =>
  kr_b2 (f_M_enroll S15 (some 57) (Int32.ofInt (0 + (n : Nat))) (Int32.ofInt (0 + (m : Nat)))) fun v21 S20 =>
  (kr_rv S20 23 (some 57)).bind fun u22 =>
  kr_b2 (f_M_thrown S20 (some 57)) fun v24 S23 =>
  if v24 = v16 then
  if v16 = 0 then
  (aJ S23 (some 126) (0 : Int32)).bind fun v25 =>
  if (lg_cmp v25 v21.toInt64) = 0 then
  some ((1 : Int32), S23)
  else
  some ((0 : Int32), S23)
  else
  some ((1 : Int32), S23)
  else
  some ((0 : Int32), S23)) = true := by decide +kernel
