/-! ===== small ones of the script ===== -/
theorem kw_nat {n : Nat} (h : n ≤ 4000) : (Int32.ofNat n).toInt = (n : Int) := Int32.toInt_ofNat_of_lt (by omega)
theorem kw_sub6 {L : Nat} (h : L ≤ 3072) : (Int32.ofNat L - 6).toInt = (L : Int) - 6 := by
  rw [Int32.toInt_sub, kw_nat (by omega), show (6 : Int32).toInt = 6 from rfl]
  exact Int.bmod_eq_of_le (by omega) (by omega)
theorem kw_sx0 {X : Nat → Int32} {L : Nat} {x : Int32} (h0 : 0 ≤ x.toInt) (h6 : x.toInt < (L : Int)) : ∃ v, kr_sx X L x = some v := ⟨X x.toNatClampNeg, by
  unfold kr_sx
  rw [if_pos ⟨h0, h6⟩]⟩
theorem kw_add {L : Nat} {x : Int32} (hL : L ≤ 3072) (h0 : 0 ≤ x.toInt) (h6 : x.toInt + 6 ≤ (L : Int)) (j : Int32) (hj : In 0 6 j) : (x + j).toInt = x.toInt + j.toInt := by
  have := hj.1
  have := hj.2
  rw [Int32.toInt_add]
  exact Int.bmod_eq_of_le (by omega) (by omega)
theorem sx_ok {X : Nat → Int32} {L : Nat} {x : Int32} (hL : L ≤ 3072) (h0 : 0 ≤ x.toInt) (h6 : x.toInt + 6 ≤ (L : Int)) (j : Int32) (hj : In 0 5 j) : ∃ v, kr_sx X L (x + j) = some v := by
  have e := kw_add hL h0 h6 j ⟨hj.1, by have := hj.2; omega⟩
  have := hj.1
  have := hj.2
  exact kw_sx0 (by omega) (by omega)
