/-! ===== p1: calls whose arguments have a range ===== -/
def kr_M2 : AS := wI (wX kr_Z) 57 82 2
theorem mZ_both2 : f_M_mayBoth (wX kr_Z) (some 57) (1 : Int32) (0 : Int32) = some ((0 : Int32), kr_M2) := by
  unfold f_M_mayBoth f_M_mayBoth_B18
  rw [if_neg (by decide), if_pos rfl, kr_pI_s kr_z57, Option.bind_some, kr_gI_s (by rw [kr_sK_wI]; exact kr_z57), Option.bind_some, kr_sI_wI, if_neg (by decide)]
  rfl
theorem q_idx_bad (S : AS) (a n m : Int32) (hm : m.toInt + 1 = n.toInt) (h : ¬ (0 ≤ a ∧ a ≤ m)) : f_K_requireIndex S a n = some (.inr "java/lang/IndexOutOfBoundsException", wX S) := by
  unfold f_K_requireIndex f_K_requireIndex_B9
  by_cases h1 : a < 0
  · rw [if_pos h1]
  · have h2 : ¬ a < n := fun q => h ⟨Int32.not_lt.mp h1, Int32.le_iff_toInt_le.mpr (by have := Int32.lt_iff_toInt_lt.mp q; omega)⟩
    rw [if_neg h1, if_neg h2]
theorem q_idx_ok (S : AS) (a n m : Int32) (hm : m.toInt + 1 = n.toInt) (h : 0 ≤ a ∧ a ≤ m) : f_K_requireIndex S a n = some (.inl (), S) := by
  unfold f_K_requireIndex
  have h1 : ¬ a < 0 := Int32.not_lt.mpr h.1
  have h2 : a < n := Int32.lt_iff_toInt_lt.mpr (by have := Int32.le_iff_toInt_le.mp h.2; omega)
  rw [if_neg h1, if_pos h2]
theorem kr_geq {a n m : Int32} (hm : m.toInt + 1 = n.toInt) (h0 : ¬ a < 0) (h : ¬ (0 ≤ a ∧ a ≤ m)) : n ≤ a := by
  refine Int32.le_iff_toInt_le.mpr ?_
  have h2 : ¬ a.toInt ≤ m.toInt := fun q => h ⟨Int32.not_lt.mp h0, Int32.le_iff_toInt_le.mpr q⟩
  omega
theorem kr_zP : gR kr_Z 22 2 (some 4) = some (some 8) ∧ aN kr_Z (some 8) = some (6 : Int32) ∧ gR kr_Z 22 11 (some 4) = some (some 21) ∧ aN kr_Z (some 21) = some (4 : Int32) ∧ gR kr_Z 22 17 (some 4) = some (some 28) ∧ aN kr_Z (some 28) = some (6 : Int32) ∧ gR kr_Z 22 10 (some 4) = some (some 20) ∧ aN kr_Z (some 20) = some (4 : Int32) := by decide +kernel
theorem kr_zPn : ∀ n, n < 6 → aR kr_Z 44 (some 8) (Int32.ofInt ((0 : Int32).toInt + (n : Nat))) = some (some (29 + 4 * n)) ∧ ¬ (Int32.ofInt ((0 : Int32).toInt + (n : Nat)) < 0) ∧ ¬ ((6 : Int32) ≤ Int32.ofInt ((0 : Int32).toInt + (n : Nat))) ∧ gR kr_Z 16 9 (some (29 + 4 * n)) = some (some (32 + 4 * n)) ∧ aN kr_Z (some (32 + 4 * n)) = some (4 : Int32) := by decide +kernel
theorem kr_zSn : ∀ n, n < 4 → aR kr_Z 45 (some 21) (Int32.ofInt ((0 : Int32).toInt + (n : Nat))) = some (some (53 + n)) ∧ ¬ (Int32.ofInt ((0 : Int32).toInt + (n : Nat)) < 0) ∧ ¬ ((4 : Int32) ≤ Int32.ofInt ((0 : Int32).toInt + (n : Nat))) := by decide +kernel
theorem kP_bad (a : Int32) (h : ¬ (0 ≤ a ∧ a ≤ 5)) : f_K_findPerson kr_Z (some 4) a = some (.inr "java/lang/IndexOutOfBoundsException", wX kr_Z) := by
  unfold f_K_findPerson f_K_findPerson_B22 f_K_findPerson_B23
  by_cases h1 : a < 0
  · rw [if_pos h1, if_pos rfl]
  · rw [if_neg h1, kr_zP.1, Option.bind_some, kr_zP.2.1, Option.bind_some, if_pos (kr_geq (m := 5) (by decide) h1 h), if_pos rfl]
theorem kS_bad (a : Int32) (h : ¬ (0 ≤ a ∧ a ≤ 3)) : f_K_findService kr_Z (some 4) a = some (.inr "java/lang/IndexOutOfBoundsException", wX kr_Z) := by
  unfold f_K_findService f_K_findService_B22 f_K_findService_B23
  by_cases h1 : a < 0
  · rw [if_pos h1, if_pos rfl]
  · rw [if_neg h1, kr_zP.2.2.1, Option.bind_some, kr_zP.2.2.2.1, Option.bind_some, if_pos (kr_geq (m := 3) (by decide) h1 h), if_pos rfl]
theorem kP_ok (a : Int32) (h : 0 ≤ a ∧ a ≤ 5) : ∃ p q : Nat, f_K_findPerson kr_Z (some 4) a = some (.inl (some p), kr_Z) ∧ gR kr_Z 16 9 (some p) = some (some q) ∧ aN kr_Z (some q) = some (4 : Int32) := by
  obtain ⟨n, hn, rfl⟩ := kr_rng h
  obtain ⟨e1, e2, e3, e4, e5⟩ := kr_zPn n (Nat.lt_of_lt_of_le hn (by decide))
  refine ⟨29 + 4 * n, 32 + 4 * n, ?_, e4, e5⟩
  unfold f_K_findPerson f_K_findPerson_B23
  rw [if_neg e2, kr_zP.1, Option.bind_some, kr_zP.2.1, Option.bind_some, if_neg e3, Option.bind_some, e1, Option.bind_some, if_neg (fun q => nomatch q)]
theorem kS_ok (a : Int32) (h : 0 ≤ a ∧ a ≤ 3) : ∃ p : Nat, f_K_findService kr_Z (some 4) a = some (.inl (some p), kr_Z) := by
  obtain ⟨n, hn, rfl⟩ := kr_rng h
  obtain ⟨e1, e2, e3⟩ := kr_zSn n (Nat.lt_of_lt_of_le hn (by decide))
  refine ⟨53 + n, ?_⟩
  unfold f_K_findService f_K_findService_B23
  rw [if_neg e2, kr_zP.2.2.1, Option.bind_some, kr_zP.2.2.2.1, Option.bind_some, if_neg e3, Option.bind_some, e1, Option.bind_some, if_neg (fun q => nomatch q)]
