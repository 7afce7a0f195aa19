/-! ===== the way through tests, both side by side ===== -/
theorem te_iff {S : AS} {b k : Nat} : te S b k ↔ (1 ≤ sI S 67 (b + k) ∧ sI S 67 (b + k) ≤ 4) := (In_iff (lo := 1) (hi := 4)).symm
theorem rank12 {S : AS} {b n : Nat} {ρ : Nat → Nat} (h : rnk S b n ρ) (hn : n ≤ 12) (hx : nxin S b n) : ∃ r : Nat → Nat, (∀ k, k < 12 → r k ≤ 11) ∧ ∀ k, k < n → te S b k → ∀ t, nx S b k t → te S b t → r t < r k := by
  refine ⟨fun k => cb (fun t => decide (ρ t < ρ k)) 12, fun k hk => ?_, fun k hk hk2 t ht ht2 => ?_⟩
  · have l1 : cb (fun t => decide (ρ t < ρ k)) 12 < cb (fun _ => true) 12 := cb_lt (fun _ _ => rfl) (i := k) (by simp) rfl hk
    have l2 := cb_le (fun _ => true) 12
    show cb (fun t => decide (ρ t < ρ k)) 12 ≤ 11
    omega
  · have lt := h.2 k hk hk2 t ht ht2
    have k5 : (sI S 67 (b + k)).toInt < 5 := by
      have := hk2.2
      omega
    have tn := nxin_t hx hk k5 ht
    exact cb_lt (f := fun j => decide (ρ j < ρ t)) (g := fun j => decide (ρ j < ρ k)) (i := t) (fun j hj => by
      have := of_decide_eq_true hj
      exact decide_eq_true (by omega)) (by simp) (decide_eq_true lt) (by omega)
