section
variable {S m : AS}
/-- from a step on -/
theorem h_goOn0 {x a p v n : Nat} (g : GB S m x a p v n) (hac : AC m) (hv : v < nV m) (h9 : sI m 57 9 = Int32.ofNat (nV m)) (n8 : nV m ≤ 8) (h66 : sI m 66 v = Int32.ofNat n) {Q : AS → AS → Prop}
    (fin : ∀ st at', STP2 m v n st at' → H2 (f_K_goOn_B44 S (some 4) (some x) st) (f_M_go_B77 m (some 57) (Int32.ofNat a) st at') Q) {st : Int32} (hst : st = -1 ∨ ∃ k, k < n ∧ st = Int32.ofNat k) :
    H2 (f_K_goOn S (some 4) (some x) st) (f_M_go m (some 57) (Int32.ofNat a) st) Q := by
  have gg := g
  obtain ⟨⟨k4, hmf, -, -, -, -, -, -, -⟩, a60, -, r3, m78, f, -, sr⟩ := gg
  have f12 := f.1.2
  have v8 := f.2.1
  have ai : (Int32.ofNat a).toNatClampNeg = a := oc (by omega)
  have hV : (v : Int) < (sI m 57 9).toInt := by
    rw [h9, oi (by omega)]
    omega
  have hN : (sI m 66 v).toInt = (n : Int) := by rw [h66, oi (by omega)]
  obtain ⟨-, hnx, ρ, hρ⟩ := hac v n hV hN
  obtain ⟨r, r11, hr⟩ := rank12 hρ f12 hnx
  unfold f_K_goOn f_M_go
  refine m_of (st_gRe (hmf 23 78 rfl)) (m_of (st_aIe ai m78) (m_of st_val ?_))
  refine h_go_L g hnx hr fin kr_FU kr_FU 0 st _ (by omega) ?_
  rcases hst with q | ⟨k, hk, rfl⟩
  · exact Or.inl q
  · exact Or.inr ⟨k, hk, rfl, mulv v v8 k (by omega), fun _ => by have := r11 k (by omega); omega⟩
end
