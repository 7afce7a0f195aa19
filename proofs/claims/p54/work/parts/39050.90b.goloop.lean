section
variable {S m : AS}
/-- a step, or none: what the reference has of it -/
def STP2 (m : AS) (v n : Nat) (st at' : Int32) : Prop := st = -1 ∨ ∃ k, k < n ∧ st = Int32.ofNat k ∧ at' = Int32.ofNat (12 * v + k) ∧ ¬ (1 ≤ sI m 67 (12 * v + k) ∧ sI m 67 (12 * v + k) ≤ 4)
theorem h_go_L {x a p v n : Nat} (g : GB S m x a p v n) (hnx : nxin m (12 * v) n) {r : Nat → Nat} (hr : ∀ k, k < n → te m (12 * v) k → ∀ t, nx m (12 * v) k t → te m (12 * v) t → r t < r k) {Q : AS → AS → Prop}
    (fin : ∀ st at', STP2 m v n st at' → H2 (f_K_goOn_B44 S (some 4) (some x) st) (f_M_go_B77 m (some 57) (Int32.ofNat a) st at') Q) :
    ∀ (fu fu' i : Nat) (st at' : Int32), i ≤ 12 → (st = -1 ∨ ∃ k, k < n ∧ st = Int32.ofNat k ∧ at' = Int32.ofNat (12 * v + k) ∧ (te m (12 * v) k → i + r k ≤ 11)) → H2 (f_K_goOn_L5 fu S (some 4) (some x) st (Int32.ofNat i)) (f_M_go_L15 fu' m (some 57) (Int32.ofNat a) st at') Q
  | 0, _, _, _, _, _, _ => h2_l0
  | _ + 1, 0, _, _, _, _, _ => h2_m0
  | fu + 1, fu' + 1, i, st, at', hi, hst => by
    have gg := g
    obtain ⟨⟨k4, hmf, -, -, -, -, -, -, -⟩, a60, -, r3, m78, f, -, sr⟩ := gg
    have f12 := f.1.2
    have v8 := f.2.1
    have ai : (Int32.ofNat a).toNatClampNeg = a := oc (by omega)
    unfold f_K_goOn_L5 f_K_goOn_C5 f_M_go_L15 f_M_go_C15
    rcases hst with rfl | ⟨k, hk, rfl, rfl, hte⟩
    · refine m_of (st_T rfl) (l_if (fun _ => fin _ _ (Or.inl rfl)) (fun _ => ?_))
      refine l_of (st_gRe r3) (l_of st_rv (l_p2 p_testN (fun u S' e => ?_)))
      cases e
      exact l_of (st_T rfl) (fin _ _ (Or.inl rfl))
    · have ix : (Int32.ofNat (12 * v + k)).toNatClampNeg = 12 * v + k := oc (by omega)
      refine m_of (st_F (fun q => ofNat_ne (o := k) (by omega) q.symm)) (m_of (st_gRe (hmf 11 67 rfl)) (m_of (st_aIe (v := sI m 67 (12 * v + k)) ix rfl) (m_of (st_b2 (q_isT m _)) ?_)))
      by_cases t : 1 ≤ sI m 67 (12 * v + k) ∧ sI m 67 (12 * v + k) ≤ 4
      · have tk : te m (12 * v) k := te_iff.mpr t
        have ri := hte tk
        rw [if_pos t]
        refine m_of (st_F one0) (m_of st_rv (l_of (st_F (fun q => by
          have := (ole (a := 12) (b := i) (by decide) (by omega)).mp q
          omega)) (l_of (st_gRe r3) (l_of st_rv (l_p2 (p_test f hk) (fun u S' e => ?_))))))
        cases e
        rw [if_pos t]
        refine l_of (st_F one0) (l_of (st_gRe r3) (l_of st_rv (h2_22 (h_holds g hk t) (fun u S' u' m' e => ?_))))
        obtain ⟨w, w01, e1, e2⟩ := e
        cases e1
        cases e2
        have k5 : (sI m 67 (12 * v + k)).toInt < 5 := by
          have := tk.2
          show (sI m 67 (12 * v + k)).toInt < 5
          omega
        have go : ∀ y : Int32, In (-1) 11 y → (∀ t : Nat, y.toInt = (t : Int) → nx m (12 * v) k t) → H2 (f_K_goOn_L5 fu S (some 4) (some x) y (Int32.ofNat i + 1)) (f_M_go_B60 (f_M_go_L15 fu') m (some 57) (Int32.ofNat a) y) Q := fun y hy hyt => by
          unfold f_M_go_B60
          refine m_of (st_gRe (hmf 23 78 rfl)) (m_of (st_aIe ai m78) (m_of st_val ?_))
          rw [o1]
          refine h_go_L g hnx hr fin fu fu' (i + 1) y _ (by omega) ?_
          by_cases c : y.toInt < 0
          · exact Or.inl (Int32.toInt_inj.mp (by rw [show (-1 : Int32).toInt = -1 from by decide]; have := hy.1; omega))
          · obtain ⟨t', ht', rfl⟩ := ofNat_In (n := 11) (v := y) ⟨by omega, hy.2⟩
            have hxt := hyt t' (oi (by omega))
            have tn := nxin_t hnx hk k5 hxt
            refine Or.inr ⟨t', tn, rfl, mulv v v8 t' (by omega), fun h2 => ?_⟩
            have := hr k hk tk t' hxt h2
            omega
        obtain ⟨y0, y1⟩ := (sr (12 * v + k) (by omega)).2 k5
        refine l_of st_rv (l_p2 (p_next f hk u) (fun u S' e => ?_))
        cases e
        refine l_of st_val ?_
        by_cases c : u = 0
        · rw [if_pos c]
          refine m_of (st_T c) (m_of (st_gRe (hmf 15 71 rfl)) (m_of (st_aIe (v := sI m 71 (12 * v + k)) ix rfl) (go _ y1 (fun t ht => Or.inr ht))))
        · rw [if_neg c]
          refine m_of (st_F c) (m_of (st_gRe (hmf 14 70 rfl)) (m_of (st_aIe (v := sI m 70 (12 * v + k)) ix rfl) (go _ y0 (fun t ht => Or.inl ht))))
      · rw [if_neg t]
        refine m_of (st_T rfl) (l_if (fun _ => fin _ _ (Or.inr ⟨k, hk, rfl, rfl, t⟩)) (fun _ => ?_))
        refine l_of (st_gRe r3) (l_of st_rv (l_p2 (p_test f hk) (fun u S' e => ?_)))
        cases e
        rw [if_neg t]
        exact l_of (st_T rfl) (fin _ _ (Or.inr ⟨k, hk, rfl, rfl, t⟩))
end
