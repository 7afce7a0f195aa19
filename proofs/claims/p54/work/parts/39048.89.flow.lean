/-! ===== a flow's steps are read; what a test holds ===== -/
theorem m_z {α β : Type} {x : Option α} {v : Int32} {F : Unit → Option β} {Q : α → β → Prop} (h : v = 0 ∨ v = 1 → H2 x (F ()) Q) : H2 x ((kr_z v).bind F) Q := fun a b ha hb => by
  obtain ⟨c, e⟩ := bind_cut hb
  exact h c a b ha e
theorem q_isT (S : AS) (a : Int32) : f_M_isTest S a = some (if 1 ≤ a ∧ a ≤ 4 then 1 else 0, S) := by
  unfold f_M_isTest
  by_cases c1 : a < 1
  · rw [if_pos c1, if_neg (fun q => absurd q.1 (Int32.not_le.mpr c1))]
  · by_cases c2 : 4 < a
    · rw [if_neg c1, if_pos c2, if_neg (fun q => absurd q.2 (Int32.not_le.mpr c2))]
    · rw [if_neg c1, if_neg c2, if_pos ⟨Int32.not_lt.mp c1, Int32.not_lt.mp c2⟩]
/-- the flow p of the class is the version v of the reference, of n steps -/
def FLR (S m : AS) (p v n : Nat) : Prop := (1 ≤ n ∧ n ≤ 12) ∧ v < 8 ∧ sI S p 5 = Int32.ofNat n ∧ ∀ j k, j < 5 → k < n → sI S (fa S p j) k = sI m (67 + j) (12 * v + k)
section
variable {S m : AS}
theorem p_thN {p : Nat} : Hp (f_Flow_isThere S (some p) (-1)) (fun q => q = (0, S)) := by
  unfold f_Flow_isThere
  exact p_of (st_T (by decide)) (p_ret rfl)
theorem p_kind {p v n k : Nat} (f : FLR S m p v n) (hk : k < n) : Hp (f_Flow_kindOf S (some p) (Int32.ofNat k)) (fun q => q = (sI m 67 (12 * v + k), S)) := by
  have h12 := f.1.2
  unfold f_Flow_kindOf
  refine p_of st_rv (p_b2 (p_there f.2.2.1 h12 hk) (fun u S' q => ?_))
  cases q
  exact p_of (st_F one0) (p_of (st_row (oc (by omega)) (f.2.2.2 0 k (by omega) hk)) (p_ret rfl))
theorem p_kindN {p : Nat} : Hp (f_Flow_kindOf S (some p) (-1)) (fun q => q = (6, S)) := by
  unfold f_Flow_kindOf
  refine p_of st_rv (p_b2 p_thN (fun u S' q => ?_))
  cases q
  exact p_of (st_T rfl) (p_ret rfl)
theorem p_first {p v n k : Nat} (f : FLR S m p v n) (hk : k < n) : Hp (f_Flow_firstOf S (some p) (Int32.ofNat k)) (fun q => q = (sI m 68 (12 * v + k), S)) := by
  have h12 := f.1.2
  unfold f_Flow_firstOf
  refine p_of st_rv (p_b2 (p_there f.2.2.1 h12 hk) (fun u S' q => ?_))
  cases q
  exact p_of (st_F one0) (p_of (st_row (oc (by omega)) (f.2.2.2 1 k (by omega) hk)) (p_ret rfl))
theorem p_second {p v n k : Nat} (f : FLR S m p v n) (hk : k < n) : Hp (f_Flow_secondOf S (some p) (Int32.ofNat k)) (fun q => q = (sI m 69 (12 * v + k), S)) := by
  have h12 := f.1.2
  unfold f_Flow_secondOf
  refine p_of st_rv (p_b2 (p_there f.2.2.1 h12 hk) (fun u S' q => ?_))
  cases q
  exact p_of (st_F one0) (p_of (st_row (oc (by omega)) (f.2.2.2 2 k (by omega) hk)) (p_ret rfl))
theorem p_next {p v n k : Nat} (f : FLR S m p v n) (hk : k < n) (c : Int32) : Hp (f_Flow_nextOf S (some p) (Int32.ofNat k) c) (fun q => q = (if c = 0 then sI m 71 (12 * v + k) else sI m 70 (12 * v + k), S)) := by
  have h12 := f.1.2
  unfold f_Flow_nextOf
  refine p_of st_rv (p_b2 (p_there f.2.2.1 h12 hk) (fun u S' q => ?_))
  cases q
  refine p_of (st_F one0) ?_
  by_cases c0 : c = 0
  · rw [if_pos c0, if_pos c0]
    exact p_of (st_row (oc (by omega)) (f.2.2.2 4 k (by omega) hk)) (p_ret rfl)
  · rw [if_neg c0, if_neg c0]
    exact p_of (st_row (oc (by omega)) (f.2.2.2 3 k (by omega) hk)) (p_ret rfl)
theorem p_test {p v n k : Nat} (f : FLR S m p v n) (hk : k < n) : Hp (f_Flow_isTest S (some p) (Int32.ofNat k)) (fun q => q = (if 1 ≤ sI m 67 (12 * v + k) ∧ sI m 67 (12 * v + k) ≤ 4 then 1 else 0, S)) := by
  unfold f_Flow_isTest
  refine p_of st_rv (p_b2 (p_kind f hk) (fun u S' q => ?_))
  cases q
  exact p_of (st_b2 (q_win S _ 1 4)) (p_of st_z (p_ret rfl))
theorem p_testN {p : Nat} : Hp (f_Flow_isTest S (some p) (-1)) (fun q => q = (0, S)) := by
  unfold f_Flow_isTest
  refine p_of st_rv (p_b2 p_kindN (fun u S' q => ?_))
  cases q
  exact p_of (st_b2 (q_win S _ 1 4)) (p_of st_z (p_ret rfl))
/-- the level of all that an attempt has shown -/
theorem h_shn_L (hw : cWgt S m) (hmf : MF m) {x p a : Nat} (hx : sR S x 0 = some p) (ha : a < 60) (hr : ∀ f, f < 3 → sI S p f = sI m 84 (3 * a + f) ∧ mok (sI m 84 (3 * a + f))) :
    ∀ (k j fu fu' u : Nat), j + k = 3 → u < 2 ^ j → H2 (f_Shown_levelSince_L4 fu S (some x) 0 (lv8 u) (Int32.ofNat j)) (f_M_shownIn_L4 fu' m (some 57) (Int32.ofNat a) (Int32.ofNat u) (Int32.ofNat j)) (fun a b => ∃ w, w < 8 ∧ a = (lv8 w, S) ∧ b = (Int32.ofNat w, m))
  | _, _, 0, _, _, _, _ => h2_l0
  | _, _, _ + 1, 0, _, _, _ => h2_m0
  | 0, j, fu + 1, fu' + 1, u, hk, hu => by
    unfold f_Shown_levelSince_L4 f_Shown_levelSince_C4 f_M_shownIn_L4 f_M_shownIn_C4
    have e : j = 3 := by omega
    subst e
    refine l_of (st_T (by decide)) (m_of (st_T (by decide)) (h2_ret ⟨u, by simpa using hu, rfl, rfl⟩))
  | k + 1, j, fu + 1, fu' + 1, u, hk, hu => by
    unfold f_Shown_levelSince_L4 f_Shown_levelSince_C4 f_M_shownIn_L4 f_M_shownIn_C4
    have nj : ¬ (3 : Int32) ≤ Int32.ofNat j := fun q => by
      have := (ole (a := 3) (b := j) (by decide) (by omega)).mp q
      omega
    obtain ⟨r1, r2⟩ := hr j (by omega)
    obtain ⟨z1, z2, z3⟩ := lv8_st j (by omega) u hu
    refine l_of (st_F nj) (m_of (st_F nj) (l_of (st_gRe hx) (l_of (st_aIe (oc (by omega)) r1) (m_of (st_gRe (hmf 29 84 rfl)) (m_of (st_aIe (v := sI m 84 (3 * a + j)) (ix3 a ha j (by omega)) rfl) ?_)))))
    by_cases c1 : sI m 84 (3 * a + j) = -1
    · refine l_of (st_T c1) (m_of (st_T c1) ?_)
      unfold f_Shown_levelSince_B36 f_M_shownIn_B31
      refine l_of st_val (m_of st_val (m_of st_val ?_))
      rw [o1, Int32.or_zero]
      exact h_shn_L hw hmf hx ha hr k (j + 1) fu fu' u (by omega) (by omega)
    · refine l_of (st_F c1) (m_of (st_F c1) (l_of (st_gRe hx) (l_of (st_aIe (oc (by omega)) r1) ?_)))
      have c3 : ¬ sI m 84 (3 * a + j) < 0 := fun q => by
        have := lt0.mp q
        rcases r2 with r2 | r2
        · exact c1 r2
        · omega
      refine l_of (st_F c3) (l_p2 (p_wgt hw (by omega)) (fun v S' q => ?_))
      cases q
      unfold f_Shown_levelSince_B36 f_M_shownIn_B31
      refine l_of st_val (l_of st_val (m_of st_val (m_of st_val ?_)))
      rw [o1, z1, z2]
      exact h_shn_L hw hmf hx ha hr k (j + 1) fu fu' _ (by omega) z3
/-- all that the way through a flow rests on -/
def GB (S m : AS) (x a p v n : Nat) : Prop := (K4F S ∧ MF m ∧ cNW S m ∧ cPts S m ∧ cWrg S m ∧ cKn S m ∧ cWgt S m ∧ cFac S m ∧ PF S) ∧ a < 60 ∧ RKa S m x a ∧ sR S x 3 = some p ∧ sI m 78 a = Int32.ofNat v ∧ FLR S m p v n ∧
  (∃ y q, sR S x 4 = some y ∧ sR S y 0 = some q ∧ ∀ f, f < 3 → sI S q f = sI m 84 (3 * a + f) ∧ mok (sI m 84 (3 * a + f))) ∧ SR m
theorem h_holds {x a p v n k : Nat} (g : GB S m x a p v n) (hk : k < n) (ht : 1 ≤ sI m 67 (12 * v + k) ∧ sI m 67 (12 * v + k) ≤ 4) : H2 (f_K_holds S (some 4) (some x) (Int32.ofNat k)) (f_M_holds m (some 57) (Int32.ofNat a) (Int32.ofNat (12 * v + k))) (fun p q => ∃ w, (w = 0 ∨ w = 1) ∧ p = (w, S) ∧ q = (w, m)) := by
  obtain ⟨⟨k4, hmf, nw, pt, wr, kn, hw, fc, pf⟩, a60, rk, r3, m78, f, ⟨y, q, r4, ry, hs⟩, sr⟩ := g
  have rka := rk
  obtain ⟨i, d1, d2, ⟨i6, l1, l2⟩, ⟨r0, r1, r2⟩, ⟨s0, s1, s2⟩⟩ := rk
  obtain ⟨⟨n1, n12⟩, v8, n5, nr⟩ := f
  have f : FLR S m p v n := ⟨⟨n1, n12⟩, v8, n5, nr⟩
  have ix : (Int32.ofNat (12 * v + k)).toNatClampNeg = 12 * v + k := oc (by omega)
  have ai : (Int32.ofNat a).toNatClampNeg = a := oc (by omega)
  unfold f_K_holds f_M_holds
  refine l_of (st_gRe r3) (l_of st_rv (l_p2 (p_first f hk) (fun u S' e => ?_)))
  cases e
  refine l_of (st_gRe r3) (l_of st_rv (l_p2 (p_kind f hk) (fun u S' e => ?_)))
  cases e
  refine m_of (st_gRe (hmf 20 75 rfl)) (m_of (st_aIe ai s0) (m_of (st_gRe (hmf 11 67 rfl)) (m_of (st_aIe (v := sI m 67 (12 * v + k)) ix rfl) ?_)))
  by_cases c1 : sI m 67 (12 * v + k) = 1
  · refine l_of (st_T c1) (l_of (st_gIe r1) (l_of (st_gRe r0) (l_of st_gI (l_of (st_b2 (bt_is (by omega) S)) ?_))))
    refine m_of (st_T c1) (m_of (st_gRe (hmf 5 62 rfl)) (m_of (st_gRe (hmf 21 76 rfl)) (m_of (st_aIe ai s1) (m_of (st_aIe (v := sI m 62 (6 * i + d1)) (ix6 i i6 d1 l1) rfl) (m_z (fun z => l_of st_z ?_))))))
    have k1 := (kn i i6 d1 l1).1
    by_cases b : bt (sI S (29 + 4 * i) 7) d1 = true
    · rw [if_pos b]
      exact h2_ret ⟨1, Or.inr rfl, rfl, by rw [z.elim (fun q => absurd q (k1.mp b)) id]⟩
    · rw [if_neg b]
      exact h2_ret ⟨0, Or.inl rfl, rfl, by rw [show sI m 62 (6 * i + d1) = 0 from Decidable.not_not.mp (fun q => b (k1.mpr q))]⟩
  · refine l_of (st_F c1) (m_of (st_F c1) (m_of (st_gRe (hmf 11 67 rfl)) (m_of (st_aIe (v := sI m 67 (12 * v + k)) ix rfl) ?_)))
    by_cases c2 : sI m 67 (12 * v + k) = 2
    · refine l_of (st_T c2) (m_of (st_T c2) (l_of st_rv (m_of st_rv (h2_22 (h_riskOf k4 hmf nw pt wr kn a60 rka 0) (fun u S' u' m' e => ?_)))))
      obtain ⟨w, w1, w2⟩ := e
      cases w1
      cases w2
      refine m_of (st_gRe (hmf 12 68 rfl)) (m_of (st_aIe (v := sI m 68 (12 * v + k)) ix rfl) ?_)
      by_cases c : u < sI m 68 (12 * v + k)
      · exact l_of (st_T c) (m_of (st_T c) (h2_ret ⟨0, Or.inl rfl, rfl, rfl⟩))
      · exact l_of (st_F c) (m_of (st_F c) (h2_ret ⟨1, Or.inr rfl, rfl, rfl⟩))
    · refine l_of (st_F c2) (m_of (st_F c2) (m_of (st_gRe (hmf 11 67 rfl)) (m_of (st_aIe (v := sI m 67 (12 * v + k)) ix rfl) ?_)))
      by_cases c3 : sI m 67 (12 * v + k) = 3
      · obtain ⟨g0, g2⟩ := (sr (12 * v + k) (by omega)).1 (Or.inr c3)
        obtain ⟨ff, f3, ef⟩ := ofNat_In (n := 2) (v := sI m 68 (12 * v + k)) ⟨g0, g2⟩
        refine l_of (st_T c3) (m_of (st_T c3) (l_of (st_gRe r0) (l_of st_rv ?_)))
        rw [ef]
        refine l_p2 (p_stateOf pf i6 (by omega)) (fun u S' e => ?_)
        cases e
        obtain ⟨e1, -⟩ := (fc i i6).1 ff (by omega)
        refine m_of (st_gRe (hmf 1 58 rfl)) (m_of (st_gRe (hmf 12 68 rfl)) (m_of (st_aIe ix ef) (m_of (st_aIe (v := sI m 58 (3 * i + ff)) (ix3 i (by omega) ff (by omega)) rfl) ?_)))
        rw [e1]
        by_cases c : sI m 58 (3 * i + ff) = 1
        · exact l_of (st_T c) (m_of (st_T c) (h2_ret ⟨1, Or.inr rfl, rfl, rfl⟩))
        · exact l_of (st_F c) (m_of (st_F c) (h2_ret ⟨0, Or.inl rfl, rfl, rfl⟩))
      · have c4 : sI m 67 (12 * v + k) = 4 := by
          have h1 := Int32.le_iff_toInt_le.mp ht.1
          have h2 := Int32.le_iff_toInt_le.mp ht.2
          rw [show (1 : Int32).toInt = 1 from by decide] at h1
          rw [show (4 : Int32).toInt = 4 from by decide] at h2
          have n1' : (sI m 67 (12 * v + k)).toInt ≠ 1 := fun z => c1 (Int32.toInt_inj.mp (by rw [z]; decide))
          have n2' : (sI m 67 (12 * v + k)).toInt ≠ 2 := fun z => c2 (Int32.toInt_inj.mp (by rw [z]; decide))
          have n3' : (sI m 67 (12 * v + k)).toInt ≠ 3 := fun z => c3 (Int32.toInt_inj.mp (by rw [z]; decide))
          exact Int32.toInt_inj.mp (by rw [show (4 : Int32).toInt = 4 from by decide]; omega)
        refine l_of (st_F c3) (l_of (st_T c4) (m_of (st_F c3) (l_of (st_gRe r4) (l_of st_rv (m_of st_rv ?_)))))
        have key := h_shn_L hw hmf ry a60 hs 3 0 kr_FU kr_FU 0 rfl (by decide)
        rw [show lv8 0 = 0 by decide +kernel] at key
        unfold f_Shown_levelSince f_M_shownIn
        refine h2_22 key (fun u S' u' m' e => ?_)
        obtain ⟨w, w8, w1, w2⟩ := e
        cases w1
        cases w2
        unfold f_M_levelOf
        refine m_of (st_b2 rfl) (m_of (st_gRe (hmf 12 68 rfl)) (m_of (st_aIe (v := sI m 68 (12 * v + k)) ix rfl) ?_))
        show H2 _ (if lv8 w < sI m 68 (12 * v + k) then _ else _) _
        by_cases c : lv8 w < sI m 68 (12 * v + k)
        · exact l_of (st_T c) (m_of (st_T c) (h2_ret ⟨0, Or.inl rfl, rfl, rfl⟩))
        · exact l_of (st_F c) (m_of (st_F c) (h2_ret ⟨1, Or.inr rfl, rfl, rfl⟩))
end
