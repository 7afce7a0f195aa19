/-! ===== the class's look at its draft: every next step there, no loop of tests ===== -/
theorem x_aI {S : AS} {k n : Nat} {v : Int32} (h : sK S k = 40) (hl : n < sL S k) (hn : n ≤ 300) (e : sI S k n = v) : aI S 40 (some k) (Int32.ofNat n) = some v := by
  obtain ⟨e1, e2⟩ := gl2 n (by omega)
  unfold aI
  rw [Option.bind_some, if_pos ⟨h, by rw [e1]; omega, by rw [e1]; omega⟩, e2, e]
theorem x_there {S : AS} {f n : Nat} (Kf : sK S f = 13) (a4 : sI S f 5 = Int32.ofNat n) (hn : n ≤ 12) (v : Int32) : f_Flow_isThere S (some f) v = some (if 0 ≤ v.toInt ∧ v.toInt < (n : Int) then 1 else 0, S) := by
  have i1 := (gl2 n (by omega)).1
  unfold f_Flow_isThere
  by_cases c : v < 0
  · have := lt0.mp c
    rw [if_pos c, if_neg (by omega)]
  · have c' : ¬ v.toInt < 0 := fun q => c (lt0.mpr q)
    rw [if_neg c, x_g Kf a4, Option.bind_some]
    by_cases d : Int32.ofNat n ≤ v
    · have := Int32.le_iff_toInt_le.mp d
      rw [i1] at this
      rw [if_pos d, if_neg (by omega)]
    · have d' := Int32.lt_iff_toInt_lt.mp (Int32.not_le.mp d)
      rw [i1] at d'
      rw [if_neg d, if_neg (fun q => by
        have := Int32.le_iff_toInt_le.mp q
        rw [show (12 : Int32).toInt = 12 from by decide] at this
        omega), if_pos ⟨by omega, d'⟩]
section
variable {T : Nat → Nat} {S : AS} {f n : Nat} {r : Nat → Nat}
theorem x_th1 (hT : TI T S) (h : DR T S f n r) {k : Nat} (hk : k < n) : f_Flow_isThere S (some f) (Int32.ofNat k) = some (1, S) := by
  have hn := h.2.2.1
  rw [x_there (DR_K hT h).2.1 h.2.2.2.1 hn, if_pos ⟨by rw [(gl2 k (by omega)).1]; omega, by rw [(gl2 k (by omega)).1]; omega⟩]
theorem x_row (hT : TI T S) (h : DR T S f n r) {j k : Nat} (hj : j < 5) (hk : k < n) : gR S 13 j (some f) = some (some (r j)) ∧ aI S 40 (some (r j)) (Int32.ofNat k) = some (sI S (67 + j) (96 + k)) := by
  obtain ⟨K4, Kf, Kr, -⟩ := DR_K hT h
  have hn := h.2.2.1
  exact ⟨x_r Kf (h.2.2.2.2.2.1 j hj).1, x_aI (Kr j hj).1 (by rw [(Kr j hj).2.1]; omega) (by omega) (h.2.2.2.2.2.2.2 j k hj hk)⟩
theorem x_kind (hT : TI T S) (h : DR T S f n r) {k : Nat} (hk : k < n) : f_Flow_kindOf S (some f) (Int32.ofNat k) = some (sI S 67 (96 + k), S) := by
  obtain ⟨e1, e2⟩ := x_row hT h (j := 0) (by decide) hk
  unfold f_Flow_kindOf
  rw [ti_rv (DR_K hT h).2.1, Option.bind_some, x_th1 hT h hk, b2_s, if_neg (by decide), e1, Option.bind_some, e2, Option.bind_some]
theorem x_nx1 (hT : TI T S) (h : DR T S f n r) {k : Nat} (hk : k < n) : f_Flow_nextOf S (some f) (Int32.ofNat k) 1 = some (sI S 70 (96 + k), S) := by
  obtain ⟨e1, e2⟩ := x_row hT h (j := 3) (by decide) hk
  unfold f_Flow_nextOf
  rw [ti_rv (DR_K hT h).2.1, Option.bind_some, x_th1 hT h hk, b2_s, if_neg (by decide), if_neg (by decide), e1, Option.bind_some, e2, Option.bind_some]
theorem x_nx0 (hT : TI T S) (h : DR T S f n r) {k : Nat} (hk : k < n) : f_Flow_nextOf S (some f) (Int32.ofNat k) 0 = some (sI S 71 (96 + k), S) := by
  obtain ⟨e1, e2⟩ := x_row hT h (j := 4) (by decide) hk
  unfold f_Flow_nextOf
  rw [ti_rv (DR_K hT h).2.1, Option.bind_some, x_th1 hT h hk, b2_s, if_neg (by decide), if_pos rfl, e1, Option.bind_some, e2, Option.bind_some]
theorem x_none (hT : TI T S) (h : DR T S f n r) {v : Int32} (hv : In (-1) 11 v) : f_Flow_isNoneOrThere S (some f) v = some (if v.toInt < (n : Int) then 1 else 0, S) := by
  have hn := h.2.2.1
  unfold f_Flow_isNoneOrThere f_Flow_isNoneOrThere_B13
  by_cases c : v = -1
  · rw [if_pos c, if_pos (by rw [c, show (-1 : Int32).toInt = -1 from by decide]; omega)]
  · have c' : 0 ≤ v.toInt := by
      have : v.toInt ≠ -1 := fun q => c (Int32.toInt_inj.mp (q.trans (by decide)))
      have := hv.1
      omega
    have e := x_there (DR_K hT h).2.1 h.2.2.2.1 hn v
    rw [if_neg c, ti_rv (DR_K hT h).2.1, Option.bind_some]
    by_cases d : v.toInt < (n : Int)
    · rw [if_pos ⟨c', d⟩] at e
      rw [e, b2_s, if_neg (by decide : ¬ (1 : Int32) = 0), if_pos d]
    · rw [if_neg (fun q => d q.2)] at e
      rw [e, b2_s, if_pos rfl, if_neg d]
theorem nat1 (j : Nat) : Int32.ofNat j + 1 = Int32.ofNat (j + 1) := by rw [Int32.ofNat_add]; rfl
theorem nat_le {a b : Nat} (ha : a ≤ 12) (hb : b ≤ 12) : Int32.ofNat a ≤ Int32.ofNat b ↔ a ≤ b := by
  rw [Int32.le_iff_toInt_le, (gl2 a (by omega)).1, (gl2 b (by omega)).1]
  omega
theorem x_all (hT : TI T S) (h : DR T S f n r) (hsr : SR S) : Ho (f_Flow_hasAllNextSteps S (some f)) (fun q => q.2 = S ∧ ((q.1 = 1 ∧ nxin S 96 n) ∨ (q.1 = 0 ∧ ¬ nxin S 96 n))) := by
  obtain ⟨K4, Kf, Kr, -⟩ := DR_K hT h
  have hn := h.2.2.1
  have key : ∀ m j fu, j + m = n → m < fu → (∀ k, k < j → (sI S 67 (96 + k)).toInt < 5 → (sI S 70 (96 + k)).toInt < (n : Int) ∧ (sI S 71 (96 + k)).toInt < (n : Int)) → Ho (f_Flow_hasAllNextSteps_L2 fu S (some f) (Int32.ofNat j)) (fun q => q.2 = S ∧ ((q.1 = 1 ∧ nxin S 96 n) ∨ (q.1 = 0 ∧ ¬ nxin S 96 n))) := by
    intro m
    induction m with
    | zero =>
      intro j fu h1 h2 hall
      obtain ⟨fu, rfl⟩ : ∃ g, fu = g + 1 := ⟨fu - 1, by omega⟩
      have hj : j = n := by omega
      subst hj
      unfold f_Flow_hasAllNextSteps_L2 f_Flow_hasAllNextSteps_C2
      rw [x_g Kf h.2.2.2.1, Option.bind_some, if_pos ((nat_le hn hn).mpr (Nat.le_refl _))]
      exact r_some ⟨rfl, Or.inl ⟨rfl, hall⟩⟩
    | succ m ih =>
      intro j fu h1 h2 hall
      obtain ⟨fu, rfl⟩ : ∃ g, fu = g + 1 := ⟨fu - 1, by omega⟩
      have hj : j < n := by omega
      unfold f_Flow_hasAllNextSteps_L2 f_Flow_hasAllNextSteps_C2
      rw [x_g Kf h.2.2.2.1, Option.bind_some, if_neg (fun q => by have := (nat_le hn (by omega)).mp q; omega), ti_rv Kf, Option.bind_some, x_kind hT h hj, b2_s]
      have go : ((sI S 67 (96 + j)).toInt < 5 → (sI S 70 (96 + j)).toInt < (n : Int) ∧ (sI S 71 (96 + j)).toInt < (n : Int)) → Ho (f_Flow_hasAllNextSteps_B47 (f_Flow_hasAllNextSteps_L2 fu) S (some f) (Int32.ofNat j)) (fun q => q.2 = S ∧ ((q.1 = 1 ∧ nxin S 96 n) ∨ (q.1 = 0 ∧ ¬ nxin S 96 n))) := fun hok => by
        unfold f_Flow_hasAllNextSteps_B47
        rw [Option.bind_some, nat1]
        refine ih (j + 1) fu (by omega) (by omega) (fun k hk => ?_)
        by_cases c : k = j
        · rw [c]; exact hok
        · exact hall k (by omega)
      refine r_if (fun c => go (fun q => ?_)) (fun c => ?_)
      · have := Int32.le_iff_toInt_le.mp c
        rw [show (5 : Int32).toInt = 5 from by decide] at this
        omega
      · have c5 : (sI S 67 (96 + j)).toInt < 5 := by
          have := Int32.lt_iff_toInt_lt.mp (Int32.not_le.mp c)
          rw [show (5 : Int32).toInt = 5 from by decide] at this
          exact this
        obtain ⟨y1, y2⟩ := (hsr (96 + j) (by omega)).2 c5
        have e1 := x_none hT h y1
        have e2 := x_none hT h y2
        rw [ti_rv Kf, Option.bind_some, x_nx1 hT h hj, b2_s, ti_rv Kf, Option.bind_some]
        by_cases d : (sI S 70 (96 + j)).toInt < (n : Int)
        · rw [if_pos d] at e1
          rw [e1, b2_s, if_neg (by decide : ¬ (1 : Int32) = 0), ti_rv Kf, Option.bind_some, x_nx0 hT h hj, b2_s, ti_rv Kf, Option.bind_some]
          by_cases d2 : (sI S 71 (96 + j)).toInt < (n : Int)
          · rw [if_pos d2] at e2
            rw [e2, b2_s, if_neg (by decide : ¬ (1 : Int32) = 0)]
            exact go (fun _ => ⟨d, d2⟩)
          · rw [if_neg d2] at e2
            rw [e2, b2_s, if_pos rfl]
            exact r_some ⟨rfl, Or.inr ⟨rfl, fun q => d2 (q j hj c5).2⟩⟩
        · rw [if_neg d] at e1
          rw [e1, b2_s, if_pos rfl]
          exact r_some ⟨rfl, Or.inr ⟨rfl, fun q => d (q j hj c5).1⟩⟩
  unfold f_Flow_hasAllNextSteps
  exact key n 0 kr_FU (by omega) (by show n < 2000; omega) (fun k hk => absurd hk (Nat.not_lt_zero _))
end
