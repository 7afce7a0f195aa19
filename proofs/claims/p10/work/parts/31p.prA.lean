/-! ===== points, helper, need, link: the class's answer is the reference's, and the rows stay alike ===== -/
theorem pr_points {n : Nat} {T T1 : Nat → Nat} {w : List Nat} {S S1 S2 : AS} {k v a b c : Int32} (hI : IV n T S) (hr : RP9 S) (e1 : f_W_points S (some 4) a b c (some 126) = some (k, S1)) (g1 : Rl T (99999 :: w) S 10 700 T1 S1) (e2 : f_M_points S1 (some 57) a b c = some (v, S2)) : sI S2 57 82 = k ∧ (k = 0 → sJ S1 126 0 = v.toInt64) ∧ RP9 S2 := by
  obtain ⟨K4, K57, k6, l6⟩ := k_six hI.1
  unfold f_W_points at e1
  rw [ti_rv K4, Option.bind_some] at e1
  obtain ⟨q, hq, p⟩ := x_K_points hI.1 a b c
  rw [hq] at e1
  obtain ⟨q2, hq2, p2⟩ := x_M_points g1.1 a b c
  rw [hq2] at e2
  rcases p with ⟨no, rfl⟩ | ⟨ok, i, hi, ei, rfl⟩
  · rw [bh_r, if_pos rfl] at e1
    obtain ⟨rfl, rfl⟩ := pk_inj e1
    rcases p2 with ⟨no2, rfl⟩ | ⟨ok2, -⟩
    · obtain ⟨rfl, rfl⟩ := pk_inj e2
      refine ⟨ti_sI_eq _ _ _ _, fun q => absurd q (by decide), fun j hj => ?_⟩
      rw [ti_sI_ne (by omega), ti_sI_ne (by omega), ti_sI_ne (by omega), ti_sI_ne (by omega), sI_wX]
      exact hr j hj
    · exact absurd ok2 no
  · rw [bh_l, bJ_K (S := wI S (pk c) i b) k6 l6, Option.bind_some] at e1
    obtain ⟨rfl, rfl⟩ := pk_inj e1
    rcases p2 with ⟨no2, -⟩ | ⟨ok2, i2, hi2, ei2, rfl⟩
    · exact absurd ok no2
    · have ii : i2 = i := by
        have h := (gl2 i (by omega)).2
        have h2 := (gl2 i2 (by omega)).2
        rw [← ei, ei2, h2] at h
        exact h
      subst ii
      obtain ⟨rfl, rfl⟩ := pk_inj e2
      have d : pk c = 9 ∧ pm c = 73 ∨ pk c = 10 ∧ pm c = 74 := by
        unfold pk pm
        by_cases c0 : c = 0
        · rw [if_pos c0, if_pos c0]; exact Or.inl ⟨rfl, rfl⟩
        · rw [if_neg c0, if_neg c0]; exact Or.inr ⟨rfl, rfl⟩
      refine ⟨?_, fun _ => ?_, fun j hj => ?_⟩
      · rw [ti_sI_ne (by omega), ti_sI_eq]
      · rw [sJ_wJ, sI_wJ]
        have := hr i2 hi
        rcases d with ⟨d1, d2⟩ | ⟨d1, d2⟩
        · rw [d1, d2, ti_sI_ne (by omega), this.1]
        · rw [d1, d2, ti_sI_ne (by omega), this.2]
      · have h := hr j hj
        by_cases cj : j = i2
        · subst cj
          rcases d with ⟨d1, d2⟩ | ⟨d1, d2⟩
          · rw [d1, d2]
            refine ⟨?_, ?_⟩
            · rw [ti_sI_ne (by omega), ti_sI_ne (by omega), sI_wJ, ti_sI_eq, ti_sI_eq]
            · rw [ti_sI_ne (by omega), ti_sI_ne (by omega), sI_wJ, ti_sI_ne (by omega), ti_sI_ne (by omega), ti_sI_ne (by omega), sI_wJ, ti_sI_ne (by omega)]
              exact h.2
          · rw [d1, d2]
            refine ⟨?_, ?_⟩
            · rw [ti_sI_ne (by omega), ti_sI_ne (by omega), sI_wJ, ti_sI_ne (by omega), ti_sI_ne (by omega), ti_sI_ne (by omega), sI_wJ, ti_sI_ne (by omega)]
              exact h.1
            · rw [ti_sI_ne (by omega), ti_sI_ne (by omega), sI_wJ, ti_sI_eq, ti_sI_eq]
        · rw [ti_sI_ne (by omega), ti_sI_ne (by omega), sI_wJ, ti_sI_ne (by omega), ti_sI_ne (by omega), ti_sI_ne (by omega), sI_wJ, ti_sI_ne (by omega), ti_sI_ne (by omega), ti_sI_ne (by omega), sI_wJ, ti_sI_ne (by omega), ti_sI_ne (by omega), ti_sI_ne (by omega), sI_wJ, ti_sI_ne (by omega)]
          exact h
theorem nat_eq {i i2 : Nat} {a : Int32} (h : i < 301) (h2 : i2 < 301) (e : a = Int32.ofNat i) (e2 : a = Int32.ofNat i2) : i2 = i := by
  have z := (gl2 i h).2
  have z2 := (gl2 i2 h2).2
  rw [← e, e2, z2] at z
  exact z
theorem In_nat {i : Nat} {a : Int32} {m : Nat} (h : i < 301) (e : a = Int32.ofNat i) (hm : i ≤ m) : In 0 m a := by
  have z := (gl2 i h).1
  rw [e]
  exact ⟨by omega, by omega⟩
theorem ng_b (v : Int32) : (if ng v = 0 then (0 : Int64) else 1) = if ng v = 0 then 0 else 1 := rfl
theorem pr_helper {n : Nat} {T T1 : Nat → Nat} {w : List Nat} {S S1 S2 : AS} {k v a : Int32} (hI : IV n T S) (hr : RP23 T S) (e1 : f_W_helper S (some 4) a (some 126) = some (k, S1)) (g1 : Rl T (99999 :: w) S 10 700 T1 S1) (e2 : f_M_helper S1 (some 57) a = some (v, S2)) : sI S2 57 82 = k ∧ (k = 0 → sJ S1 126 0 = if v = 0 then 0 else 1) ∧ RP23 T1 S2 := by
  obtain ⟨K4, K57, k6, l6⟩ := k_six hI.1
  have t57 := hI.1.t9.1
  have e65 := (md_at hI.1 (j := 8) (p := 65) rfl rfl).2.1
  have t8 := (kd_ty hI.1 (j := 2) (p := 8) rfl rfl).2.1
  unfold f_W_helper at e1
  rw [ti_rv K4, Option.bind_some] at e1
  have up : ∀ i, i < 6 → T1 (29 + 4 * i) = 13 := fun i hi => (g1.ty _ (by rw [(hr.2 i hi).1]; decide)).trans (hr.2 i hi).1
  rcases x_K_helper hI.1 hr a with ⟨no, e⟩ | ⟨i, hi, ei, e⟩
  · rw [e, bh_r, if_pos rfl] at e1
    obtain ⟨rfl, rfl⟩ := pk_inj e1
    rcases x_M_helper g1.1 a with ⟨-, f⟩ | ⟨i2, hi2, ei2, f⟩
    · rw [f] at e2
      obtain ⟨rfl, rfl⟩ := pk_inj e2
      refine ⟨ti_sI_eq _ _ _ _, fun q => absurd q (by decide), hr.1, fun j hj => ⟨up j hj, ?_⟩⟩
      rw [ti_sI_ne (by omega), ti_sI_ne (by omega), sI_wX]
      exact (hr.2 j hj).2
    · exact absurd (In_nat (m := 5) (by omega) ei2 (by omega)) no
  · have B : ∀ v' : Int64, f_W_helper_B15 (wI S (29 + 4 * i) 10 (ng (sI S 65 i))) (some 126) (0 : Int32) v' = some (0, wJ (wI S (29 + 4 * i) 10 (ng (sI S 65 i))) 126 0 v') := fun v' => by
      unfold f_W_helper_B15
      rw [bJ_K (S := wI S (29 + 4 * i) 10 (ng (sI S 65 i))) k6 l6, Option.bind_some]
    rw [e, bh_l] at e1
    have e1 : some ((0 : Int32), wJ (wI S (29 + 4 * i) 10 (ng (sI S 65 i))) 126 0 (if ng (sI S 65 i) = 0 then 0 else 1)) = some (k, S1) := by
      rw [← e1]
      by_cases c : ng (sI S 65 i) = 0
      · rw [if_pos c, if_pos c, B]
      · rw [if_neg c, if_neg c, B]
    obtain ⟨rfl, rfl⟩ := pk_inj e1
    rcases x_M_helper g1.1 a with ⟨no, f⟩ | ⟨i2, hi2, ei2, f⟩
    · exact absurd (In_nat (m := 5) (by omega) ei (by omega)) no
    · have ii := nat_eq (by omega) (by omega) ei ei2
      subst ii
      rw [f] at e2
      obtain ⟨rfl, rfl⟩ := pk_inj e2
      have o : sI (wJ (wI S (29 + 4 * i2) 10 (ng (sI S 65 i2))) 126 0 (if ng (sI S 65 i2) = 0 then 0 else 1)) 65 i2 = sI S 65 i2 := by
        rw [sI_wJ, ti_sI_ne (by omega)]
      refine ⟨?_, fun _ => ?_, hr.1, fun j hj => ⟨up j hj, ?_⟩⟩
      · rw [ti_sI_ne (by omega), ti_sI_eq]
      · rw [sJ_wJ, o]
      · rw [o]
        have h := (hr.2 j hj).2
        by_cases cj : j = i2
        · subst cj
          rw [ti_sI_ne (by omega), ti_sI_ne (by omega), sI_wJ, ti_sI_eq, ti_sI_eq]
        · rw [ti_sI_ne (by omega), ti_sI_ne (by omega), sI_wJ, ti_sI_ne (by omega), ti_sI_ne (by omega), ti_sI_ne (by omega), sI_wJ, ti_sI_ne (by omega)]
          exact h
theorem pr_need {n : Nat} {T T1 : Nat → Nat} {w : List Nat} {S S1 S2 : AS} {k v a b : Int32} (hI : IV n T S) (hr : RP27 T S) (e1 : f_W_need S (some 4) a b (some 126) = some (k, S1)) (g1 : Rl T (99999 :: w) S 10 700 T1 S1) (e2 : f_M_need S1 (some 57) a b = some (v, S2)) : sI S2 57 82 = k ∧ (k = 0 → sJ S1 126 0 = v.toInt64) ∧ RP27 T1 S2 := by
  obtain ⟨K4, K57, k6, l6⟩ := k_six hI.1
  unfold f_W_need at e1
  rw [ti_rv K4, Option.bind_some] at e1
  have up : ∀ i, i < 4 → T1 (53 + i) = 17 := fun i hi => (g1.ty _ (by rw [(hr.2 i hi).1]; decide)).trans (hr.2 i hi).1
  rcases x_K_need hI.1 hr a b with ⟨no, e⟩ | ⟨i, hi, ei, ⟨no, e⟩ | ⟨ok, e⟩⟩
  · rw [e, bh_r, if_pos rfl] at e1
    obtain ⟨rfl, rfl⟩ := pk_inj e1
    rcases x_M_need g1.1 a b with ⟨-, f⟩ | ⟨i2, hi2, ei2, -⟩
    · rw [f] at e2
      obtain ⟨rfl, rfl⟩ := pk_inj e2
      refine ⟨ti_sI_eq _ _ _ _, fun q => absurd q (by decide), hr.1, fun j hj => ⟨up j hj, ?_⟩⟩
      rw [ti_sI_ne (by omega), ti_sI_ne (by omega), sI_wX]
      exact (hr.2 j hj).2
    · exact absurd (In_nat (m := 3) (by omega) ei2 (by omega)) no
  · rw [e, bh_r, if_neg (by decide +kernel), if_pos rfl] at e1
    obtain ⟨rfl, rfl⟩ := pk_inj e1
    rcases x_M_need g1.1 a b with ⟨no2, f⟩ | ⟨i2, hi2, ei2, ⟨no2, f⟩ | ⟨ok2, f⟩⟩
    · exact absurd (In_nat (m := 3) (by omega) ei (by omega)) no2
    · rw [f] at e2
      obtain ⟨rfl, rfl⟩ := pk_inj e2
      refine ⟨ti_sI_eq _ _ _ _, fun q => absurd q (by decide), hr.1, fun j hj => ⟨up j hj, ?_⟩⟩
      rw [ti_sI_ne (by omega), ti_sI_ne (by omega), sI_wX]
      exact (hr.2 j hj).2
    · exact absurd ok2 no
  · rw [e, bh_l, bJ_K (S := wI S (53 + i) 0 b) k6 l6, Option.bind_some] at e1
    obtain ⟨rfl, rfl⟩ := pk_inj e1
    rcases x_M_need g1.1 a b with ⟨no2, f⟩ | ⟨i2, hi2, ei2, ⟨no2, f⟩ | ⟨ok2, f⟩⟩
    · exact absurd (In_nat (m := 3) (by omega) ei (by omega)) no2
    · exact absurd ok no2
    · have ii := nat_eq (by omega) (by omega) ei ei2
      subst ii
      rw [f] at e2
      obtain ⟨rfl, rfl⟩ := pk_inj e2
      refine ⟨?_, fun _ => ?_, hr.1, fun j hj => ⟨up j hj, ?_⟩⟩
      · rw [ti_sI_ne (by omega), ti_sI_eq]
      · rw [sJ_wJ, sI_wJ, ti_sI_ne (by omega)]
      · have h := (hr.2 j hj).2
        by_cases cj : j = i2
        · subst cj
          rw [ti_sI_ne (by omega), ti_sI_ne (by omega), sI_wJ, ti_sI_eq, ti_sI_eq]
        · rw [ti_sI_ne (by omega), ti_sI_ne (by omega), sI_wJ, ti_sI_ne (by omega), ti_sI_ne (by omega), ti_sI_ne (by omega), sI_wJ, ti_sI_ne (by omega)]
          exact h
theorem pr_link {n : Nat} {T T1 : Nat → Nat} {w : List Nat} {S S1 S2 : AS} {k v a b : Int32} (hI : IV n T S) (hr : RP46 S) (e1 : f_W_link S (some 4) a b (some 126) = some (k, S1)) (g1 : Rl T (99999 :: w) S 10 700 T1 S1) (e2 : f_M_link S1 (some 57) a b = some (v, S2)) : sI S2 57 82 = k ∧ (k = 0 → sJ S1 126 0 = v.toInt64) ∧ RP46 S2 := by
  obtain ⟨K4, K57, k6, l6⟩ := k_six hI.1
  unfold f_W_link at e1
  rw [ti_rv K4, Option.bind_some] at e1
  have lk : ∀ {S' : AS} {i : Nat}, sI S' 122 i = sI S 122 i → (LK S' i b ↔ LK S i b) := fun h => by unfold LK; rw [h]
  rcases x_K_link hI.1 hr a b with ⟨no, e⟩ | ⟨i, hi, ei, hb, ⟨no, e⟩ | ⟨ok, e⟩⟩
  · rw [e, bh_r, if_pos rfl] at e1
    obtain ⟨rfl, rfl⟩ := pk_inj e1
    rcases x_M_link g1.1 a b with ⟨-, f⟩ | ⟨i2, hi2, ei2, hb2, -⟩
    · rw [f] at e2
      obtain ⟨rfl, rfl⟩ := pk_inj e2
      refine ⟨ti_sI_eq _ _ _ _, fun q => absurd q (by decide), fun j hj => ?_⟩
      rw [ti_sI_ne (by omega), ti_sI_ne (by omega), sI_wX]
      exact hr j hj
    · exact absurd ⟨In_nat (m := 5) (by omega) ei2 (by omega), hb2⟩ no
  · rw [e, bh_r, if_neg (by decide +kernel), if_pos rfl] at e1
    obtain ⟨rfl, rfl⟩ := pk_inj e1
    rcases x_M_link g1.1 a b with ⟨no2, f⟩ | ⟨i2, hi2, ei2, hb2, ⟨no2, f⟩ | ⟨ok2, f⟩⟩
    · exact absurd ⟨In_nat (m := 5) (by omega) ei (by omega), hb⟩ no2
    · rw [f] at e2
      obtain ⟨rfl, rfl⟩ := pk_inj e2
      refine ⟨ti_sI_eq _ _ _ _, fun q => absurd q (by decide), fun j hj => ?_⟩
      rw [ti_sI_ne (by omega), ti_sI_ne (by omega), sI_wX]
      exact hr j hj
    · have ii := nat_eq (by omega) (by omega) ei ei2
      subst ii
      exact absurd ((lk (by rw [sI_wX])).mp ok2) no
  · rw [e, bh_l, bJ_K (S := wI S 28 i b) k6 l6, Option.bind_some] at e1
    obtain ⟨rfl, rfl⟩ := pk_inj e1
    rcases x_M_link g1.1 a b with ⟨no2, f⟩ | ⟨i2, hi2, ei2, hb2, ⟨no2, f⟩ | ⟨ok2, f⟩⟩
    · exact absurd ⟨In_nat (m := 5) (by omega) ei (by omega), hb⟩ no2
    · have ii := nat_eq (by omega) (by omega) ei ei2
      subst ii
      exact absurd ((lk (by rw [sI_wJ, ti_sI_ne (by omega)])).mpr ok) no2
    · have ii := nat_eq (by omega) (by omega) ei ei2
      subst ii
      rw [f] at e2
      obtain ⟨rfl, rfl⟩ := pk_inj e2
      refine ⟨?_, fun _ => ?_, fun j hj => ?_⟩
      · rw [ti_sI_ne (by omega), ti_sI_eq]
      · rw [sJ_wJ, sI_wJ, ti_sI_ne (by omega)]
      · have h := hr j hj
        by_cases cj : j = i2
        · subst cj
          rw [ti_sI_ne (by omega), ti_sI_ne (by omega), sI_wJ, ti_sI_eq, ti_sI_eq]
        · rw [ti_sI_ne (by omega), ti_sI_ne (by omega), sI_wJ, ti_sI_ne (by omega), ti_sI_ne (by omega), ti_sI_ne (by omega), sI_wJ, ti_sI_ne (by omega)]
          exact h
