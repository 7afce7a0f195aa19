/-! ===== the weakest level: both sides find what can be reached, the one until nothing grows, the other 96 times over ===== -/
/-- the set of factors behind a step's yes, behind its no; -1: that way is shut -/
def YS (m : AS) (v s u : Nat) : Int32 := if sI m 67 (12 * v + s) = 0 then Int32.ofNat u ||| ((1 : Int32) <<< (sI m 68 (12 * v + s) &&& 31)) else if sI m 67 (12 * v + s) = 4 then (if sI m 68 (12 * v + s) ≤ lv8 u then Int32.ofNat u else -1) else Int32.ofNat u
def NS (m : AS) (v s u : Nat) : Int32 := if sI m 67 (12 * v + s) = 4 then (if lv8 u < sI m 68 (12 * v + s) then Int32.ofNat u else -1) else Int32.ofNat u
/-- one edge between places: place 8 * step + set -/
def EG (m : AS) (v n q r : Nat) : Prop := q < 8 * n ∧ r < 8 * n ∧ ¬ (5 : Int32) ≤ sI m 67 (12 * v + q / 8) ∧ ((sI m 70 (12 * v + q / 8) = Int32.ofNat (r / 8) ∧ YS m v (q / 8) (q % 8) = Int32.ofNat (r % 8)) ∨ (sI m 71 (12 * v + q / 8) = Int32.ofNat (r / 8) ∧ NS m v (q / 8) (q % 8) = Int32.ofNat (r % 8)))
def WkR (m : AS) (v n q : Nat) : Prop := ∀ C : Nat → Prop, C 0 → (∀ a b, C a → EG m v n a b → C b) → C q
theorem WkR_0 {m : AS} {v n : Nat} : WkR m v n 0 := fun _ h _ => h
theorem WkR_s {m : AS} {v n a b : Nat} (h : WkR m v n a) (e : EG m v n a b) : WkR m v n b := fun C c0 cs => cs a b (h C c0 cs) e
theorem WkR_lt {m : AS} {v n q : Nat} (n1 : 1 ≤ n) (h : WkR m v n q) : q < 8 * n := h (fun q => q < 8 * n) (by omega) (fun _ _ _ e => e.2.1)
/-- what is read of a flow -/
def GD (m : AS) (v n : Nat) : Prop := v < 8 ∧ 1 ≤ n ∧ n ≤ 12 ∧ ∀ s, s < n → ¬ (5 : Int32) ≤ sI m 67 (12 * v + s) → (∀ j, j = 70 ∨ j = 71 → sI m j (12 * v + s) < 0 ∨ ∃ t, t < n ∧ sI m j (12 * v + s) = Int32.ofNat t) ∧ (sI m 67 (12 * v + s) = 0 → ∃ f, f < 3 ∧ sI m 68 (12 * v + s) = Int32.ofNat f)
theorem or8 : ∀ u, u < 8 → ∀ f, f < 3 → ∃ w, w < 8 ∧ (Int32.ofNat u ||| ((1 : Int32) <<< (Int32.ofNat f &&& 31))) = Int32.ofNat w := by decide +kernel
theorem YS_c {m : AS} {v n s u : Nat} (g : GD m v n) (hs : s < n) (h5 : ¬ (5 : Int32) ≤ sI m 67 (12 * v + s)) (hu : u < 8) : YS m v s u = -1 ∨ ∃ w, w < 8 ∧ YS m v s u = Int32.ofNat w := by
  unfold YS
  by_cases c0 : sI m 67 (12 * v + s) = 0
  · rw [if_pos c0]
    obtain ⟨f, f3, ef⟩ := (g.2.2.2 s hs h5).2 c0
    rw [ef]
    exact Or.inr (or8 u hu f f3)
  · rw [if_neg c0]
    by_cases c4 : sI m 67 (12 * v + s) = 4
    · rw [if_pos c4]
      by_cases c : sI m 68 (12 * v + s) ≤ lv8 u
      · rw [if_pos c]
        exact Or.inr ⟨u, hu, rfl⟩
      · rw [if_neg c]
        exact Or.inl rfl
    · rw [if_neg c4]
      exact Or.inr ⟨u, hu, rfl⟩
theorem NS_c {m : AS} {v s u : Nat} (hu : u < 8) : NS m v s u = -1 ∨ ∃ w, w < 8 ∧ NS m v s u = Int32.ofNat w := by
  unfold NS
  by_cases c4 : sI m 67 (12 * v + s) = 4
  · rw [if_pos c4]
    by_cases c : lv8 u < sI m 68 (12 * v + s)
    · rw [if_pos c]
      exact Or.inr ⟨u, hu, rfl⟩
    · rw [if_neg c]
      exact Or.inl rfl
  · rw [if_neg c4]
    exact Or.inr ⟨u, hu, rfl⟩
/-! ===== the least level over a set of places ===== -/
def LL (K : Nat → Prop) (a : Int32) : Prop := (a = -1 ∧ ∀ q, ¬ K q) ∨ ((∃ q, K q ∧ a = lv8 (q % 8)) ∧ ∀ q, K q → a ≤ lv8 (q % 8))
theorem lv8_0 : ∀ u, u < 8 → (0 : Int32) ≤ lv8 u ∧ lv8 u ≠ -1 := by decide +kernel
theorem LL_r {K : Nat → Prop} {a : Int32} (h : LL K a) : a = -1 ∨ (0 : Int32) ≤ a := by
  rcases h with ⟨h, -⟩ | ⟨⟨q, -, h⟩, -⟩
  · exact Or.inl h
  · rw [h]
    exact Or.inr (lv8_0 _ (Nat.mod_lt _ (by decide))).1
theorem LL_n {K : Nat → Prop} {a : Int32} (h : LL K a) (e : a = -1) (q : Nat) : ¬ K q := by
  rcases h with ⟨-, h⟩ | ⟨⟨q', -, h⟩, -⟩
  · exact h q
  · exact absurd (h.symm.trans e) (lv8_0 _ (Nat.mod_lt _ (by decide))).2
theorem LL_p {K : Nat → Prop} {a : Int32} (h : LL K a) (e : a ≠ -1) : (∃ q, K q ∧ a = lv8 (q % 8)) ∧ ∀ q, K q → a ≤ lv8 (q % 8) := by
  rcases h with ⟨h, -⟩ | h
  · exact absurd h e
  · exact h
theorem LL_cong {K K' : Nat → Prop} {a : Int32} (e : ∀ q, K q ↔ K' q) (h : LL K a) : LL K' a := by
  have : K = K' := funext (fun q => propext (e q))
  rw [← this]
  exact h
theorem i32_le {a b : Int32} : a ≤ b ↔ a.toInt ≤ b.toInt := Int32.le_iff_toInt_le
theorem LL_uniq {K : Nat → Prop} {a b : Int32} (h : LL K a) (g : LL K b) : a = b := by
  rcases h with ⟨h1, h2⟩ | ⟨⟨q, q1, q2⟩, h2⟩
  · rcases g with ⟨g1, -⟩ | ⟨⟨r, r1, -⟩, -⟩
    · rw [h1, g1]
    · exact absurd r1 (h2 r)
  · rcases g with ⟨-, g2⟩ | ⟨⟨r, r1, r2⟩, g2⟩
    · exact absurd q1 (g2 q)
    · have z1 := i32_le.mp (h2 r r1)
      have z2 := i32_le.mp (g2 q q1)
      rw [← r2] at z1
      rw [← q2] at z2
      exact Int32.toInt_inj.mp (by omega)
theorem LL_L {K K' : Nat → Prop} {a b : Int32} (h : LL K a) (g : LL K' b) (c : b = -1 ∨ (a ≠ -1 ∧ a ≤ b)) : LL (fun q => K q ∨ K' q) a := by
  by_cases eb : b = -1
  · exact LL_cong (fun q => ⟨Or.inl, fun z => z.elim id (fun z => absurd z (LL_n g eb q))⟩) h
  · obtain ⟨c1, c2⟩ := c.elim (fun z => absurd z eb) id
    obtain ⟨⟨q, q1, q2⟩, h2⟩ := LL_p h c1
    obtain ⟨-, g2⟩ := LL_p g eb
    refine Or.inr ⟨⟨q, Or.inl q1, q2⟩, fun r z => z.elim (h2 r) (fun z => ?_)⟩
    have z1 := i32_le.mp (g2 r z)
    have z2 := i32_le.mp c2
    exact i32_le.mpr (by omega)
theorem LL_R {K K' : Nat → Prop} {a b : Int32} (h : LL K a) (g : LL K' b) (c : a = -1 ∨ (b ≠ -1 ∧ b ≤ a)) : LL (fun q => K q ∨ K' q) b := LL_cong (fun _ => Or.comm) (LL_L g h c)
theorem LL_1 {q u : Nat} (hu : q % 8 = u) : LL (fun r => r = q) (lv8 u) := Or.inr ⟨⟨q, rfl, by rw [hu]⟩, fun r z => by
  rw [z, hu]
  exact i32_le.mpr (Int.le_refl _)⟩
theorem lt32 {a b : Int32} : a < b ↔ a.toInt < b.toInt := Int32.lt_iff_toInt_lt
theorem p_weaker {K K' : Nat → Prop} {S : AS} {a b : Int32} (h : LL K a) (g : LL K' b) : Hp (f_Flow_weaker S a b) (fun z => z.2 = S ∧ LL (fun q => K q ∨ K' q) z.1) := by
  have ra := LL_r h
  have rb := LL_r g
  have m1 : (-1 : Int32).toInt = -1 := by decide
  have z0 : (0 : Int32).toInt = 0 := by decide
  have pos : ∀ {x : Int32}, x = -1 ∨ (0 : Int32) ≤ x → x ≠ -1 → 0 ≤ x.toInt := fun h e => by
    have := i32_le.mp (h.elim (fun q => absurd q e) id)
    omega
  unfold f_Flow_weaker f_Flow_weaker_B10
  by_cases c1 : a = -1
  · refine p_of (st_T c1) ?_
    by_cases c2 : a < b
    · rw [if_pos c2]
      exact p_ret ⟨rfl, LL_R h g (Or.inl c1)⟩
    · rw [if_neg c2]
      refine p_ret ⟨rfl, LL_L h g (Or.inl (Classical.byContradiction (fun e => c2 (lt32.mpr ?_))))⟩
      have := pos rb e
      rw [c1]
      omega
  · refine p_of (st_F c1) ?_
    by_cases c2 : b = -1
    · refine p_of (st_T c2) ?_
      rw [if_neg (fun q => by
        have := lt32.mp q
        have := pos ra c1
        rw [c2] at *
        omega)]
      exact p_ret ⟨rfl, LL_L h g (Or.inl c2)⟩
    · refine p_of (st_F c2) ?_
      by_cases c3 : b < a
      · rw [if_pos c3]
        have le : b ≤ a := i32_le.mpr (by
          have := lt32.mp c3
          omega)
        exact p_ret ⟨rfl, LL_R h g (Or.inr ⟨c2, le⟩)⟩
      · rw [if_neg c3]
        exact p_ret ⟨rfl, LL_L h g (Or.inr ⟨c1, Int32.not_lt.mp c3⟩)⟩
/-! ===== the class: the level of a set, the ways out of a step ===== -/
theorem lv8_b : ∀ j, j < 3 → ∀ u, u < 8 → (bt (Int32.ofNat u) j = true → lv8 (u % 2 ^ j) + Int32.ofNat (j + 1) = lv8 (u % 2 ^ (j + 1))) ∧ (¬ bt (Int32.ofNat u) j = true → lv8 (u % 2 ^ j) = lv8 (u % 2 ^ (j + 1))) := by decide +kernel
section
variable {S m : AS}
theorem p_los_L (hw : cWgt S m) {u : Nat} (hu : u < 8) : ∀ (k j fu : Nat), j + k = 3 → Hp (f_Shown_levelOfSet_L4 fu S (Int32.ofNat u) (lv8 (u % 2 ^ j)) (Int32.ofNat j)) (fun q => q = (lv8 u, S))
  | _, _, 0, _ => p_0
  | 0, j, fu + 1, hk => by
    unfold f_Shown_levelOfSet_L4 f_Shown_levelOfSet_C4
    have e : j = 3 := by omega
    subst e
    exact p_of (st_T (by decide)) (p_ret (by rw [show u % 2 ^ 3 = u from Nat.mod_eq_of_lt hu]))
  | k + 1, j, fu + 1, hk => by
    unfold f_Shown_levelOfSet_L4 f_Shown_levelOfSet_C4
    have nj : ¬ (3 : Int32) ≤ Int32.ofNat j := fun q => by
      have := (ole (a := 3) (b := j) (by decide) (by omega)).mp q
      omega
    obtain ⟨z1, z2⟩ := lv8_b j (by omega) u hu
    refine p_of (st_F nj) (p_of (st_b2 (bt_is (by omega) S)) ?_)
    unfold f_Shown_levelOfSet_B24
    by_cases c : bt (Int32.ofNat u) j = true
    · rw [if_pos c]
      refine p_of (st_F one0) (p_b2 (p_wgt hw (by omega)) (fun v S' q => ?_))
      cases q
      refine p_of st_val (p_of st_val ?_)
      rw [o1, z1 c]
      exact p_los_L hw hu k (j + 1) fu (by omega)
    · rw [if_neg c]
      refine p_of (st_T rfl) (p_of st_val ?_)
      rw [o1, z2 c]
      exact p_los_L hw hu k (j + 1) fu (by omega)
theorem p_los (hw : cWgt S m) {u : Nat} (hu : u < 8) : Hp (f_Shown_levelOfSet S (Int32.ofNat u)) (fun q => q = (lv8 u, S)) := by
  have := p_los_L hw hu 3 0 kr_FU rfl
  rw [show lv8 (u % 2 ^ 0) = 0 by rw [Nat.pow_zero, Nat.mod_one]; decide +kernel] at this
  exact this
theorem YS_0 {v s : Nat} (u : Nat) (c : sI m 67 (12 * v + s) = 0) : YS m v s u = Int32.ofNat u ||| ((1 : Int32) <<< (sI m 68 (12 * v + s) &&& 31)) := if_pos c
theorem YS_4y {v s u : Nat} (c : sI m 67 (12 * v + s) = 4) (d : sI m 68 (12 * v + s) ≤ lv8 u) : YS m v s u = Int32.ofNat u := by
  unfold YS
  rw [if_neg (by rw [c]; decide), if_pos c, if_pos d]
theorem YS_4n {v s u : Nat} (c : sI m 67 (12 * v + s) = 4) (d : ¬ sI m 68 (12 * v + s) ≤ lv8 u) : YS m v s u = -1 := by
  unfold YS
  rw [if_neg (by rw [c]; decide), if_pos c, if_neg d]
theorem YS_e {v s : Nat} (u : Nat) (c : ¬ sI m 67 (12 * v + s) = 0) (d : ¬ sI m 67 (12 * v + s) = 4) : YS m v s u = Int32.ofNat u := by
  unfold YS
  rw [if_neg c, if_neg d]
theorem NS_4y {v s u : Nat} (c : sI m 67 (12 * v + s) = 4) (d : lv8 u < sI m 68 (12 * v + s)) : NS m v s u = Int32.ofNat u := by
  unfold NS
  rw [if_pos c, if_pos d]
theorem NS_4n {v s u : Nat} (c : sI m 67 (12 * v + s) = 4) (d : ¬ lv8 u < sI m 68 (12 * v + s)) : NS m v s u = -1 := by
  unfold NS
  rw [if_pos c, if_neg d]
theorem NS_e {v s : Nat} (u : Nat) (d : ¬ sI m 67 (12 * v + s) = 4) : NS m v s u = Int32.ofNat u := if_neg d
theorem p_sby {p v n s u : Nat} (f : FLR S m p v n) (hw : cWgt S m) (hs : s < n) (hu : u < 8) : Hp (f_Flow_setBehindYes S (some p) (Int32.ofNat s) (Int32.ofNat u)) (fun q => q = (YS m v s u, S)) := by
  unfold f_Flow_setBehindYes
  refine p_of st_rv (p_b2 (p_kind f hs) (fun a S' q => ?_))
  cases q
  by_cases c0 : sI m 67 (12 * v + s) = 0
  · rw [YS_0 u c0]
    refine p_of (st_T c0) (p_of st_rv (p_b2 (p_first f hs) (fun a S' q => ?_)))
    cases q
    exact p_ret rfl
  · refine p_of (st_F c0) (p_of st_rv (p_b2 (p_kind f hs) (fun a S' q => ?_)))
    cases q
    by_cases c4 : sI m 67 (12 * v + s) = 4
    · refine p_of (st_T c4) (p_b2 (p_los hw hu) (fun a S' q => ?_))
      cases q
      refine p_of st_rv (p_b2 (p_first f hs) (fun a S' q => ?_))
      cases q
      by_cases c : sI m 68 (12 * v + s) ≤ lv8 u
      · rw [YS_4y c4 c]
        exact p_of (st_T c) (p_ret rfl)
      · rw [YS_4n c4 c]
        exact p_of (st_F c) (p_ret rfl)
    · rw [YS_e u c0 c4]
      exact p_of (st_F c4) (p_ret rfl)
theorem p_sbn {p v n s u : Nat} (f : FLR S m p v n) (hw : cWgt S m) (hs : s < n) (hu : u < 8) : Hp (f_Flow_setBehindNo S (some p) (Int32.ofNat s) (Int32.ofNat u)) (fun q => q = (NS m v s u, S)) := by
  unfold f_Flow_setBehindNo
  refine p_of st_rv (p_b2 (p_kind f hs) (fun a S' q => ?_))
  cases q
  by_cases c4 : sI m 67 (12 * v + s) = 4
  · refine p_of (st_T c4) (p_b2 (p_los hw hu) (fun a S' q => ?_))
    cases q
    refine p_of st_rv (p_b2 (p_first f hs) (fun a S' q => ?_))
    cases q
    by_cases c : lv8 u < sI m 68 (12 * v + s)
    · rw [NS_4y c4 c]
      exact p_of (st_T c) (p_ret rfl)
    · rw [NS_4n c4 c]
      exact p_of (st_F c) (p_ret rfl)
  · rw [NS_e u c4]
    exact p_of (st_F c4) (p_ret rfl)
/-- the least level of one row's value -/
theorem p_lst_L (hw : cWgt S m) {s : Nat} {x : Int32} : ∀ (k j fu : Nat) (K : Nat → Prop) (a : Int32), j + k = 8 → LL K a → Hp (f_Flow_leastLevel_L4 fu S x a (Int32.ofNat j)) (fun z => z.2 = S ∧ LL (fun q => K q ∨ (q / 8 = s ∧ j ≤ q % 8 ∧ bt x (q % 8) = true)) z.1)
  | _, _, 0, _, _, _, _ => p_0
  | 0, j, fu + 1, K, a, hk, hl => by
    unfold f_Flow_leastLevel_L4 f_Flow_leastLevel_C4
    have e : j = 8 := by omega
    subst e
    exact p_of (st_T (by decide)) (p_ret ⟨rfl, LL_cong (fun q => ⟨Or.inl, fun z => z.elim id (fun z => by have := z.2.1; omega)⟩) hl⟩)
  | k + 1, j, fu + 1, K, a, hk, hl => by
    unfold f_Flow_leastLevel_L4 f_Flow_leastLevel_C4
    have nj : ¬ (8 : Int32) ≤ Int32.ofNat j := fun q => by
      have := (ole (a := 8) (b := j) (by decide) (by omega)).mp q
      omega
    refine p_of (st_F nj) (p_of (st_b2 (bt_is (by omega) S)) ?_)
    unfold f_Flow_leastLevel_B27
    by_cases c : bt x j = true
    · rw [if_pos c]
      refine p_of (st_F one0) (p_b2 (p_los hw (by omega)) (fun w S' q => ?_))
      cases q
      refine p_b2 (p_weaker hl (LL_1 (q := 8 * s + j) (u := j) (by omega))) (fun w S' q => ?_)
      obtain ⟨q1, q2⟩ := q
      have q1 : S' = S := q1
      rw [q1]
      refine p_of st_val ?_
      rw [o1]
      refine p_mono (p_lst_L hw (s := s) k (j + 1) fu _ _ (by omega) q2) (fun z hz => ⟨hz.1, LL_cong (fun q => ?_) hz.2⟩)
      constructor
      · rintro ((z | z) | z)
        · exact Or.inl z
        · refine Or.inr ⟨by omega, by omega, ?_⟩
          rw [z, show (8 * s + j) % 8 = j by omega]
          exact c
        · exact Or.inr ⟨z.1, by omega, z.2.2⟩
      · rintro (z | z)
        · exact Or.inl (Or.inl z)
        · by_cases e : q % 8 = j
          · exact Or.inl (Or.inr (by omega))
          · exact Or.inr ⟨z.1, by omega, z.2.2⟩
    · rw [if_neg c]
      refine p_of (st_T rfl) (p_of st_val ?_)
      rw [o1]
      refine p_mono (p_lst_L hw (s := s) k (j + 1) fu _ _ (by omega) hl) (fun z hz => ⟨hz.1, LL_cong (fun q => ?_) hz.2⟩)
      constructor
      · rintro (z | z)
        · exact Or.inl z
        · exact Or.inr ⟨z.1, by omega, z.2.2⟩
      · rintro (z | z)
        · exact Or.inl z
        · by_cases e : q % 8 = j
          · rw [e] at z
            exact absurd z.2.2 c
          · exact Or.inr ⟨z.1, by omega, z.2.2⟩
theorem LL_0 : LL (fun _ => False) (-1) := Or.inl ⟨rfl, fun _ => id⟩
theorem p_lst (hw : cWgt S m) (s : Nat) (x : Int32) : Hp (f_Flow_leastLevel S x) (fun z => z.2 = S ∧ LL (fun q => q / 8 = s ∧ bt x (q % 8) = true) z.1) :=
  p_mono (p_lst_L hw (s := s) 8 0 kr_FU _ _ rfl LL_0) (fun _ h => ⟨h.1, LL_cong (fun q => ⟨fun z => z.elim False.elim (fun z => ⟨z.1, z.2.2⟩), fun z => Or.inr ⟨z.1, Nat.zero_le _, z.2⟩⟩) h.2⟩)
end
/-! ===== the class: the row of bits grows to all that can be reached ===== -/
def bs (S : AS) (y q : Nat) : Bool := decide (q < 96) && bt (sI S y (q / 8)) (q % 8)
theorem bs_iff {S : AS} {y q : Nat} : bs S y q = true ↔ q < 96 ∧ bt (sI S y (q / 8)) (q % 8) = true := by
  unfold bs
  rw [Bool.and_eq_true, decide_eq_true_iff]
def GW (P P' : Nat → Bool) (g : Int32) : Prop := (∀ q, P q = true → P' q = true) ∧ ((g = 0 ∧ ∀ q, P' q = true → P q = true) ∨ (g = 1 ∧ ∃ q, q < 96 ∧ ¬ P q = true ∧ P' q = true))
theorem GW_r {P : Nat → Bool} : GW P P 0 := ⟨fun _ => id, Or.inl ⟨rfl, fun _ => id⟩⟩
theorem GW_t {P P1 P2 : Nat → Bool} {g h : Int32} (a : GW P P1 g) (b : GW P1 P2 h) : GW P P2 (g ||| h) := by
  refine ⟨fun q z => b.1 q (a.1 q z), ?_⟩
  rcases a.2 with ⟨rfl, a2⟩ | ⟨rfl, q, q1, q2, q3⟩
  · rcases b.2 with ⟨rfl, b2⟩ | ⟨rfl, r, r1, r2, r3⟩
    · exact Or.inl ⟨by decide, fun q z => a2 q (b2 q z)⟩
    · exact Or.inr ⟨by decide, r, r1, fun z => r2 (a.1 r z), r3⟩
  · refine Or.inr ⟨?_, q, q1, q2, b.1 q q3⟩
    rcases b.2 with ⟨rfl, -⟩ | ⟨rfl, -⟩ <;> decide
def WK (m : AS) (p v n y : Nat) (S : AS) : Prop := FLR S m p v n ∧ cWgt S m ∧ sL S y = 12 ∧ y ≠ p ∧ y ≠ 1 ∧ ∀ j, j < 5 → fa S p j ≠ y
theorem WK_w {S m : AS} {p v n y i : Nat} {x : Int32} (h : WK m p v n y S) : WK m p v n y (wI S y i x) := by
  obtain ⟨⟨f1, f2, f3, f4⟩, ⟨w1, w2, w3⟩, l, y1, y2, y3⟩ := h
  exact ⟨⟨f1, f2, (ti_sI_ne (by omega)).trans f3, fun j k hj hk => (ti_sI_ne (fun z => y3 j hj z.1)).trans (f4 j k hj hk)⟩, ⟨(ti_sI_ne (by omega)).trans w1, (ti_sI_ne (by omega)).trans w2, (ti_sI_ne (by omega)).trans w3⟩, l, y1, y2, y3⟩
def TG (t w : Int32) (q : Nat) : Prop := t = Int32.ofNat (q / 8) ∧ w = Int32.ofNat (q % 8)
section
variable {m : AS} {p v n y : Nat}
theorem p_rch {S : AS} {t w : Int32} (k : WK m p v n y S) (ht : t < 0 ∨ ∃ t', t' < 12 ∧ t = Int32.ofNat t') (hw : w = -1 ∨ ∃ w', w' < 8 ∧ w = Int32.ofNat w') : Hp (f_Flow_reach S t w (some y)) (fun z => WK m p v n y z.2 ∧ GW (bs S y) (bs z.2 y) z.1 ∧ (∀ q, bs z.2 y q = true → bs S y q = true ∨ TG t w q) ∧ ∀ q, q < 96 → TG t w q → bs z.2 y q = true) := by
  unfold f_Flow_reach
  by_cases c : t < 0
  · refine p_of (st_T c) (p_ret ⟨k, GW_r, fun q h => Or.inl h, fun q h z => ?_⟩)
    have := lt0.mp c
    rw [z.1, oi (by omega)] at this
    omega
  · obtain ⟨t', t12, et⟩ := ht.elim (fun q => absurd q c) id
    subst et
    refine p_of (st_F c) (p_of st_aN ?_)
    rw [k.2.2.1]
    refine p_of (st_F (fun q => ?_)) ?_
    · have := (ole (by decide) (by omega)).mp q
      omega
    by_cases d : w = -1
    · refine p_of (st_T d) (p_ret ⟨k, GW_r, fun q h => Or.inl h, fun q h z => ?_⟩)
      have := congrArg Int32.toInt (d.symm.trans z.2)
      rw [oi (by omega), show (-1 : Int32).toInt = -1 by decide] at this
      omega
    · obtain ⟨w', w8, ew⟩ := hw.elim (fun q => absurd q d) id
      subst ew
      have tg : ∀ q, q < 96 → TG (Int32.ofNat t') (Int32.ofNat w') q → q = 8 * t' + w' := fun q h z => by
        have := oinj (by omega) (by omega) z.1
        have := oinj (by omega) (by omega) z.2
        omega
      refine p_of (st_F d) (p_of (st_aIe (v := sI S y t') (oc (by omega)) rfl) (p_of (st_b2 (bt_is (by omega) S)) ?_))
      by_cases e : bt (sI S y t') w' = true
      · rw [if_pos e]
        refine p_of (st_F one0) (p_ret ⟨k, GW_r, fun q h => Or.inl h, fun q h z => ?_⟩)
        have := tg q h z
        rw [bs_iff, show q / 8 = t' by omega, show q % 8 = w' by omega]
        exact ⟨h, e⟩
      · rw [if_neg e]
        refine p_of (st_T rfl) (p_of (st_aIe (v := sI S y t') (oc (by omega)) rfl) (p_of (st_bIe (oc (by omega))) ?_))
        have key : ∀ q, bs (wI S y t' (sI S y t' ||| ((1 : Int32) <<< (Int32.ofNat w' &&& 31)))) y q = true ↔ bs S y q = true ∨ (q < 96 ∧ q = 8 * t' + w') := fun q => by
          rw [bs_iff, bs_iff]
          by_cases z : q / 8 = t'
          · rw [z, ti_sI_eq, bt_sh _ (by omega)]
            constructor
            · rintro ⟨a, b | b⟩
              · exact Or.inl ⟨a, b⟩
              · exact Or.inr ⟨a, by omega⟩
            · rintro (⟨a, b⟩ | ⟨a, b⟩)
              · exact ⟨a, Or.inl b⟩
              · exact ⟨a, Or.inr (by omega)⟩
          · rw [ti_sI_ne (by omega)]
            constructor
            · exact fun a => Or.inl a
            · rintro (a | ⟨a, b⟩)
              · exact a
              · omega
        refine p_ret ⟨WK_w k, ⟨fun q h => (key q).mpr (Or.inl h), Or.inr ⟨rfl, 8 * t' + w', by omega, fun h => e ?_, (key _).mpr (Or.inr ⟨by omega, rfl⟩)⟩⟩, fun q h => ?_, fun q h z => (key q).mpr (Or.inr ⟨h, tg q h z⟩)⟩
        · have := (bs_iff.mp h).2
          rw [show (8 * t' + w') / 8 = t' by omega, show (8 * t' + w') % 8 = w' by omega] at this
          exact this
        · rcases (key q).mp h with h | ⟨h, z⟩
          · exact Or.inl h
          · refine Or.inr ⟨?_, ?_⟩
            · rw [z, show (8 * t' + w') / 8 = t' by omega]
            · rw [z, show (8 * t' + w') % 8 = w' by omega]
theorem p_nxY {S : AS} {k : Nat} (f : FLR S m p v n) (hk : k < n) : Hp (f_Flow_nextOf S (some p) (Int32.ofNat k) 1) (fun q => q = (sI m 70 (12 * v + k), S)) := by
  have := p_next f hk 1
  rw [if_neg one0] at this
  exact this
theorem p_nxN {S : AS} {k : Nat} (f : FLR S m p v n) (hk : k < n) : Hp (f_Flow_nextOf S (some p) (Int32.ofNat k) 0) (fun q => q = (sI m 71 (12 * v + k), S)) := by
  have := p_next f hk 0
  rw [if_pos rfl] at this
  exact this
/-- one step's sets spread: what is there at the start is closed at the end -/
theorem p_spr_L (g : GD m v n) {s : Nat} (hs : s < n) (h5 : ¬ (5 : Int32) ≤ sI m 67 (12 * v + s)) : ∀ (k j fu : Nat) (S : AS) (x3 : Int32), j + k = 8 → WK m p v n y S → (∀ q, bs S y q = true → WkR m v n q) → Hp (f_Flow_spread_L22 fu S (some p) (Int32.ofNat s) (some y) x3 (Int32.ofNat j)) (fun z => ∃ g1, z.1 = x3 ||| g1 ∧ WK m p v n y z.2 ∧ GW (bs S y) (bs z.2 y) g1 ∧ (∀ q, bs z.2 y q = true → WkR m v n q) ∧ ∀ u, j ≤ u → u < 8 → bs S y (8 * s + u) = true → ∀ r, EG m v n (8 * s + u) r → bs z.2 y r = true)
  | _, _, 0, _, _, _, _, _ => p_0
  | 0, j, fu + 1, S, x3, hk, hW, hR => by
    unfold f_Flow_spread_L22 f_Flow_spread_C22
    have e : j = 8 := by omega
    subst e
    exact p_of (st_T (by decide)) (p_of st_z (p_ret ⟨0, (Int32.or_zero).symm, hW, GW_r, hR, fun u h1 h2 => by omega⟩))
  | k + 1, j, fu + 1, S, x3, hk, hW, hR => by
    unfold f_Flow_spread_L22 f_Flow_spread_C22
    have n12 := g.2.2.1
    have nj : ¬ (8 : Int32) ≤ Int32.ofNat j := fun q => by
      have := (ole (a := 8) (b := j) (by decide) (by omega)).mp q
      omega
    have d1 : (8 * s + j) / 8 = s := by omega
    have d2 : (8 * s + j) % 8 = j := by omega
    refine p_of (st_F nj) (p_of (st_aIe (v := sI S y s) (oc (by omega)) rfl) (p_of (st_b2 (bt_is (by omega) S)) ?_))
    by_cases c : bt (sI S y s) j = true
    · rw [if_pos c]
      have at0 : bs S y (8 * s + j) = true := bs_iff.mpr ⟨by omega, by rw [d1, d2]; exact c⟩
      obtain ⟨nx, -⟩ := g.2.2.2 s hs h5
      have tn : ∀ i, i = 70 ∨ i = 71 → sI m i (12 * v + s) < 0 ∨ ∃ t', t' < 12 ∧ sI m i (12 * v + s) = Int32.ofNat t' := fun i hi => (nx i hi).imp id (fun ⟨t, a, b⟩ => ⟨t, by omega, b⟩)
      have eg : ∀ i r, i = 70 ∨ i = 71 → r < 96 → sI m i (12 * v + s) = Int32.ofNat (r / 8) → r < 8 * n := fun i r hi hr z => by
        rcases nx i hi with a | ⟨t, a, b⟩
        · have := lt0.mp a
          rw [z, oi (by omega)] at this
          omega
        · have := oinj (by omega) (by omega) (b.symm.trans z)
          omega
      refine p_of (st_F one0) (p_of st_rv (p_b2 (p_nxY hW.1 hs) (fun w S' q => ?_)))
      cases q
      refine p_of st_rv (p_b2 (p_sby hW.1 hW.2.1 hs (by omega)) (fun w S' q => ?_))
      cases q
      refine p_b2 (p_rch hW (tn 70 (Or.inl rfl)) (YS_c g hs h5 (by omega))) (fun g1 S1 q => ?_)
      obtain ⟨hW1, hG1, hs1, hc1⟩ := q
      have hR1 : ∀ q, bs S1 y q = true → WkR m v n q := fun q z => by
        rcases hs1 q z with z1 | z1
        · exact hR q z1
        · exact WkR_s (hR _ at0) ⟨by omega, eg 70 q (Or.inl rfl) (bs_iff.mp z).1 z1.1, by rw [d1]; exact h5, Or.inl (by rw [d1, d2]; exact z1)⟩
      refine p_of st_val (p_of st_rv (p_b2 (p_nxN hW1.1 hs) (fun w S' q => ?_)))
      cases q
      refine p_of st_rv (p_b2 (p_sbn hW1.1 hW1.2.1 hs (by omega)) (fun w S' q => ?_))
      cases q
      refine p_b2 (p_rch hW1 (tn 71 (Or.inr rfl)) (NS_c (by omega))) (fun g2 S2 q => ?_)
      obtain ⟨hW2, hG2, hs2, hc2⟩ := q
      have hR2 : ∀ q, bs S2 y q = true → WkR m v n q := fun q z => by
        rcases hs2 q z with z1 | z1
        · exact hR1 q z1
        · exact WkR_s (hR _ at0) ⟨by omega, eg 71 q (Or.inr rfl) (bs_iff.mp z).1 z1.1, by rw [d1]; exact h5, Or.inr (by rw [d1, d2]; exact z1)⟩
      unfold f_Flow_spread_B80
      refine p_of st_val (p_of st_val ?_)
      rw [o1]
      refine p_mono (p_spr_L g hs h5 k (j + 1) fu S2 _ (by omega) hW2 hR2) (fun z hz => ?_)
      obtain ⟨g3, e3, hW3, hG3, hR3, hc3⟩ := hz
      refine ⟨(g1 ||| g2) ||| g3, by rw [e3, Int32.or_assoc, Int32.or_assoc, Int32.or_assoc], hW3, GW_t (GW_t hG1 hG2) hG3, hR3, fun u u1 u2 hu r er => ?_⟩
      by_cases eu : u = j
      · subst eu
        have r96 : r < 96 := by have := er.2.1; omega
        obtain ⟨-, -, -, q⟩ := er
        rw [d1, d2] at q
        rcases q with q | q
        · exact hG3.1 r (hG2.1 r (hc1 r r96 q))
        · exact hG3.1 r (hc2 r r96 q)
      · exact hc3 u (by omega) u2 (hG2.1 _ (hG1.1 _ hu)) r er
    · rw [if_neg c]
      unfold f_Flow_spread_B80
      refine p_of (st_T rfl) (p_of st_val ?_)
      rw [o1]
      refine p_mono (p_spr_L g hs h5 k (j + 1) fu S _ (by omega) hW hR) (fun z hz => ?_)
      obtain ⟨g3, e3, hW3, hG3, hR3, hc3⟩ := hz
      refine ⟨g3, e3, hW3, hG3, hR3, fun u u1 u2 hu r er => ?_⟩
      by_cases eu : u = j
      · subst eu
        have := (bs_iff.mp hu).2
        rw [d1, d2] at this
        exact absurd this c
      · exact hc3 u (by omega) u2 hu r er
theorem p_spr (g : GD m v n) {s : Nat} (hs : s < n) {S : AS} (hW : WK m p v n y S) (hR : ∀ q, bs S y q = true → WkR m v n q) : Hp (f_Flow_spread S (some p) (Int32.ofNat s) (some y)) (fun z => WK m p v n y z.2 ∧ GW (bs S y) (bs z.2 y) z.1 ∧ (∀ q, bs z.2 y q = true → WkR m v n q) ∧ ∀ u, u < 8 → bs S y (8 * s + u) = true → ∀ r, EG m v n (8 * s + u) r → bs z.2 y r = true) := by
  have n12 := g.2.2.1
  unfold f_Flow_spread
  refine p_of st_rv (p_b2 (p_kind hW.1 hs) (fun w S' q => ?_))
  cases q
  by_cases h5 : (5 : Int32) ≤ sI m 67 (12 * v + s)
  · refine p_of (st_T h5) (p_ret ⟨hW, GW_r, hR, fun u hu _ r er => ?_⟩)
    have := er.2.2.1
    rw [show (8 * s + u) / 8 = s by omega] at this
    exact absurd h5 this
  · refine p_of (st_F h5) (p_of st_aN ?_)
    rw [hW.2.2.1]
    refine p_of (st_T ?_) ?_
    · exact Int32.not_le.mp (fun q => by have := (ole (by decide) (by omega)).mp q; omega)
    refine p_mono (p_spr_L g hs h5 8 0 kr_FU S 0 rfl hW hR) (fun z hz => ?_)
    obtain ⟨g3, e3, hW3, hG3, hR3, hc3⟩ := hz
    rw [Int32.zero_or] at e3
    rw [e3]
    exact ⟨hW3, hG3, hR3, fun u hu => hc3 u (Nat.zero_le _) hu⟩
/-- a round -/
theorem p_rnd_L {Q : Int32 × AS → Prop} {k13 : AS → Option Nat → Option Nat → Int32 → Int32 → Option (Int32 × AS)} (g : GD m v n) {x3 : Int32} : ∀ (k j fu : Nat) (S : AS) (x2 : Int32), j + k = n → WK m p v n y S → (∀ q, bs S y q = true → WkR m v n q) →
    (∀ S' g1, WK m p v n y S' → GW (bs S y) (bs S' y) g1 → (∀ q, bs S' y q = true → WkR m v n q) → (∀ q, 8 * j ≤ q → bs S y q = true → ∀ r, EG m v n q r → bs S' y r = true) → Hp (k13 S' (some p) (some y) (x2 ||| g1) (x3 + 1)) Q) → Hp (f_Flow_weakestLevel_L28 k13 fu S (some p) (some y) x2 x3 (Int32.ofNat j)) Q
  | _, _, 0, _, _, _, _, _, _ => p_0
  | 0, j, fu + 1, S, x2, hk, hW, hR, H => by
    unfold f_Flow_weakestLevel_L28 f_Flow_weakestLevel_C28 f_Flow_weakestLevel_B60
    have n12 := g.2.2.1
    refine p_of (st_gIe hW.1.2.2.1) (p_of (st_T ((ole (by omega) (by omega)).mpr (by omega))) (p_of st_val ?_))
    have := H S 0 hW GW_r hR (fun q h1 _ r er => by have := er.1; omega)
    rw [Int32.or_zero] at this
    exact this
  | k + 1, j, fu + 1, S, x2, hk, hW, hR, H => by
    unfold f_Flow_weakestLevel_L28 f_Flow_weakestLevel_C28
    have n12 := g.2.2.1
    refine p_of (st_gIe hW.1.2.2.1) (p_of (st_F (fun q => by have := (ole (by omega) (by omega)).mp q; omega)) (p_of (st_F (fun q => by have := (ole (a := 12) (by decide) (by omega)).mp q; omega)) (p_of st_rv (p_b2 (p_spr g (by omega) hW hR) (fun g1 S1 q => ?_)))))
    obtain ⟨hW1, hG1, hR1, hc1⟩ := q
    refine p_of st_val (p_of st_val ?_)
    rw [o1]
    refine p_rnd_L g k (j + 1) fu S1 _ (by omega) hW1 hR1 (fun S' g2 hW2 hG2 hR2 hc2 => ?_)
    have := H S' (g1 ||| g2) hW2 (GW_t hG1 hG2) hR2 (fun q h1 h2 r er => ?_)
    · rw [← Int32.or_assoc] at this
      exact this
    · by_cases e : q < 8 * j + 8
      · have eq : q = 8 * j + q % 8 := by omega
        rw [eq] at h2 er
        exact hG2.1 r (hc1 (q % 8) (by omega) h2 r er)
      · exact hc2 q (by omega) (hG1.1 q h2) r er
/-- all rounds -/
theorem p_out_L {Q : Int32 × AS → Prop} (g : GD m v n) (H : ∀ S, WK m p v n y S → (∀ q, bs S y q = true ↔ WkR m v n q) → Hp (f_Flow_weakestLevel_B66 S (some p) (some y)) Q) : ∀ (k r fu : Nat) (S : AS) (x2 : Int32), r + k = 96 → WK m p v n y S → (∀ q, bs S y q = true → WkR m v n q) → bs S y 0 = true →
    ((x2 = 0 ∧ ∀ q, bs S y q = true → ∀ r, EG m v n q r → bs S y r = true) ∨ (¬ x2 = 0 ∧ r + 1 ≤ cb (bs S y) 96)) → Hp (f_Flow_weakestLevel_L13 fu S (some p) (some y) x2 (Int32.ofNat r)) Q
  | _, _, 0, _, _, _, _, _, _, _ => p_0
  | k, r, fu + 1, S, x2, hk, hW, hR, h0, hi => by
    unfold f_Flow_weakestLevel_L13 f_Flow_weakestLevel_C13
    rcases hi with ⟨i1, i2⟩ | ⟨i1, i2⟩
    · have go := H S hW (fun q => ⟨hR q, fun z => z (fun q => bs S y q = true) h0 (fun a b ha e => i2 a ha b e)⟩)
      refine p_if (fun _ => go) (fun _ => p_of (st_T i1) go)
    · match k, hk with
      | 0, hk =>
        have := cb_le (bs S y) 96
        omega
      | k + 1, hk =>
        refine p_of (st_F (fun q => by have := (ole (a := 96) (by decide) (by omega)).mp q; omega)) (p_of (st_F i1) (p_rnd_L g n 0 kr_FU S 0 (by omega) hW hR (fun S' g1 hW1 hG1 hR1 hc1 => ?_)))
        rw [Int32.zero_or, o1]
        refine p_out_L g H k (r + 1) fu S' g1 (by omega) hW1 hR1 (hG1.1 0 h0) ?_
        rcases hG1.2 with ⟨e, z⟩ | ⟨e, q, q1, q2, q3⟩
        · exact Or.inl ⟨e, fun q hq r er => hc1 q (by omega) (z q hq) r er⟩
        · refine Or.inr ⟨by rw [e]; decide, ?_⟩
          have := cb_lt (f := bs S y) (g := bs S' y) hG1.1 q2 q3 q1
          omega
/-- the least over the steps -/
theorem p_lvl_L (g : GD m v n) {S : AS} (hW : WK m p v n y S) : ∀ (k j fu : Nat) (K : Nat → Prop) (a : Int32), j + k = n → LL K a → Hp (f_Flow_weakestLevel_L71 fu S (some p) (some y) a (Int32.ofNat j)) (fun z => LL (fun q => K q ∨ (8 * j ≤ q ∧ q < 8 * n ∧ sI m 67 (12 * v + q / 8) = 5 ∧ bs S y q = true)) z.1)
  | _, _, 0, _, _, _, _ => p_0
  | 0, j, fu + 1, K, a, hk, hl => by
    unfold f_Flow_weakestLevel_L71 f_Flow_weakestLevel_C71
    have n12 := g.2.2.1
    exact p_of (st_gIe hW.1.2.2.1) (p_of (st_T ((ole (by omega) (by omega)).mpr (by omega))) (p_ret (LL_cong (fun q => ⟨Or.inl, fun z => z.elim id (fun z => by have := z.1; have := z.2.1; omega)⟩) hl)))
  | k + 1, j, fu + 1, K, a, hk, hl => by
    unfold f_Flow_weakestLevel_L71 f_Flow_weakestLevel_C71
    have n12 := g.2.2.1
    refine p_of (st_gIe hW.1.2.2.1) (p_of (st_F (fun q => by have := (ole (by omega) (by omega)).mp q; omega)) (p_of (st_F (fun q => by have := (ole (a := 12) (by decide) (by omega)).mp q; omega)) (p_of st_rv (p_b2 (p_kind hW.1 (by omega)) (fun w S' q => ?_)))))
    cases q
    unfold f_Flow_weakestLevel_B109
    by_cases c : sI m 67 (12 * v + j) = 5
    · refine p_of (st_T c) (p_of (st_aIe (v := sI S y j) (oc (by omega)) rfl) (p_b2 (p_lst hW.2.1 j _) (fun w S' q => ?_)))
      obtain ⟨q1, q2⟩ := q
      have q1 : S' = S := q1
      subst q1
      refine p_b2 (p_weaker hl q2) (fun w S' q => ?_)
      obtain ⟨q1, q3⟩ := q
      have q1 : S' = _ := q1
      subst q1
      refine p_of st_val ?_
      rw [o1]
      refine p_mono (p_lvl_L g hW k (j + 1) fu _ _ (by omega) q3) (fun z hz => LL_cong (fun q => ?_) hz)
      constructor
      · rintro ((z | z) | z)
        · exact Or.inl z
        · refine Or.inr ⟨by omega, by omega, ?_, bs_iff.mpr ⟨by omega, ?_⟩⟩
          · rw [z.1]
            exact c
          · rw [z.1]
            exact z.2
        · exact Or.inr ⟨by omega, z.2⟩
      · rintro (z | z)
        · exact Or.inl (Or.inl z)
        · by_cases e : q / 8 = j
          · refine Or.inl (Or.inr ⟨e, ?_⟩)
            have := (bs_iff.mp z.2.2.2).2
            rw [e] at this
            exact this
          · exact Or.inr ⟨by omega, z.2⟩
    · refine p_of (st_F c) (p_of st_val ?_)
      rw [o1]
      refine p_mono (p_lvl_L g hW k (j + 1) fu _ _ (by omega) hl) (fun z hz => LL_cong (fun q => ?_) hz)
      constructor
      · rintro (z | z)
        · exact Or.inl z
        · exact Or.inr ⟨by omega, z.2⟩
      · rintro (z | z)
        · exact Or.inl z
        · by_cases e : q / 8 = j
          · have := z.2.2.1
            rw [e] at this
            exact absurd this c
          · exact Or.inr ⟨by omega, z.2⟩
theorem bt1 : ∀ u, u < 8 → (bt 1 u = true ↔ u = 0) := by decide +kernel
theorem p_weak {S : AS} (g : GD m v n) (f : FLR S m p v n) (hw : cWgt S m) (hp : p < sN S) (h1 : 1 < sN S) (hf : ∀ j, j < 5 → fa S p j < sN S) : Hp (f_Flow_weakestLevel S (some p)) (fun z => LL (fun q => WkR m v n q ∧ sI m 67 (12 * v + q / 8) = 5) z.1) := by
  unfold f_Flow_weakestLevel
  refine p_of st_nA ?_
  rw [show (12 : Int32).toNatClampNeg = 12 by decide]
  obtain ⟨S1, e1⟩ : ∃ S1, S1 = wN S 40 12 12 := ⟨_, rfl⟩
  rw [← e1]
  have i1 : ∀ k, k ≠ sN S → sI S1 k = sI S k := fun k hk => by
    rw [e1]
    show (if k = sN S then _ else sI S k) = _
    rw [if_neg hk]
  have i0 : ∀ j, sI S1 (sN S) j = 0 := fun j => by
    rw [e1]
    show (if sN S = sN S then (fun _ => (0 : Int32)) else sI S (sN S)) j = 0
    rw [if_pos rfl]
  have r1 : ∀ k, k ≠ sN S → sR S1 k = sR S k := fun k hk => by
    rw [e1]
    show (if k = sN S then _ else sR S k) = _
    rw [if_neg hk]
  have l1 : sL S1 (sN S) = 12 := by
    rw [e1]
    show (if sN S = sN S then 12 else sL S (sN S)) = 12
    rw [if_pos rfl]
  have fe : ∀ j, fa S1 p j = fa S p j := fun j => by
    unfold fa
    rw [r1 p (by omega)]
  have hW : WK m p v n (sN S) S1 := by
    refine ⟨⟨f.1, f.2.1, by rw [i1 p (by omega)]; exact f.2.2.1, fun j k hj hk => ?_⟩, ⟨?_, ?_, ?_⟩, l1, by omega, by omega, fun j hj => ?_⟩
    · have := hf j hj
      rw [fe, i1 _ (by omega)]
      exact f.2.2.2 j k hj hk
    · rw [i1 1 (by omega)]
      exact hw.1
    · rw [i1 1 (by omega)]
      exact hw.2.1
    · rw [i1 1 (by omega)]
      exact hw.2.2
    · have := hf j hj
      rw [fe]
      omega
  refine p_of (st_bIe (n := 0) rfl) ?_
  have k0 : ∀ q, bs (wI S1 (sN S) 0 1) (sN S) q = true ↔ q = 0 := fun q => by
    rw [bs_iff]
    by_cases z : q / 8 = 0
    · rw [z, ti_sI_eq, bt1 _ (Nat.mod_lt _ (by decide))]
      omega
    · rw [ti_sI_ne (by omega), i0, bt_0]
      constructor
      · exact fun q => absurd q.2 (by decide)
      · intro e
        omega
  have h0 := (k0 0).mpr rfl
  refine p_out_L g (fun S2 hW2 hR => ?_) 96 0 kr_FU _ 1 rfl (WK_w hW) (fun q z => by rw [(k0 q).mp z]; exact WkR_0) h0 (Or.inr ⟨one0, ?_⟩)
  · unfold f_Flow_weakestLevel_B66
    refine p_mono (p_lvl_L g hW2 n 0 kr_FU _ _ (by omega) LL_0) (fun z hz => LL_cong (fun q => ?_) hz)
    constructor
    · rintro (z | z)
      · exact z.elim
      · exact ⟨(hR q).mp z.2.2.2, z.2.2.1⟩
    · rintro ⟨z1, z2⟩
      exact Or.inr ⟨by omega, WkR_lt g.2.1 z1, z2, (hR q).mpr z1⟩
  · have := cb_lt (f := fun _ => false) (g := bs (wI S1 (sN S) 0 1) (sN S)) (fun _ z => by cases z) (i := 0) (by decide) h0 (n := 96) (by decide)
    omega
end
/-! ===== the reference: the same, 96 times over ===== -/
theorem ixd : ∀ v, v < 8 → ∀ q, q < 96 → (((12 : Int32) * Int32.ofNat v) + (Int32.ofNat q / (8 : Int32))).toNatClampNeg = 12 * v + q / 8 := by decide +kernel
theorem ixm8 : ∀ q, q < 96 → Int32.ofNat q - Int32.ofNat q / (8 : Int32) * (8 : Int32) = Int32.ofNat (q % 8) := by decide +kernel
theorem ixt8 : ∀ t, t < 12 → ∀ w, w < 8 → (((8 : Int32) * Int32.ofNat t) + Int32.ofNat w).toNatClampNeg = 8 * t + w := by decide +kernel
def pqm (M : AS) (q : Nat) : Bool := decide (q < 96) && decide (¬ sI M 72 q = 0)
theorem pqm_iff {M : AS} {q : Nat} : pqm M q = true ↔ q < 96 ∧ ¬ sI M 72 q = 0 := by
  unfold pqm
  rw [Bool.and_eq_true, decide_eq_true_iff, decide_eq_true_iff]
def WM (m M : AS) : Prop := sR M = sR m ∧ ∀ k j, k ≠ 72 → sI M k j = sI m k j
theorem WM_w {m M : AS} {i : Nat} {x : Int32} (h : WM m M) : WM m (wI M 72 i x) := ⟨h.1, fun k j hk => (ti_sI_ne (fun z => hk z.1)).trans (h.2 k j hk)⟩
def MT (m M : AS) (t w : Int32) (M' : AS) : Prop := WM m M' ∧ (∀ q, pqm M q = true → pqm M' q = true) ∧ (∀ q, pqm M' q = true → pqm M q = true ∨ TG t w q) ∧ ∀ q, q < 96 → TG t w q → pqm M' q = true
theorem MT_n {m M : AS} {t : Int32} (h : WM m M) : MT m M t (-1) M := ⟨h, fun _ => id, fun _ z => Or.inl z, fun q h z => by
  have := congrArg Int32.toInt z.2
  rw [oi (by omega), show (-1 : Int32).toInt = -1 by decide] at this
  omega⟩
section
variable {m : AS} {v n : Nat}
theorem p_meet {M : AS} {t w : Int32} (hmf : MF m) (k : WM m M) (ht : t < 0 ∨ ∃ t', t' < 12 ∧ t = Int32.ofNat t') (hw : ∃ w', w' < 8 ∧ w = Int32.ofNat w') : Hp (f_M_meet M (some 57) t w) (MT m M t w) := by
  unfold f_M_meet
  by_cases c : t < 0
  · refine p_of (st_T c) (p_ret ⟨k, fun _ => id, fun _ z => Or.inl z, fun q h z => ?_⟩)
    have := lt0.mp c
    rw [z.1, oi (by omega)] at this
    omega
  · obtain ⟨t', t12, et⟩ := ht.elim (fun q => absurd q c) id
    subst et
    obtain ⟨w', w8, ew⟩ := hw
    subst ew
    refine p_of (st_F c) (p_of (st_gRe (v := some 72) (MF_e hmf k.1 16 72 rfl)) (p_of (st_bZe (ixt8 t' t12 w' w8)) ?_))
    have key : ∀ q, pqm (wI M 72 (8 * t' + w') 1) q = true ↔ pqm M q = true ∨ (q < 96 ∧ q = 8 * t' + w') := fun q => by
      rw [pqm_iff, pqm_iff]
      by_cases z : q = 8 * t' + w'
      · rw [z, ti_sI_eq]
        constructor
        · exact fun a => Or.inr ⟨a.1, rfl⟩
        · exact fun a => ⟨by omega, by decide⟩
      · rw [ti_sI_ne (by omega)]
        constructor
        · exact fun a => Or.inl a
        · rintro (a | ⟨a, b⟩)
          · exact a
          · exact absurd b z
    refine p_ret ⟨WM_w k, fun q h => (key q).mpr (Or.inl h), fun q h => ?_, fun q h z => (key q).mpr (Or.inr ⟨h, ?_⟩)⟩
    · rcases (key q).mp h with h | ⟨h, z⟩
      · exact Or.inl h
      · exact Or.inr ⟨by rw [z, show (8 * t' + w') / 8 = t' by omega], by rw [z, show (8 * t' + w') % 8 = w' by omega]⟩
    · have := oinj (by omega) (by omega) z.1
      have := oinj (by omega) (by omega) z.2
      omega
theorem p_199 {Q : Int32 × AS → Prop} {k50 : AS → Option Nat → Int32 → Int32 → Option (Int32 × AS)} {k58 : AS → Option Nat → Int32 → Int32 → Int32 → Option (Int32 × AS)} {M : AS} {x1 x2 x3 x4 : Int32} {s u : Nat} (hmf : MF m) (g : GD m v n) (hs : s < n) (h5 : ¬ (5 : Int32) ≤ sI m 67 (12 * v + s)) (hu : u < 8) (hM : WM m M) (hx : x4.toNatClampNeg = 12 * v + s)
    (H : ∀ M', MT m M (sI m 71 (12 * v + s)) (Int32.ofNat u) M' → Hp (k58 M' (some 57) x1 x2 (x3 + 1)) Q) : Hp (f_M_weakest_B199 k50 k58 M (some 57) x1 x2 x3 x4 (Int32.ofNat u)) Q := by
  unfold f_M_weakest_B199 f_M_weakest_B212
  refine p_of (st_gRe (v := some 71) (MF_e hmf hM.1 15 71 rfl)) (p_of (st_aIe hx (hM.2 71 _ (by decide))) (p_of st_rv (p_bd (p_meet hmf hM ?_ ⟨u, hu, rfl⟩) (fun M' q => p_of st_val (H M' q)))))
  exact ((g.2.2.2 s hs h5).1 71 (Or.inr rfl)).imp id (fun ⟨t, a, b⟩ => ⟨t, by have := g.2.2.1; omega, b⟩)
theorem p_151 {Q : Int32 × AS → Prop} {k50 : AS → Option Nat → Int32 → Int32 → Option (Int32 × AS)} {k58 : AS → Option Nat → Int32 → Int32 → Int32 → Option (Int32 × AS)} {M : AS} {x1 x2 x3 x4 x6 x7 : Int32} {s u : Nat} (hmf : MF m) (g : GD m v n) (hs : s < n) (h5 : ¬ (5 : Int32) ≤ sI m 67 (12 * v + s)) (hu : u < 8) (hM : WM m M) (hx : x4.toNatClampNeg = 12 * v + s) (hY : sI m 67 (12 * v + s) = 4 → sI m 68 (12 * v + s) ≤ lv8 u)
    (H : ∀ M', MT m M (sI m 70 (12 * v + s)) (YS m v s u) M' → Hp (f_M_weakest_B189 k50 k58 M' (some 57) x1 x2 x3 x4 (Int32.ofNat u) x6 x7) Q) : Hp (f_M_weakest_B151 k50 k58 M (some 57) x1 x2 x3 x4 (Int32.ofNat u) x6 x7) Q := by
  unfold f_M_weakest_B151 f_M_weakest_B186
  have tn : sI m 70 (12 * v + s) < 0 ∨ ∃ t', t' < 12 ∧ sI m 70 (12 * v + s) = Int32.ofNat t' := ((g.2.2.2 s hs h5).1 70 (Or.inl rfl)).imp id (fun ⟨t, a, b⟩ => ⟨t, by have := g.2.2.1; omega, b⟩)
  refine p_of (st_gRe (v := some 70) (MF_e hmf hM.1 14 70 rfl)) (p_of (st_aIe hx (hM.2 70 _ (by decide))) (p_of (st_gRe (v := some 67) (MF_e hmf hM.1 11 67 rfl)) (p_of (st_aIe hx (hM.2 67 _ (by decide))) ?_)))
  by_cases c0 : sI m 67 (12 * v + s) = 0
  · refine p_of (st_T c0) (p_of (st_gRe (v := some 68) (MF_e hmf hM.1 12 68 rfl)) (p_of (st_aIe hx (hM.2 68 _ (by decide))) ?_))
    have ey : (Int32.ofNat u ||| ((1 : Int32) <<< (sI m 68 (12 * v + s) &&& 31))) = YS m v s u := by
      unfold YS
      rw [if_pos c0]
    rw [ey]
    refine p_of st_rv (p_bd (p_meet hmf hM tn ?_) H)
    rcases YS_c g hs h5 hu with z | z
    · obtain ⟨f, f3, ef⟩ := (g.2.2.2 s hs h5).2 c0
      obtain ⟨w, w8, ew⟩ := or8 u hu f f3
      rw [← ef] at ew
      exact ⟨w, w8, by rw [← ey]; exact ew⟩
    · exact z
  · have ey : YS m v s u = Int32.ofNat u := by
      unfold YS
      rw [if_neg c0]
      by_cases c4 : sI m 67 (12 * v + s) = 4
      · rw [if_pos c4, if_pos (hY c4)]
      · rw [if_neg c4]
    rw [ey] at H
    exact p_of (st_F c0) (p_of st_rv (p_bd (p_meet hmf hM tn ⟨u, hu, rfl⟩) H))
/-- one place -/
theorem p_117 {Q : Int32 × AS → Prop} {k50 : AS → Option Nat → Int32 → Int32 → Option (Int32 × AS)} {k58 : AS → Option Nat → Int32 → Int32 → Int32 → Option (Int32 × AS)} {M : AS} {x1 x2 x3 x4 : Int32} {s u : Nat} (hmf : MF m) (g : GD m v n) (hs : s < n) (h5 : ¬ (5 : Int32) ≤ sI m 67 (12 * v + s)) (hu : u < 8) (hM : WM m M) (hx : x4.toNatClampNeg = 12 * v + s)
    (H : ∀ M1 M2, MT m M (sI m 70 (12 * v + s)) (YS m v s u) M1 → MT m M1 (sI m 71 (12 * v + s)) (NS m v s u) M2 → Hp (k58 M2 (some 57) x1 x2 (x3 + 1)) Q) : Hp (f_M_weakest_B117 k50 k58 M (some 57) x1 x2 x3 x4 (Int32.ofNat u) (if sI m 67 (12 * v + s) = 4 then 1 else 0)) Q := by
  unfold f_M_weakest_B117
  refine p_of (st_b2 (v := lv8 u) (S' := M) rfl) (p_of (st_gRe (v := some 68) (MF_e hmf hM.1 12 68 rfl)) (p_of (st_aIe hx (hM.2 68 _ (by decide))) ?_))
  by_cases c4 : sI m 67 (12 * v + s) = 4
  · rw [if_pos c4]
    by_cases c : lv8 u < sI m 68 (12 * v + s)
    · have ey : YS m v s u = -1 := by
        unfold YS
        rw [if_neg (by rw [c4]; decide), if_pos c4, if_neg (Int32.not_le.mpr c)]
      have en : NS m v s u = Int32.ofNat u := by
        unfold NS
        rw [if_pos c4, if_pos c]
      rw [ey, en] at H
      refine p_of (st_T c) ?_
      unfold f_M_weakest_B139 f_M_weakest_B189
      exact p_of (st_F one0) (p_of (st_T rfl) (p_of (st_F one0) (p_of (st_T rfl) (p_199 hmf g hs h5 hu hM hx (fun M' h => H M M' (MT_n hM) h)))))
    · have en : NS m v s u = -1 := by
        unfold NS
        rw [if_pos c4, if_neg c]
      rw [en] at H
      refine p_of (st_F c) ?_
      unfold f_M_weakest_B139
      refine p_of (st_F one0) (p_of (st_F one0) (p_151 hmf g hs h5 hu hM hx (fun _ => Int32.not_lt.mp c) (fun M' h => ?_)))
      unfold f_M_weakest_B189 f_M_weakest_B212
      exact p_of (st_F one0) (p_of (st_F one0) (p_of st_val (H M' M' h (MT_n h.1))))
  · rw [if_neg c4]
    have en : NS m v s u = Int32.ofNat u := by
      unfold NS
      rw [if_neg c4]
    rw [en] at H
    have both : ∀ y0, Hp (f_M_weakest_B139 k50 k58 M (some 57) x1 x2 x3 x4 (Int32.ofNat u) 0 y0) Q := fun y0 => by
      unfold f_M_weakest_B139
      refine p_of (st_T rfl) (p_151 hmf g hs h5 hu hM hx (fun z => absurd z c4) (fun M' h => ?_))
      unfold f_M_weakest_B189
      exact p_of (st_T rfl) (p_199 hmf g hs h5 hu h.1 hx (fun M2 h2 => H M' M2 h h2))
    exact p_if (fun _ => both 0) (fun _ => both 1)
/-- a round -/
theorem p_rndM_L {Q : Int32 × AS → Prop} {k50 : AS → Option Nat → Int32 → Int32 → Option (Int32 × AS)} (hmf : MF m) (g : GD m v n) {x2 : Int32} : ∀ (k j fu : Nat) (M : AS), j + k = 96 → WM m M → (∀ q, pqm M q = true → WkR m v n q) →
    (∀ M', WM m M' → (∀ q, pqm M q = true → pqm M' q = true) → (∀ q, pqm M' q = true → WkR m v n q) → (∀ q, j ≤ q → pqm M q = true → ∀ r, EG m v n q r → pqm M' r = true) → Hp (k50 M' (some 57) (Int32.ofNat v) (x2 + 1)) Q) → Hp (f_M_weakest_L58 k50 fu M (some 57) (Int32.ofNat v) x2 (Int32.ofNat j)) Q
  | _, _, 0, _, _, _, _, _ => p_0
  | 0, j, fu + 1, M, hk, hM, hR, H => by
    unfold f_M_weakest_L58 f_M_weakest_C58
    have e : j = 96 := by omega
    subst e
    exact p_of (st_T (by decide)) (p_of st_val (H M hM (fun _ => id) hR (fun q h1 h2 => by have := (pqm_iff.mp h2).1; omega)))
  | k + 1, j, fu + 1, M, hk, hM, hR, H => by
    unfold f_M_weakest_L58 f_M_weakest_C58
    have n12 := g.2.2.1
    have j96 : j < 96 := by omega
    refine p_of (st_F (fun q => by have := (ole (a := 96) (by decide) (by omega)).mp q; omega)) (p_of st_val (p_of st_val ?_))
    rw [ixm8 j j96]
    have hx := ixd v g.1 j j96
    have skip : (pqm M j = true → ∀ r, EG m v n j r → False) → Hp (f_M_weakest_B212 k50 (f_M_weakest_L58 k50 fu) M (some 57) (Int32.ofNat v) x2 (Int32.ofNat j)) Q := fun h => by
      unfold f_M_weakest_B212
      refine p_of st_val ?_
      rw [o1]
      refine p_rndM_L hmf g k (j + 1) fu M (by omega) hM hR (fun M' a1 a2 a3 a4 => H M' a1 a2 a3 (fun q h1 h2 r er => ?_))
      by_cases e : q = j
      · subst e
        exact (h h2 r er).elim
      · exact a4 q (by omega) h2 r er
    refine p_of (st_gRe (v := some 72) (MF_e hmf hM.1 16 72 rfl)) (p_of (st_aIe (v := sI M 72 j) (oc (by omega)) rfl) ?_)
    by_cases c : sI M 72 j = 0
    · exact p_of (st_T c) (skip (fun z => absurd c (pqm_iff.mp z).2))
    · have at0 : pqm M j = true := pqm_iff.mpr ⟨j96, c⟩
      have jn : j < 8 * n := WkR_lt g.2.1 (hR j at0)
      refine p_of (st_F c) (p_of (st_gRe (v := some 67) (MF_e hmf hM.1 11 67 rfl)) (p_of (st_aIe hx (hM.2 67 _ (by decide))) ?_))
      by_cases h5 : (5 : Int32) ≤ sI m 67 (12 * v + j / 8)
      · exact p_of (st_T h5) (skip (fun _ r er => er.2.2.1 h5))
      · refine p_of (st_F h5) (p_of (st_gRe (v := some 67) (MF_e hmf hM.1 11 67 rfl)) (p_of (st_aIe hx (hM.2 67 _ (by decide))) ?_))
        have go : Hp (f_M_weakest_B117 k50 (f_M_weakest_L58 k50 fu) M (some 57) (Int32.ofNat v) x2 (Int32.ofNat j) (((12 : Int32) * Int32.ofNat v) + (Int32.ofNat j / (8 : Int32))) (Int32.ofNat (j % 8)) (if sI m 67 (12 * v + j / 8) = 4 then 1 else 0)) Q := by
          refine p_117 hmf g (by omega) h5 (Nat.mod_lt _ (by decide)) hM hx (fun M1 M2 t1 t2 => ?_)
          obtain ⟨nx, -⟩ := g.2.2.2 (j / 8) (by omega) h5
          have eg : ∀ i r, i = 70 ∨ i = 71 → r < 96 → sI m i (12 * v + j / 8) = Int32.ofNat (r / 8) → r < 8 * n := fun i r hi hr z => by
            rcases nx i hi with a | ⟨t, a, b⟩
            · have := lt0.mp a
              rw [z, oi (by omega)] at this
              omega
            · have := oinj (by omega) (by omega) (b.symm.trans z)
              omega
          have hR2 : ∀ q, pqm M2 q = true → WkR m v n q := fun q z => by
            have q96 := (pqm_iff.mp z).1
            rcases t2.2.2.1 q z with z | z
            · rcases t1.2.2.1 q z with z | z
              · exact hR q z
              · exact WkR_s (hR j at0) ⟨jn, eg 70 q (Or.inl rfl) q96 z.1, h5, Or.inl z⟩
            · exact WkR_s (hR j at0) ⟨jn, eg 71 q (Or.inr rfl) q96 z.1, h5, Or.inr z⟩
          rw [o1]
          refine p_rndM_L hmf g k (j + 1) fu M2 (by omega) t2.1 hR2 (fun M' a1 a2 a3 a4 => H M' a1 (fun q z => a2 q (t2.2.1 q (t1.2.1 q z))) a3 (fun q h1 h2 r er => ?_))
          by_cases e : q = j
          · subst e
            have r96 : r < 96 := by have := er.2.1; omega
            rcases er.2.2.2 with z | z
            · exact a2 r (t2.2.1 r (t1.2.2.2 r r96 z))
            · exact a2 r (t2.2.2.2 r r96 z)
          · exact a4 q (by omega) (t2.2.1 q (t1.2.1 q h2)) r er
        by_cases c4 : sI m 67 (12 * v + j / 8) = 4
        · rw [if_pos c4] at go
          exact p_of (st_T c4) go
        · rw [if_neg c4] at go
          exact p_of (st_F c4) go
/-- all rounds -/
theorem p_outM_L {Q : Int32 × AS → Prop} (hmf : MF m) (g : GD m v n) (H : ∀ M, WM m M → (∀ q, pqm M q = true ↔ WkR m v n q) → Hp (f_M_weakest_L228 kr_FU M (some 57) (Int32.ofNat v) (-1) 0) Q) : ∀ (k r fu : Nat) (M : AS), r + k = 96 → WM m M → (∀ q, pqm M q = true → WkR m v n q) → pqm M 0 = true →
    ((∀ q, pqm M q = true → ∀ r, EG m v n q r → pqm M r = true) ∨ r + 1 ≤ cb (pqm M) 96) → Hp (f_M_weakest_L50 fu M (some 57) (Int32.ofNat v) (Int32.ofNat r)) Q
  | _, _, 0, _, _, _, _, _, _ => p_0
  | 0, r, fu + 1, M, hk, hM, hR, h0, hi => by
    unfold f_M_weakest_L50 f_M_weakest_C50
    have e : r = 96 := by omega
    subst e
    have i2 := hi.resolve_right (fun z => by have := cb_le (pqm M) 96; omega)
    exact p_of (st_T (by decide)) (H M hM (fun q => ⟨hR q, fun z => z (fun q => pqm M q = true) h0 (fun a b ha e => i2 a ha b e)⟩))
  | k + 1, r, fu + 1, M, hk, hM, hR, h0, hi => by
    unfold f_M_weakest_L50 f_M_weakest_C50
    refine p_of (st_F (fun q => by have := (ole (a := 96) (by decide) (by omega)).mp q; omega)) (p_rndM_L hmf g 96 0 kr_FU M rfl hM hR (fun M' a1 a2 a3 a4 => ?_))
    rw [o1]
    refine p_outM_L hmf g H k (r + 1) fu M' (by omega) a1 a3 (a2 0 h0) ?_
    by_cases nw : ∃ q, q < 96 ∧ ¬ pqm M q = true ∧ pqm M' q = true
    · obtain ⟨q, q1, q2, q3⟩ := nw
      rcases hi with i | i
      · exact absurd ((a3 q q3) (fun q => pqm M q = true) h0 (fun a b ha e => i a ha b e)) q2
      · have := cb_lt (f := pqm M) (g := pqm M') a2 q2 q3 q1
        exact Or.inr (by omega)
    · refine Or.inl (fun q hq r er => a4 q (Nat.zero_le _) (Classical.byContradiction (fun z => nw ⟨q, (pqm_iff.mp hq).1, z, hq⟩)) r er)
/-- the least over all places -/
theorem p_finM_L (hmf : MF m) (v8 : v < 8) {M : AS} (hM : WM m M) : ∀ (k j fu : Nat) (K : Nat → Prop) (a : Int32), j + k = 96 → LL K a → Hp (f_M_weakest_L228 fu M (some 57) (Int32.ofNat v) a (Int32.ofNat j)) (fun z => z.2 = M ∧ LL (fun q => K q ∨ (j ≤ q ∧ sI m 67 (12 * v + q / 8) = 5 ∧ pqm M q = true)) z.1)
  | _, _, 0, _, _, _, _ => p_0
  | 0, j, fu + 1, K, a, hk, hl => by
    unfold f_M_weakest_L228 f_M_weakest_C228
    have e : j = 96 := by omega
    subst e
    exact p_of (st_T (by decide)) (p_ret ⟨rfl, LL_cong (fun q => ⟨Or.inl, fun z => z.elim id (fun z => by have := (pqm_iff.mp z.2.2).1; omega)⟩) hl⟩)
  | k + 1, j, fu + 1, K, a, hk, hl => by
    unfold f_M_weakest_L228 f_M_weakest_C228 f_M_weakest_B265
    have j96 : j < 96 := by omega
    have skip : ¬ (sI m 67 (12 * v + j / 8) = 5 ∧ pqm M j = true) → Hp (f_M_weakest_B266 (f_M_weakest_L228 fu) M (some 57) (Int32.ofNat v) a (Int32.ofNat j) 0) (fun z => z.2 = M ∧ LL (fun q => K q ∨ (j ≤ q ∧ sI m 67 (12 * v + q / 8) = 5 ∧ pqm M q = true)) z.1) := fun h => by
      unfold f_M_weakest_B266 f_M_weakest_B299 f_M_weakest_B300
      refine p_of (st_T rfl) (p_of st_val ?_)
      rw [o1]
      refine p_mono (p_finM_L hmf v8 hM k (j + 1) fu K a (by omega) hl) (fun z hz => ⟨hz.1, LL_cong (fun q => ?_) hz.2⟩)
      constructor
      · rintro (z | z)
        · exact Or.inl z
        · exact Or.inr ⟨by omega, z.2⟩
      · rintro (z | z)
        · exact Or.inl z
        · by_cases e : q = j
          · subst e
            exact absurd z.2 h
          · exact Or.inr ⟨by omega, z.2⟩
    refine p_of (st_F (fun q => by have := (ole (a := 96) (by decide) (by omega)).mp q; omega)) (p_of (st_gRe (v := some 72) (MF_e hmf hM.1 16 72 rfl)) (p_of (st_aIe (v := sI M 72 j) (oc (by omega)) rfl) ?_))
    by_cases c : sI M 72 j = 0
    · exact p_of (st_T c) (skip (fun z => (pqm_iff.mp z.2).2 c))
    · refine p_of (st_F c) (p_of (st_gRe (v := some 67) (MF_e hmf hM.1 11 67 rfl)) (p_of (st_aIe (ixd v v8 j j96) (hM.2 67 _ (by decide))) ?_))
      by_cases h5 : sI m 67 (12 * v + j / 8) = 5
      · refine p_of (st_T h5) ?_
        have at0 : pqm M j = true := pqm_iff.mpr ⟨j96, c⟩
        have one : LL (fun r => r = j) (lv8 (j % 8)) := LL_1 rfl
        have go : ∀ b, LL (fun q => K q ∨ q = j) b → Hp (f_M_weakest_B300 (f_M_weakest_L228 fu) M (some 57) (Int32.ofNat v) (Int32.ofNat j) b) (fun z => z.2 = M ∧ LL (fun q => K q ∨ (j ≤ q ∧ sI m 67 (12 * v + q / 8) = 5 ∧ pqm M q = true)) z.1) := fun b hb => by
          unfold f_M_weakest_B300
          refine p_of st_val ?_
          rw [o1]
          refine p_mono (p_finM_L hmf v8 hM k (j + 1) fu _ b (by omega) hb) (fun z hz => ⟨hz.1, LL_cong (fun q => ?_) hz.2⟩)
          constructor
          · rintro ((z | z) | z)
            · exact Or.inl z
            · subst z
              exact Or.inr ⟨Nat.le_refl _, h5, at0⟩
            · exact Or.inr ⟨by omega, z.2⟩
          · rintro (z | z)
            · exact Or.inl (Or.inl z)
            · by_cases e : q = j
              · exact Or.inl (Or.inr e)
              · exact Or.inr ⟨by omega, z.2⟩
        unfold f_M_weakest_B266
        refine p_of (st_F one0) ?_
        rw [ixm8 j j96]
        by_cases c1 : a = -1
        · unfold f_M_weakest_B289
          rw [ixm8 j j96]
          exact p_of (st_T c1) (p_of (st_b2 (v := lv8 (j % 8)) (S' := M) rfl) (go _ (LL_R hl one (Or.inl c1))))
        · refine p_of (st_F c1) (p_of (st_b2 (v := lv8 (j % 8)) (S' := M) rfl) ?_)
          by_cases c2 : a ≤ lv8 (j % 8)
          · unfold f_M_weakest_B299
            exact p_of (st_T c2) (go _ (LL_L hl one (Or.inr ⟨c1, c2⟩)))
          · unfold f_M_weakest_B289
            rw [ixm8 j j96]
            have := lt32.mp (Int32.not_le.mp c2)
            exact p_of (st_F c2) (p_of (st_b2 (v := lv8 (j % 8)) (S' := M) rfl) (go _ (LL_R hl one (Or.inr ⟨(lv8_0 _ (Nat.mod_lt _ (by decide))).2, i32_le.mpr (by omega)⟩))))
      · exact p_of (st_F h5) (skip (fun z => h5 z.1))
/-- the row is cleared, then the rounds -/
theorem p_clr_L {Q : Int32 × AS → Prop} (hmf : MF m) (H : ∀ M, WM m M → (∀ q, q < 96 → sI M 72 q = 0) → Hp (f_M_weakest_L50 kr_FU (wI M 72 0 1) (some 57) (Int32.ofNat v) 0) Q) : ∀ (k j fu : Nat) (M : AS), j + k = 96 → WM m M → (∀ q, q < j → sI M 72 q = 0) → Hp (f_M_weakest_L22 fu M (some 57) (Int32.ofNat v) (Int32.ofNat j)) Q
  | _, _, 0, _, _, _, _ => p_0
  | 0, j, fu + 1, M, hk, hM, hz => by
    unfold f_M_weakest_L22 f_M_weakest_C22
    have e : j = 96 := by omega
    subst e
    exact p_of (st_T (by decide)) (p_of (st_gRe (v := some 72) (MF_e hmf hM.1 16 72 rfl)) (p_of (st_bZe (n := 0) rfl) (H M hM hz)))
  | k + 1, j, fu + 1, M, hk, hM, hz => by
    unfold f_M_weakest_L22 f_M_weakest_C22
    refine p_of (st_F (fun q => by have := (ole (a := 96) (by decide) (by omega)).mp q; omega)) (p_of (st_gRe (v := some 72) (MF_e hmf hM.1 16 72 rfl)) (p_of (st_bZe (n := j) (oc (by omega))) (p_of st_val ?_)))
    rw [o1]
    refine p_clr_L hmf H k (j + 1) fu _ (by omega) (WM_w hM) (fun q hq => ?_)
    by_cases e : q = j
    · rw [e, ti_sI_eq]
    · rw [ti_sI_ne (by omega)]
      exact hz q (by omega)
theorem p_weakM (hmf : MF m) (g : GD m v n) : Hp (f_M_weakest_L22 kr_FU m (some 57) (Int32.ofNat v) 0) (fun z => LL (fun q => WkR m v n q ∧ sI m 67 (12 * v + q / 8) = 5) z.1 ∧ WM m z.2) := by
  refine p_clr_L hmf (fun M hM hz => ?_) 96 0 kr_FU m rfl ⟨rfl, fun _ _ _ => rfl⟩ (fun q hq => by omega)
  have k0 : ∀ q, pqm (wI M 72 0 1) q = true ↔ q = 0 := fun q => by
    rw [pqm_iff]
    by_cases z : q = 0
    · rw [z, ti_sI_eq]
      exact ⟨fun _ => rfl, fun _ => ⟨by decide, by decide⟩⟩
    · rw [ti_sI_ne (by omega)]
      constructor
      · exact fun q => absurd (hz _ q.1) q.2
      · exact fun e => absurd e z
  have h0 := (k0 0).mpr rfl
  refine p_outM_L hmf g (fun M2 hM2 hR => ?_) 96 0 kr_FU _ rfl (WM_w hM) (fun q z => by rw [(k0 q).mp z]; exact WkR_0) h0 (Or.inr ?_)
  · refine p_mono (p_finM_L hmf g.1 hM2 96 0 kr_FU _ _ rfl LL_0) (fun z hz => ⟨LL_cong (fun q => ?_) hz.2, by rw [hz.1]; exact hM2⟩)
    constructor
    · rintro (z | z)
      · exact z.elim
      · exact ⟨(hR q).mp z.2.2, z.2.1⟩
    · rintro ⟨z1, z2⟩
      exact Or.inr ⟨Nat.zero_le _, z2, (hR q).mpr z1⟩
  · have := cb_lt (f := fun _ => false) (g := pqm (wI M 72 0 1)) (fun _ z => by cases z) (i := 0) (by decide) h0 (n := 96) (by decide)
    omega
end
section
variable {T Tm : Nat → Nat} {S m : AS}
theorem GD_of {v n : Nat} (hM : MI m) (n1 : 1 ≤ n) (n12 : n ≤ 12) (v8 : v < 8) (hv : (v : Int) < (sI m 57 9).toInt) (h66 : sI m 66 v = Int32.ofNat n) : GD m v n := by
  obtain ⟨sr, ac, -, -⟩ := hM
  obtain ⟨-, nx, -⟩ := ac v n hv (by rw [h66, oi (by omega)])
  refine ⟨v8, n1, n12, fun s hs h5 => ?_⟩
  have k5 : (sI m 67 (12 * v + s)).toInt < 5 := by
    have := lt32.mp (Int32.not_le.mp h5)
    rw [show (5 : Int32).toInt = 5 by decide] at this
    exact this
  obtain ⟨s0, s1⟩ := sr (12 * v + s) (by omega)
  obtain ⟨s2, s3⟩ := s1 k5
  obtain ⟨x2, x3⟩ := nx s hs k5
  have key : ∀ {x : Int32}, In (-1) 11 x → x.toInt < (n : Int) → x < 0 ∨ ∃ t, t < n ∧ x = Int32.ofNat t := fun {x} i1 i2 => by
    by_cases c : x < 0
    · exact Or.inl c
    · have c0 : 0 ≤ x.toInt := Int.not_lt.mp (fun q => c (lt0.mpr q))
      obtain ⟨t, t1, e⟩ := ofNat_In (n := 11) (v := x) ⟨c0, i1.2⟩
      rw [e, oi (by omega)] at i2
      exact Or.inr ⟨t, by omega, e⟩
  refine ⟨fun j hj => ?_, fun k0 => ?_⟩
  · rcases hj with rfl | rfl
    · exact key s2 x2
    · exact key s3 x3
  · obtain ⟨f, f3, ef⟩ := ofNat_In (n := 2) (s0 (Or.inl k0))
    exact ⟨f, f3, ef⟩
theorem h_weakest (hT : TV T S) (hm : TI Tm m) (hM : MI m) (h : FR S m) (a : Int32) : H2 (f_K_weakest S (some 4) a) (f_M_weakest m (some 57) a) (fun x y => AN [eX] x.1 y.1 (sI y.2 57 82) ∧ P0 x.2 y.2) := by
  have b := FR_BB hT hm h
  have r := (K4F_of hT.1).1 6 17 rfl
  obtain ⟨zV1, zV2, zV3⟩ := zV b
  have n8 : nV m ≤ 8 := zV1
  have s17 : sI S 17 2 = Int32.ofNat (nV m) := zV3.trans zV2
  have m9 : sI m 57 9 = Int32.ofNat (nV m) := zV2
  unfold f_K_weakest f_M_weakest
  refine l_of (st_gRe r) (l_of st_rv (l_of st_size (m_of (st_gIe m9) (m_of (st_b2 (q_isIn m a 0 _)) (m_of st_rv ?_)))))
  rw [s17]
  refine l_bx (fun x S' e => ?_) (fun x S' e => ?_)
  · rcases p_rI _ e with ⟨a1, a2, e2⟩ | ⟨-, e2⟩
    · cases e2
      rw [oi (by omega)] at a2
      obtain ⟨v, v1, rfl⟩ := (IX_iff (n := nV m) (by omega)).mpr ⟨a1, a2⟩
      rw [if_pos ((IX_sub (by omega)).mpr ⟨v, v1, rfl⟩)]
      refine m_p2 p_may (fun w m' p => ?_)
      rw [if_neg one0] at p
      cases p
      refine m_of (st_F one0) (l_of (st_gRe r) (l_of st_rv (l_of (st_get (oc (by omega)) (atV b v1)) (l_of st_cc (l_of st_rv ?_)))))
      obtain ⟨⟨n, n1, n12, g5, g66, gr⟩, -⟩ := h.Ver.2 v v1
      obtain ⟨m0, e0⟩ : ∃ m0, m0 = wI m 57 82 0 := ⟨_, rfl⟩
      rw [← e0]
      have o0 : ∀ k j, ¬ (k = 57 ∧ j = 82) → sI m0 k j = sI m k j := fun k j hk => by
        rw [e0]
        exact ti_sI_ne hk
      have hM0 : MI m0 := by
        rw [e0]
        exact MI_t hm hM 0
      have hmf : MF m0 := by
        rw [e0]
        exact MF_of (TI_t hm 0)
      have f : FLR S m0 (lel S 17 v) v n := ⟨⟨n1, n12⟩, by omega, g5, fun j k hj hk => by rw [o0 _ _ (by omega)]; exact gr j k hj hk⟩
      have g : GD m0 v n := GD_of hM0 n1 n12 (by omega) (by rw [o0 _ _ (by omega), m9, oi (by omega)]; omega) (by rw [o0 _ _ (by omega)]; exact g66)
      have tp := tyV b v1
      have hw : cWgt S m0 := h.Wgt
      refine l_p2 (p_weak g f hw (hT.1.t1 _ (by rw [tp]; decide)).1 (hT.1.t1 _ (by rw [hT.2]; decide)).1 (fun j hj => (hT.1.t1 _ (by rw [(tyW hT.1 tp hj).2]; decide)).1)) (fun x S' q => ?_)
      intro x' y' ha hb
      cases ha
      obtain ⟨q2, hW⟩ := p_weakM hmf g y' hb
      have e : y'.1 = x := LL_uniq q2 q
      rw [e]
      refine ⟨AN_v ?_, trivial⟩
      rw [hW.2 57 82 (by decide), e0]
      exact ti_sI_eq _ _ _ _
    · cases e2
  · rcases p_rI _ e with ⟨-, -, e2⟩ | ⟨h', e2⟩
    · cases e2
    · cases e2
      rw [oi (by omega)] at h'
      rw [if_neg (fun q => h' ((IX_iff (n := nV m) (by omega)).mp ((IX_sub (by omega)).mp q)))]
      refine m_p2 p_may (fun w m' p => ?_)
      rw [if_pos rfl] at p
      cases p
      exact m_of (st_T rfl) (h2_ret ⟨AN_e 0 rfl (ti_sI_eq _ _ _ _), trivial⟩)
end
