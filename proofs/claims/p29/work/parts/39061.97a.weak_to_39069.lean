section
/-! ===== the weakest level: both sides find what can be reached, the one until nothing grows, the other 96 times over ===== -/
/-- the set of factors behind a step's yes, behind its no; -1: that way is shut -/
def YS (m : AS) (v s u : Nat) : Int32 := if sI m 67 (12 * v + s) = 0 then Int32.ofNat u ||| ((1 : Int32) <<< (sI m 68 (12 * v + s) &&& 31)) else if sI m 67 (12 * v + s) = 4 then (if sI m 68 (12 * v + s) ≤ lv8 u then Int32.ofNat u else -1) else Int32.ofNat u
def NS (m : AS) (v s u : Nat) : Int32 := if sI m 67 (12 * v + s) = 4 then (if lv8 u < sI m 68 (12 * v + s) then Int32.ofNat u else -1) else Int32.ofNat u
/-- one edge between places: place 8 * step + set -/
def EG (m : AS) (v n q r : Nat) : Prop := q < 8 * n ∧ r < 8 * n ∧ ¬ (5 : Int32) ≤ sI m 67 (12 * v + q / 8) ∧ ((sI m 70 (12 * v + q / 8) = Int32.ofNat (r / 8) ∧ YS m v (q / 8) (q % 8) = Int32.ofNat (r % 8)) ∨ (sI m 71 (12 * v + q / 8) = Int32.ofNat (r / 8) ∧ NS m v (q / 8) (q % 8) = Int32.ofNat (r % 8)))
def WkR (m : AS) (v n q : Nat) : Prop := ∀ C : Nat → Prop, C 0 → (∀ a b, C a → EG m v n a b → C b) → C q
theorem WkR_0 {m : AS} {v n : Nat} : WkR m v n 0 := fun _ h _ => h
theorem WkR_s {m : AS} {v n a b : Nat} (h : WkR m v n a) (e : EG m v n a b) : WkR m v n b := fun C c0 cs => cs a b (h C c0 cs) e
theorem WkR_lt {m : AS} {v n q : Nat} (n1 : 1 ≤ n) (h : WkR m v n q) : q < 8 * n := h (fun q => q < 8 * n) (by omega) (fun _ _ _ e => e.2.1)
/-- what is read of a flow -/
def GD (m : AS) (v n : Nat) : Prop := v < 8 ∧ 1 ≤ n ∧ n ≤ 12 ∧ ∀ s, s < n → ¬ (5 : Int32) ≤ sI m 67 (12 * v + s) → (∀ j, j = 70 ∨ j = 71 → sI m j (12 * v + s) < 0 ∨ ∃ t, t < n ∧ sI m j (12 * v + s) = Int32.ofNat t) ∧ (sI m 67 (12 * v + s) = 0 → ∃ f, f < 3 ∧ sI m 68 (12 * v + s) = Int32.ofNat f)
theorem or8 : ∀ u, u < 8 → ∀ f, f < 3 → ∃ w, w < 8 ∧ (Int32.ofNat u ||| ((1 : Int32) <<< (Int32.ofNat f &&& 31))) = Int32.ofNat w := by decide +kernel
theorem YS_c {m : AS} {v n s u : Nat} (g : GD m v n) (hs : s < n) (h5 : ¬ (5 : Int32) ≤ sI m 67 (12 * v + s)) (hu : u < 8) : YS m v s u = -1 ∨ ∃ w, w < 8 ∧ YS m v s u = Int32.ofNat w := by
  unfold YS
  by_cases c0 : sI m 67 (12 * v + s) = 0
  · rw [if_pos c0]
    obtain ⟨f, f3, ef⟩ := (g.2.2.2 s hs h5).2 c0
    rw [ef]
    exact Or.inr (or8 u hu f f3)
  · rw [if_neg c0]
    by_cases c4 : sI m 67 (12 * v + s) = 4
    · rw [if_pos c4]
      by_cases c : sI m 68 (12 * v + s) ≤ lv8 u
      · rw [if_pos c]
        exact Or.inr ⟨u, hu, rfl⟩
      · rw [if_neg c]
        exact Or.inl rfl
    · rw [if_neg c4]
      exact Or.inr ⟨u, hu, rfl⟩
theorem NS_c {m : AS} {v s u : Nat} (hu : u < 8) : NS m v s u = -1 ∨ ∃ w, w < 8 ∧ NS m v s u = Int32.ofNat w := by
  unfold NS
  by_cases c4 : sI m 67 (12 * v + s) = 4
  · rw [if_pos c4]
    by_cases c : lv8 u < sI m 68 (12 * v + s)
    · rw [if_pos c]
      exact Or.inr ⟨u, hu, rfl⟩
    · rw [if_neg c]
      exact Or.inl rfl
  · rw [if_neg c4]
    exact Or.inr ⟨u, hu, rfl⟩
/-! ===== the least level over a set of places ===== -/
def LL (K : Nat → Prop) (a : Int32) : Prop := (a = -1 ∧ ∀ q, ¬ K q) ∨ ((∃ q, K q ∧ a = lv8 (q % 8)) ∧ ∀ q, K q → a ≤ lv8 (q % 8))
theorem lv8_0 : ∀ u, u < 8 → (0 : Int32) ≤ lv8 u ∧ lv8 u ≠ -1 := by decide +kernel
theorem LL_r {K : Nat → Prop} {a : Int32} (h : LL K a) : a = -1 ∨ (0 : Int32) ≤ a := by
  rcases h with ⟨h, -⟩ | ⟨⟨q, -, h⟩, -⟩
  · exact Or.inl h
  · rw [h]
    exact Or.inr (lv8_0 _ (Nat.mod_lt _ (by decide))).1
theorem LL_n {K : Nat → Prop} {a : Int32} (h : LL K a) (e : a = -1) (q : Nat) : ¬ K q := by
  rcases h with ⟨-, h⟩ | ⟨⟨q', -, h⟩, -⟩
  · exact h q
  · exact absurd (h.symm.trans e) (lv8_0 _ (Nat.mod_lt _ (by decide))).2
theorem LL_p {K : Nat → Prop} {a : Int32} (h : LL K a) (e : a ≠ -1) : (∃ q, K q ∧ a = lv8 (q % 8)) ∧ ∀ q, K q → a ≤ lv8 (q % 8) := by
  rcases h with ⟨h, -⟩ | h
  · exact absurd h e
  · exact h
theorem LL_cong {K K' : Nat → Prop} {a : Int32} (e : ∀ q, K q ↔ K' q) (h : LL K a) : LL K' a := by
  have : K = K' := funext (fun q => propext (e q))
  rw [← this]
  exact h
theorem i32_le {a b : Int32} : a ≤ b ↔ a.toInt ≤ b.toInt := Int32.le_iff_toInt_le
theorem LL_uniq {K : Nat → Prop} {a b : Int32} (h : LL K a) (g : LL K b) : a = b := by
  rcases h with ⟨h1, h2⟩ | ⟨⟨q, q1, q2⟩, h2⟩
  · rcases g with ⟨g1, -⟩ | ⟨⟨r, r1, -⟩, -⟩
    · rw [h1, g1]
    · exact absurd r1 (h2 r)
  · rcases g with ⟨-, g2⟩ | ⟨⟨r, r1, r2⟩, g2⟩
    · exact absurd q1 (g2 q)
    · have z1 := i32_le.mp (h2 r r1)
      have z2 := i32_le.mp (g2 q q1)
      rw [← r2] at z1
      rw [← q2] at z2
      exact Int32.toInt_inj.mp (by omega)
theorem LL_L {K K' : Nat → Prop} {a b : Int32} (h : LL K a) (g : LL K' b) (c : b = -1 ∨ (a ≠ -1 ∧ a ≤ b)) : LL (fun q => K q ∨ K' q) a := by
  by_cases eb : b = -1
  · exact LL_cong (fun q => ⟨Or.inl, fun z => z.elim id (fun z => absurd z (LL_n g eb q))⟩) h
  · obtain ⟨c1, c2⟩ := c.elim (fun z => absurd z eb) id
    obtain ⟨⟨q, q1, q2⟩, h2⟩ := LL_p h c1
    obtain ⟨-, g2⟩ := LL_p g eb
    refine Or.inr ⟨⟨q, Or.inl q1, q2⟩, fun r z => z.elim (h2 r) (fun z => ?_)⟩
    have z1 := i32_le.mp (g2 r z)
    have z2 := i32_le.mp c2
    exact i32_le.mpr (by omega)
theorem LL_R {K K' : Nat → Prop} {a b : Int32} (h : LL K a) (g : LL K' b) (c : a = -1 ∨ (b ≠ -1 ∧ b ≤ a)) : LL (fun q => K q ∨ K' q) b := LL_cong (fun _ => Or.comm) (LL_L g h c)
theorem LL_1 {q u : Nat} (hu : q % 8 = u) : LL (fun r => r = q) (lv8 u) := Or.inr ⟨⟨q, rfl, by rw [hu]⟩, fun r z => by
  rw [z, hu]
  exact i32_le.mpr (Int.le_refl _)⟩
theorem lt32 {a b : Int32} : a < b ↔ a.toInt < b.toInt := Int32.lt_iff_toInt_lt
theorem p_weaker {K K' : Nat → Prop} {S : AS} {a b : Int32} (h : LL K a) (g : LL K' b) : Hp (f_Flow_weaker S a b) (fun z => z.2 = S ∧ LL (fun q => K q ∨ K' q) z.1) := by
  have ra := LL_r h
  have rb := LL_r g
  have m1 : (-1 : Int32).toInt = -1 := by decide
  have z0 : (0 : Int32).toInt = 0 := by decide
  have pos : ∀ {x : Int32}, x = -1 ∨ (0 : Int32) ≤ x → x ≠ -1 → 0 ≤ x.toInt := fun h e => by
    have := i32_le.mp (h.elim (fun q => absurd q e) id)
    omega
  unfold f_Flow_weaker f_Flow_weaker_B10
  by_cases c1 : a = -1
  · refine p_of (st_T c1) ?_
    by_cases c2 : a < b
    · rw [if_pos c2]
      exact p_ret ⟨rfl, LL_R h g (Or.inl c1)⟩
    · rw [if_neg c2]
      refine p_ret ⟨rfl, LL_L h g (Or.inl (Classical.byContradiction (fun e => c2 (lt32.mpr ?_))))⟩
      have := pos rb e
      rw [c1]
      omega
  · refine p_of (st_F c1) ?_
    by_cases c2 : b = -1
    · refine p_of (st_T c2) ?_
      rw [if_neg (fun q => by
        have := lt32.mp q
        have := pos ra c1
        rw [c2] at *
        omega)]
      exact p_ret ⟨rfl, LL_L h g (Or.inl c2)⟩
    · refine p_of (st_F c2) ?_
      by_cases c3 : b < a
      · rw [if_pos c3]
        have le : b ≤ a := i32_le.mpr (by
          have := lt32.mp c3
          omega)
        exact p_ret ⟨rfl, LL_R h g (Or.inr ⟨c2, le⟩)⟩
      · rw [if_neg c3]
        exact p_ret ⟨rfl, LL_L h g (Or.inr ⟨c1, Int32.not_lt.mp c3⟩)⟩
/-! ===== the class: the level of a set, the ways out of a step ===== -/
theorem lv8_b : ∀ j, j < 3 → ∀ u, u < 8 → (bt (Int32.ofNat u) j = true → lv8 (u % 2 ^ j) + Int32.ofNat (j + 1) = lv8 (u % 2 ^ (j + 1))) ∧ (¬ bt (Int32.ofNat u) j = true → lv8 (u % 2 ^ j) = lv8 (u % 2 ^ (j + 1))) := by decide +kernel
section
variable {S m : AS}
theorem p_los_L (hw : cWgt S m) {u : Nat} (hu : u < 8) : ∀ (k j fu : Nat), j + k = 3 → Hp (f_Shown_levelOfSet_L4 fu S (Int32.ofNat u) (lv8 (u % 2 ^ j)) (Int32.ofNat j)) (fun q => q = (lv8 u, S))
  | _, _, 0, _ => p_0
  | 0, j, fu + 1, hk => by
    unfold f_Shown_levelOfSet_L4 f_Shown_levelOfSet_C4
    have e : j = 3 := by omega
    subst e
    exact p_of (st_T (by decide)) (p_ret (by rw [show u % 2 ^ 3 = u from Nat.mod_eq_of_lt hu]))
  | k + 1, j, fu + 1, hk => by
    unfold f_Shown_levelOfSet_L4 f_Shown_levelOfSet_C4
    have nj : ¬ (3 : Int32) ≤ Int32.ofNat j := fun q => by
      have := (ole (a := 3) (b := j) (by decide) (by omega)).mp q
      omega
    obtain ⟨z1, z2⟩ := lv8_b j (by omega) u hu
    refine p_of (st_F nj) (p_of (st_b2 (bt_is (by omega) S)) ?_)
    unfold f_Shown_levelOfSet_B24
    by_cases c : bt (Int32.ofNat u) j = true
    · rw [if_pos c]
      refine p_of (st_F one0) (p_b2 (p_wgt hw (by omega)) (fun v S' q => ?_))
      cases q
      refine p_of st_val (p_of st_val ?_)
      rw [o1, z1 c]
      exact p_los_L hw hu k (j + 1) fu (by omega)
    · rw [if_neg c]
      refine p_of (st_T rfl) (p_of st_val ?_)
      rw [o1, z2 c]
      exact p_los_L hw hu k (j + 1) fu (by omega)
theorem p_los (hw : cWgt S m) {u : Nat} (hu : u < 8) : Hp (f_Shown_levelOfSet S (Int32.ofNat u)) (fun q => q = (lv8 u, S)) := by
  have := p_los_L hw hu 3 0 kr_FU rfl
  rw [show lv8 (u % 2 ^ 0) = 0 by rw [Nat.pow_zero, Nat.mod_one]; decide +kernel] at this
  exact this
theorem YS_0 {v s : Nat} (u : Nat) (c : sI m 67 (12 * v + s) = 0) : YS m v s u = Int32.ofNat u ||| ((1 : Int32) <<< (sI m 68 (12 * v + s) &&& 31)) := if_pos c
theorem YS_4y {v s u : Nat} (c : sI m 67 (12 * v + s) = 4) (d : sI m 68 (12 * v + s) ≤ lv8 u) : YS m v s u = Int32.ofNat u := by
  unfold YS
  rw [if_neg (by rw [c]; decide), if_pos c, if_pos d]
theorem YS_4n {v s u : Nat} (c : sI m 67 (12 * v + s) = 4) (d : ¬ sI m 68 (12 * v + s) ≤ lv8 u) : YS m v s u = -1 := by
  unfold YS
  rw [if_neg (by rw [c]; decide), if_pos c, if_neg d]
theorem YS_e {v s : Nat} (u : Nat) (c : ¬ sI m 67 (12 * v + s) = 0) (d : ¬ sI m 67 (12 * v + s) = 4) : YS m v s u = Int32.ofNat u := by
  unfold YS
  rw [if_neg c, if_neg d]
theorem NS_4y {v s u : Nat} (c : sI m 67 (12 * v + s) = 4) (d : lv8 u < sI m 68 (12 * v + s)) : NS m v s u = Int32.ofNat u := by
  unfold NS
  rw [if_pos c, if_pos d]
theorem NS_4n {v s u : Nat} (c : sI m 67 (12 * v + s) = 4) (d : ¬ lv8 u < sI m 68 (12 * v + s)) : NS m v s u = -1 := by
  unfold NS
  rw [if_pos c, if_neg d]
theorem NS_e {v s : Nat} (u : Nat) (d : ¬ sI m 67 (12 * v + s) = 4) : NS m v s u = Int32.ofNat u := if_neg d
theorem p_sby {p v n s u : Nat} (f : FLR S m p v n) (hw : cWgt S m) (hs : s < n) (hu : u < 8) : Hp (f_Flow_setBehindYes S (some p) (Int32.ofNat s) (Int32.ofNat u)) (fun q => q = (YS m v s u, S)) := by
  unfold f_Flow_setBehindYes
  refine p_of st_rv (p_b2 (p_kind f hs) (fun a S' q => ?_))
  cases q
  by_cases c0 : sI m 67 (12 * v + s) = 0
  · rw [YS_0 u c0]
    refine p_of (st_T c0) (p_of st_rv (p_b2 (p_first f hs) (fun a S' q => ?_)))
    cases q
    exact p_ret rfl
  · refine p_of (st_F c0) (p_of st_rv (p_b2 (p_kind f hs) (fun a S' q => ?_)))
    cases q
    by_cases c4 : sI m 67 (12 * v + s) = 4
    · refine p_of (st_T c4) (p_b2 (p_los hw hu) (fun a S' q => ?_))
      cases q
      refine p_of st_rv (p_b2 (p_first f hs) (fun a S' q => ?_))
      cases q
      by_cases c : sI m 68 (12 * v + s) ≤ lv8 u
      · rw [YS_4y c4 c]
        exact p_of (st_T c) (p_ret rfl)
      · rw [YS_4n c4 c]
        exact p_of (st_F c) (p_ret rfl)
    · rw [YS_e u c0 c4]
      exact p_of (st_F c4) (p_ret rfl)
theorem p_sbn {p v n s u : Nat} (f : FLR S m p v n) (hw : cWgt S m) (hs : s < n) (hu : u < 8) : Hp (f_Flow_setBehindNo S (some p) (Int32.ofNat s) (Int32.ofNat u)) (fun q => q = (NS m v s u, S)) := by
  unfold f_Flow_setBehindNo
  refine p_of st_rv (p_b2 (p_kind f hs) (fun a S' q => ?_))
  cases q
  by_cases c4 : sI m 67 (12 * v + s) = 4
  · refine p_of (st_T c4) (p_b2 (p_los hw hu) (fun a S' q => ?_))
    cases q
    refine p_of st_rv (p_b2 (p_first f hs) (fun a S' q => ?_))
    cases q
    by_cases c : lv8 u < sI m 68 (12 * v + s)
    · rw [NS_4y c4 c]
      exact p_of (st_T c) (p_ret rfl)
    · rw [NS_4n c4 c]
      exact p_of (st_F c) (p_ret rfl)
  · rw [NS_e u c4]
    exact p_of (st_F c4) (p_ret rfl)
/-- the least level of one row's value -/
theorem p_lst_L (hw : cWgt S m) {s : Nat} {x : Int32} : ∀ (k j fu : Nat) (K : Nat → Prop) (a : Int32), j + k = 8 → LL K a → Hp (f_Flow_leastLevel_L4 fu S x a (Int32.ofNat j)) (fun z => z.2 = S ∧ LL (fun q => K q ∨ (q / 8 = s ∧ j ≤ q % 8 ∧ bt x (q % 8) = true)) z.1)
  | _, _, 0, _, _, _, _ => p_0
  | 0, j, fu + 1, K, a, hk, hl => by
    unfold f_Flow_leastLevel_L4 f_Flow_leastLevel_C4
    have e : j = 8 := by omega
    subst e
    exact p_of (st_T (by decide)) (p_ret ⟨rfl, LL_cong (fun q => ⟨Or.inl, fun z => z.elim id (fun z => by have := z.2.1; omega)⟩) hl⟩)
  | k + 1, j, fu + 1, K, a, hk, hl => by
    unfold f_Flow_leastLevel_L4 f_Flow_leastLevel_C4
    have nj : ¬ (8 : Int32) ≤ Int32.ofNat j := fun q => by
      have := (ole (a := 8) (b := j) (by decide) (by omega)).mp q
      omega
    refine p_of (st_F nj) (p_of (st_b2 (bt_is (by omega) S)) ?_)
    unfold f_Flow_leastLevel_B27
    by_cases c : bt x j = true
    · rw [if_pos c]
      refine p_of (st_F one0) (p_b2 (p_los hw (by omega)) (fun w S' q => ?_))
      cases q
      refine p_b2 (p_weaker hl (LL_1 (q := 8 * s + j) (u := j) (by omega))) (fun w S' q => ?_)
      obtain ⟨q1, q2⟩ := q
      have q1 : S' = S := q1
      rw [q1]
      refine p_of st_val ?_
      rw [o1]
      refine p_mono (p_lst_L hw (s := s) k (j + 1) fu _ _ (by omega) q2) (fun z hz => ⟨hz.1, LL_cong (fun q => ?_) hz.2⟩)
      constructor
      · rintro ((z | z) | z)
        · exact Or.inl z
        · refine Or.inr ⟨by omega, by omega, ?_⟩
          rw [z, show (8 * s + j) % 8 = j by omega]
          exact c
        · exact Or.inr ⟨z.1, by omega, z.2.2⟩
      · rintro (z | z)
        · exact Or.inl (Or.inl z)
        · by_cases e : q % 8 = j
          · exact Or.inl (Or.inr (by omega))
          · exact Or.inr ⟨z.1, by omega, z.2.2⟩
    · rw [if_neg c]
      refine p_of (st_T rfl) (p_of st_val ?_)
      rw [o1]
      refine p_mono (p_lst_L hw (s := s) k (j + 1) fu _ _ (by omega) hl) (fun z hz => ⟨hz.1, LL_cong (fun q => ?_) hz.2⟩)
      constructor
      · rintro (z | z)
        · exact Or.inl z
        · exact Or.inr ⟨z.1, by omega, z.2.2⟩
      · rintro (z | z)
        · exact Or.inl z
        · by_cases e : q % 8 = j
          · rw [e] at z
            exact absurd z.2.2 c
          · exact Or.inr ⟨z.1, by omega, z.2.2⟩
theorem LL_0 : LL (fun _ => False) (-1) := Or.inl ⟨rfl, fun _ => id⟩
theorem p_lst (hw : cWgt S m) (s : Nat) (x : Int32) : Hp (f_Flow_leastLevel S x) (fun z => z.2 = S ∧ LL (fun q => q / 8 = s ∧ bt x (q % 8) = true) z.1) :=
  p_mono (p_lst_L hw (s := s) 8 0 kr_FU _ _ rfl LL_0) (fun _ h => ⟨h.1, LL_cong (fun q => ⟨fun z => z.elim False.elim (fun z => ⟨z.1, z.2.2⟩), fun z => Or.inr ⟨z.1, Nat.zero_le _, z.2⟩⟩) h.2⟩)
end
/-! ===== the class: the row of bits grows to all that can be reached ===== -/
def bs (S : AS) (y q : Nat) : Bool := decide (q < 96) && bt (sI S y (q / 8)) (q % 8)
theorem bs_iff {S : AS} {y q : Nat} : bs S y q = true ↔ q < 96 ∧ bt (sI S y (q / 8)) (q % 8) = true := by
  unfold bs
  rw [Bool.and_eq_true, decide_eq_true_iff]
def GW (P P' : Nat → Bool) (g : Int32) : Prop := (∀ q, P q = true → P' q = true) ∧ ((g = 0 ∧ ∀ q, P' q = true → P q = true) ∨ (g = 1 ∧ ∃ q, q < 96 ∧ ¬ P q = true ∧ P' q = true))
theorem GW_r {P : Nat → Bool} : GW P P 0 := ⟨fun _ => id, Or.inl ⟨rfl, fun _ => id⟩⟩
theorem GW_t {P P1 P2 : Nat → Bool} {g h : Int32} (a : GW P P1 g) (b : GW P1 P2 h) : GW P P2 (g ||| h) := by
  refine ⟨fun q z => b.1 q (a.1 q z), ?_⟩
  rcases a.2 with ⟨rfl, a2⟩ | ⟨rfl, q, q1, q2, q3⟩
  · rcases b.2 with ⟨rfl, b2⟩ | ⟨rfl, r, r1, r2, r3⟩
    · exact Or.inl ⟨by decide, fun q z => a2 q (b2 q z)⟩
    · exact Or.inr ⟨by decide, r, r1, fun z => r2 (a.1 r z), r3⟩
  · refine Or.inr ⟨?_, q, q1, q2, b.1 q q3⟩
    rcases b.2 with ⟨rfl, -⟩ | ⟨rfl, -⟩ <;> decide
def WK (m : AS) (p v n y : Nat) (S : AS) : Prop := FLR S m p v n ∧ cWgt S m ∧ sL S y = 12 ∧ y ≠ p ∧ y ≠ 1 ∧ ∀ j, j < 5 → fa S p j ≠ y
theorem WK_w {S m : AS} {p v n y i : Nat} {x : Int32} (h : WK m p v n y S) : WK m p v n y (wI S y i x) := by
  obtain ⟨⟨f1, f2, f3, f4⟩, ⟨w1, w2, w3⟩, l, y1, y2, y3⟩ := h
  exact ⟨⟨f1, f2, (ti_sI_ne (by omega)).trans f3, fun j k hj hk => (ti_sI_ne (fun z => y3 j hj z.1)).trans (f4 j k hj hk)⟩, ⟨(ti_sI_ne (by omega)).trans w1, (ti_sI_ne (by omega)).trans w2, (ti_sI_ne (by omega)).trans w3⟩, l, y1, y2, y3⟩
def TG (t w : Int32) (q : Nat) : Prop := t = Int32.ofNat (q / 8) ∧ w = Int32.ofNat (q % 8)
section
variable {m : AS} {p v n y : Nat}
theorem p_rch {S : AS} {t w : Int32} (k : WK m p v n y S) (ht : t < 0 ∨ ∃ t', t' < 12 ∧ t = Int32.ofNat t') (hw : w = -1 ∨ ∃ w', w' < 8 ∧ w = Int32.ofNat w') : Hp (f_Flow_reach S t w (some y)) (fun z => WK m p v n y z.2 ∧ GW (bs S y) (bs z.2 y) z.1 ∧ (∀ q, bs z.2 y q = true → bs S y q = true ∨ TG t w q) ∧ ∀ q, q < 96 → TG t w q → bs z.2 y q = true) := by
  unfold f_Flow_reach
  by_cases c : t < 0
  · refine p_of (st_T c) (p_ret ⟨k, GW_r, fun q h => Or.inl h, fun q h z => ?_⟩)
    have := lt0.mp c
    rw [z.1, oi (by omega)] at this
    omega
  · obtain ⟨t', t12, et⟩ := ht.elim (fun q => absurd q c) id
    subst et
    refine p_of (st_F c) (p_of st_aN ?_)
    rw [k.2.2.1]
    refine p_of (st_F (fun q => ?_)) ?_
    · have := (ole (by decide) (by omega)).mp q
      omega
    by_cases d : w = -1
    · refine p_of (st_T d) (p_ret ⟨k, GW_r, fun q h => Or.inl h, fun q h z => ?_⟩)
      have := congrArg Int32.toInt (d.symm.trans z.2)
      rw [oi (by omega), show (-1 : Int32).toInt = -1 by decide] at this
      omega
    · obtain ⟨w', w8, ew⟩ := hw.elim (fun q => absurd q d) id
      subst ew
      have tg : ∀ q, q < 96 → TG (Int32.ofNat t') (Int32.ofNat w') q → q = 8 * t' + w' := fun q h z => by
        have := oinj (by omega) (by omega) z.1
        have := oinj (by omega) (by omega) z.2
        omega
      refine p_of (st_F d) (p_of (st_aIe (v := sI S y t') (oc (by omega)) rfl) (p_of (st_b2 (bt_is (by omega) S)) ?_))
      by_cases e : bt (sI S y t') w' = true
      · rw [if_pos e]
        refine p_of (st_F one0) (p_ret ⟨k, GW_r, fun q h => Or.inl h, fun q h z => ?_⟩)
        have := tg q h z
        rw [bs_iff, show q / 8 = t' by omega, show q % 8 = w' by omega]
        exact ⟨h, e⟩
      · rw [if_neg e]
        refine p_of (st_T rfl) (p_of (st_aIe (v := sI S y t') (oc (by omega)) rfl) (p_of (st_bIe (oc (by omega))) ?_))
        have key : ∀ q, bs (wI S y t' (sI S y t' ||| ((1 : Int32) <<< (Int32.ofNat w' &&& 31)))) y q = true ↔ bs S y q = true ∨ (q < 96 ∧ q = 8 * t' + w') := fun q => by
          rw [bs_iff, bs_iff]
          by_cases z : q / 8 = t'
          · rw [z, ti_sI_eq, bt_sh _ (by omega)]
            constructor
            · rintro ⟨a, b | b⟩
              · exact Or.inl ⟨a, b⟩
              · exact Or.inr ⟨a, by omega⟩
            · rintro (⟨a, b⟩ | ⟨a, b⟩)
              · exact ⟨a, Or.inl b⟩
              · exact ⟨a, Or.inr (by omega)⟩
          · rw [ti_sI_ne (by omega)]
            constructor
            · exact fun a => Or.inl a
            · rintro (a | ⟨a, b⟩)
              · exact a
              · omega
        refine p_ret ⟨WK_w k, ⟨fun q h => (key q).mpr (Or.inl h), Or.inr ⟨rfl, 8 * t' + w', by omega, fun h => e ?_, (key _).mpr (Or.inr ⟨by omega, rfl⟩)⟩⟩, fun q h => ?_, fun q h z => (key q).mpr (Or.inr ⟨h, tg q h z⟩)⟩
        · have := (bs_iff.mp h).2
          rw [show (8 * t' + w') / 8 = t' by omega, show (8 * t' + w') % 8 = w' by omega] at this
          exact this
        · rcases (key q).mp h with h | ⟨h, z⟩
          · exact Or.inl h
          · refine Or.inr ⟨?_, ?_⟩
            · rw [z, show (8 * t' + w') / 8 = t' by omega]
            · rw [z, show (8 * t' + w') % 8 = w' by omega]
theorem p_nxY {S : AS} {k : Nat} (f : FLR S m p v n) (hk : k < n) : Hp (f_Flow_nextOf S (some p) (Int32.ofNat k) 1) (fun q => q = (sI m 70 (12 * v + k), S)) := by
  have := p_next f hk 1
  rw [if_neg one0] at this
  exact this
theorem p_nxN {S : AS} {k : Nat} (f : FLR S m p v n) (hk : k < n) : Hp (f_Flow_nextOf S (some p) (Int32.ofNat k) 0) (fun q => q = (sI m 71 (12 * v + k), S)) := by
  have := p_next f hk 0
  rw [if_pos rfl] at this
  exact this
/-- one step's sets spread: what is there at the start is closed at the end -/
theorem p_spr_L (g : GD m v n) {s : Nat} (hs : s < n) (h5 : ¬ (5 : Int32) ≤ sI m 67 (12 * v + s)) : ∀ (k j fu : Nat) (S : AS) (x3 : Int32), j + k = 8 → WK m p v n y S → (∀ q, bs S y q = true → WkR m v n q) → Hp (f_Flow_spread_L22 fu S (some p) (Int32.ofNat s) (some y) x3 (Int32.ofNat j)) (fun z => ∃ g1, z.1 = x3 ||| g1 ∧ WK m p v n y z.2 ∧ GW (bs S y) (bs z.2 y) g1 ∧ (∀ q, bs z.2 y q = true → WkR m v n q) ∧ ∀ u, j ≤ u → u < 8 → bs S y (8 * s + u) = true → ∀ r, EG m v n (8 * s + u) r → bs z.2 y r = true)
  | _, _, 0, _, _, _, _, _ => p_0
  | 0, j, fu + 1, S, x3, hk, hW, hR => by
    unfold f_Flow_spread_L22 f_Flow_spread_C22
    have e : j = 8 := by omega
    subst e
    exact p_of (st_T (by decide)) (p_of st_z (p_ret ⟨0, (Int32.or_zero).symm, hW, GW_r, hR, fun u h1 h2 => by omega⟩))
  | k + 1, j, fu + 1, S, x3, hk, hW, hR => by
    unfold f_Flow_spread_L22 f_Flow_spread_C22
    have n12 := g.2.2.1
    have nj : ¬ (8 : Int32) ≤ Int32.ofNat j := fun q => by
      have := (ole (a := 8) (b := j) (by decide) (by omega)).mp q
      omega
    have d1 : (8 * s + j) / 8 = s := by omega
    have d2 : (8 * s + j) % 8 = j := by omega
    refine p_of (st_F nj) (p_of (st_aIe (v := sI S y s) (oc (by omega)) rfl) (p_of (st_b2 (bt_is (by omega) S)) ?_))
    by_cases c : bt (sI S y s) j = true
    · rw [if_pos c]
      have at0 : bs S y (8 * s + j) = true := bs_iff.mpr ⟨by omega, by rw [d1, d2]; exact c⟩
      obtain ⟨nx, -⟩ := g.2.2.2 s hs h5
      have tn : ∀ i, i = 70 ∨ i = 71 → sI m i (12 * v + s) < 0 ∨ ∃ t', t' < 12 ∧ sI m i (12 * v + s) = Int32.ofNat t' := fun i hi => (nx i hi).imp id (fun ⟨t, a, b⟩ => ⟨t, by omega, b⟩)
      have eg : ∀ i r, i = 70 ∨ i = 71 → r < 96 → sI m i (12 * v + s) = Int32.ofNat (r / 8) → r < 8 * n := fun i r hi hr z => by
        rcases nx i hi with a | ⟨t, a, b⟩
        · have := lt0.mp a
          rw [z, oi (by omega)] at this
          omega
        · have := oinj (by omega) (by omega) (b.symm.trans z)
          omega
      refine p_of (st_F one0) (p_of st_rv (p_b2 (p_nxY hW.1 hs) (fun w S' q => ?_)))
      cases q
      refine p_of st_rv (p_b2 (p_sby hW.1 hW.2.1 hs (by omega)) (fun w S' q => ?_))
      cases q
      refine p_b2 (p_rch hW (tn 70 (Or.inl rfl)) (YS_c g hs h5 (by omega))) (fun g1 S1 q => ?_)
      obtain ⟨hW1, hG1, hs1, hc1⟩ := q
      have hR1 : ∀ q, bs S1 y q = true → WkR m v n q := fun q z => by
        rcases hs1 q z with z1 | z1
        · exact hR q z1
        · exact WkR_s (hR _ at0) ⟨by omega, eg 70 q (Or.inl rfl) (bs_iff.mp z).1 z1.1, by rw [d1]; exact h5, Or.inl (by rw [d1, d2]; exact z1)⟩
      refine p_of st_val (p_of st_rv (p_b2 (p_nxN hW1.1 hs) (fun w S' q => ?_)))
      cases q
      refine p_of st_rv (p_b2 (p_sbn hW1.1 hW1.2.1 hs (by omega)) (fun w S' q => ?_))
      cases q
      refine p_b2 (p_rch hW1 (tn 71 (Or.inr rfl)) (NS_c (by omega))) (fun g2 S2 q => ?_)
      obtain ⟨hW2, hG2, hs2, hc2⟩ := q
      have hR2 : ∀ q, bs S2 y q = true → WkR m v n q := fun q z => by
        rcases hs2 q z with z1 | z1
        · exact hR1 q z1
        · exact WkR_s (hR _ at0) ⟨by omega, eg 71 q (Or.inr rfl) (bs_iff.mp z).1 z1.1, by rw [d1]; exact h5, Or.inr (by rw [d1, d2]; exact z1)⟩
      unfold f_Flow_spread_B80
      refine p_of st_val (p_of st_val ?_)
      rw [o1]
      refine p_mono (p_spr_L g hs h5 k (j + 1) fu S2 _ (by omega) hW2 hR2) (fun z hz => ?_)
      obtain ⟨g3, e3, hW3, hG3, hR3, hc3⟩ := hz
      refine ⟨(g1 ||| g2) ||| g3, by rw [e3, Int32.or_assoc, Int32.or_assoc, Int32.or_assoc], hW3, GW_t (GW_t hG1 hG2) hG3, hR3, fun u u1 u2 hu r er => ?_⟩
      by_cases eu : u = j
      · subst eu
        have r96 : r < 96 := by have := er.2.1; omega
        obtain ⟨-, -, -, q⟩ := er
        rw [d1, d2] at q
        rcases q with q | q
        · exact hG3.1 r (hG2.1 r (hc1 r r96 q))
        · exact hG3.1 r (hc2 r r96 q)
      · exact hc3 u (by omega) u2 (hG2.1 _ (hG1.1 _ hu)) r er
    · rw [if_neg c]
      unfold f_Flow_spread_B80
      refine p_of (st_T rfl) (p_of st_val ?_)
      rw [o1]
      refine p_mono (p_spr_L g hs h5 k (j + 1) fu S _ (by omega) hW hR) (fun z hz => ?_)
      obtain ⟨g3, e3, hW3, hG3, hR3, hc3⟩ := hz
      refine ⟨g3, e3, hW3, hG3, hR3, fun u u1 u2 hu r er => ?_⟩
      by_cases eu : u = j
      · subst eu
        have := (bs_iff.mp hu).2
        rw [d1, d2] at this
        exact absurd this c
      · exact hc3 u (by omega) u2 hu r er
theorem p_spr (g : GD m v n) {s : Nat} (hs : s < n) {S : AS} (hW : WK m p v n y S) (hR : ∀ q, bs S y q = true → WkR m v n q) : Hp (f_Flow_spread S (some p) (Int32.ofNat s) (some y)) (fun z => WK m p v n y z.2 ∧ GW (bs S y) (bs z.2 y) z.1 ∧ (∀ q, bs z.2 y q = true → WkR m v n q) ∧ ∀ u, u < 8 → bs S y (8 * s + u) = true → ∀ r, EG m v n (8 * s + u) r → bs z.2 y r = true) := by
  have n12 := g.2.2.1
  unfold f_Flow_spread
  refine p_of st_rv (p_b2 (p_kind hW.1 hs) (fun w S' q => ?_))
  cases q
  by_cases h5 : (5 : Int32) ≤ sI m 67 (12 * v + s)
  · refine p_of (st_T h5) (p_ret ⟨hW, GW_r, hR, fun u hu _ r er => ?_⟩)
    have := er.2.2.1
    rw [show (8 * s + u) / 8 = s by omega] at this
    exact absurd h5 this
  · refine p_of (st_F h5) (p_of st_aN ?_)
    rw [hW.2.2.1]
    refine p_of (st_T ?_) ?_
    · exact Int32.not_le.mp (fun q => by have := (ole (by decide) (by omega)).mp q; omega)
    refine p_mono (p_spr_L g hs h5 8 0 kr_FU S 0 rfl hW hR) (fun z hz => ?_)
    obtain ⟨g3, e3, hW3, hG3, hR3, hc3⟩ := hz
    rw [Int32.zero_or] at e3
    rw [e3]
    exact ⟨hW3, hG3, hR3, fun u hu => hc3 u (Nat.zero_le _) hu⟩
/-- a round -/
theorem p_rnd_L {Q : Int32 × AS → Prop} {k13 : AS → Option Nat → Option Nat → Int32 → Int32 → Option (Int32 × AS)} (g : GD m v n) {x3 : Int32} : ∀ (k j fu : Nat) (S : AS) (x2 : Int32), j + k = n → WK m p v n y S → (∀ q, bs S y q = true → WkR m v n q) →
    (∀ S' g1, WK m p v n y S' → GW (bs S y) (bs S' y) g1 → (∀ q, bs S' y q = true → WkR m v n q) → (∀ q, 8 * j ≤ q → bs S y q = true → ∀ r, EG m v n q r → bs S' y r = true) → Hp (k13 S' (some p) (some y) (x2 ||| g1) (x3 + 1)) Q) → Hp (f_Flow_weakestLevel_L28 k13 fu S (some p) (some y) x2 x3 (Int32.ofNat j)) Q
  | _, _, 0, _, _, _, _, _, _ => p_0
  | 0, j, fu + 1, S, x2, hk, hW, hR, H => by
    unfold f_Flow_weakestLevel_L28 f_Flow_weakestLevel_C28 f_Flow_weakestLevel_B60
    have n12 := g.2.2.1
    refine p_of (st_gIe hW.1.2.2.1) (p_of (st_T ((ole (by omega) (by omega)).mpr (by omega))) (p_of st_val ?_))
    have := H S 0 hW GW_r hR (fun q h1 _ r er => by have := er.1; omega)
    rw [Int32.or_zero] at this
    exact this
  | k + 1, j, fu + 1, S, x2, hk, hW, hR, H => by
    unfold f_Flow_weakestLevel_L28 f_Flow_weakestLevel_C28
    have n12 := g.2.2.1
    refine p_of (st_gIe hW.1.2.2.1) (p_of (st_F (fun q => by have := (ole (by omega) (by omega)).mp q; omega)) (p_of (st_F (fun q => by have := (ole (a := 12) (by decide) (by omega)).mp q; omega)) (p_of st_rv (p_b2 (p_spr g (by omega) hW hR) (fun g1 S1 q => ?_)))))
    obtain ⟨hW1, hG1, hR1, hc1⟩ := q
    refine p_of st_val (p_of st_val ?_)
    rw [o1]
    refine p_rnd_L g k (j + 1) fu S1 _ (by omega) hW1 hR1 (fun S' g2 hW2 hG2 hR2 hc2 => ?_)
    have := H S' (g1 ||| g2) hW2 (GW_t hG1 hG2) hR2 (fun q h1 h2 r er => ?_)
    · rw [← Int32.or_assoc] at this
      exact this
    · by_cases e : q < 8 * j + 8
      · have eq : q = 8 * j + q % 8 := by omega
        rw [eq] at h2 er
        exact hG2.1 r (hc1 (q % 8) (by omega) h2 r er)
      · exact hc2 q (by omega) (hG1.1 q h2) r er
/-- all rounds -/
theorem p_out_L {Q : Int32 × AS → Prop} (g : GD m v n) (H : ∀ S, WK m p v n y S → (∀ q, bs S y q = true ↔ WkR m v n q) → Hp (f_Flow_weakestLevel_B66 S (some p) (some y)) Q) : ∀ (k r fu : Nat) (S : AS) (x2 : Int32), r + k = 96 → WK m p v n y S → (∀ q, bs S y q = true → WkR m v n q) → bs S y 0 = true →
    ((x2 = 0 ∧ ∀ q, bs S y q = true → ∀ r, EG m v n q r → bs S y r = true) ∨ (¬ x2 = 0 ∧ r + 1 ≤ cb (bs S y) 96)) → Hp (f_Flow_weakestLevel_L13 fu S (some p) (some y) x2 (Int32.ofNat r)) Q
  | _, _, 0, _, _, _, _, _, _, _ => p_0
  | k, r, fu + 1, S, x2, hk, hW, hR, h0, hi => by
    unfold f_Flow_weakestLevel_L13 f_Flow_weakestLevel_C13
    rcases hi with ⟨i1, i2⟩ | ⟨i1, i2⟩
    · have go := H S hW (fun q => ⟨hR q, fun z => z (fun q => bs S y q = true) h0 (fun a b ha e => i2 a ha b e)⟩)
      refine p_if (fun _ => go) (fun _ => p_of (st_T i1) go)
    · match k, hk with
      | 0, hk =>
        have := cb_le (bs S y) 96
        omega
      | k + 1, hk =>
        refine p_of (st_F (fun q => by have := (ole (a := 96) (by decide) (by omega)).mp q; omega)) (p_of (st_F i1) (p_rnd_L g n 0 kr_FU S 0 (by omega) hW hR (fun S' g1 hW1 hG1 hR1 hc1 => ?_)))
        rw [Int32.zero_or, o1]
        refine p_out_L g H k (r + 1) fu S' g1 (by omega) hW1 hR1 (hG1.1 0 h0) ?_
        rcases hG1.2 with ⟨e, z⟩ | ⟨e, q, q1, q2, q3⟩
        · exact Or.inl ⟨e, fun q hq r er => hc1 q (by omega) (z q hq) r er⟩
        · refine Or.inr ⟨by rw [e]; decide, ?_⟩
          have := cb_lt (f := bs S y) (g := bs S' y) hG1.1 q2 q3 q1
          omega
/-- the least over the steps -/
theorem p_lvl_L (g : GD m v n) {S : AS} (hW : WK m p v n y S) : ∀ (k j fu : Nat) (K : Nat → Prop) (a : Int32), j + k = n → LL K a → Hp (f_Flow_weakestLevel_L71 fu S (some p) (some y) a (Int32.ofNat j)) (fun z => LL (fun q => K q ∨ (8 * j ≤ q ∧ q < 8 * n ∧ sI m 67 (12 * v + q / 8) = 5 ∧ bs S y q = true)) z.1)
  | _, _, 0, _, _, _, _ => p_0
  | 0, j, fu + 1, K, a, hk, hl => by
    unfold f_Flow_weakestLevel_L71 f_Flow_weakestLevel_C71
    have n12 := g.2.2.1
    exact p_of (st_gIe hW.1.2.2.1) (p_of (st_T ((ole (by omega) (by omega)).mpr (by omega))) (p_ret (LL_cong (fun q => ⟨Or.inl, fun z => z.elim id (fun z => by have := z.1; have := z.2.1; omega)⟩) hl)))
  | k + 1, j, fu + 1, K, a, hk, hl => by
    unfold f_Flow_weakestLevel_L71 f_Flow_weakestLevel_C71
    have n12 := g.2.2.1
    refine p_of (st_gIe hW.1.2.2.1) (p_of (st_F (fun q => by have := (ole (by omega) (by omega)).mp q; omega)) (p_of (st_F (fun q => by have := (ole (a := 12) (by decide) (by omega)).mp q; omega)) (p_of st_rv (p_b2 (p_kind hW.1 (by omega)) (fun w S' q => ?_)))))
    cases q
    unfold f_Flow_weakestLevel_B109
    by_cases c : sI m 67 (12 * v + j) = 5
    · refine p_of (st_T c) (p_of (st_aIe (v := sI S y j) (oc (by omega)) rfl) (p_b2 (p_lst hW.2.1 j _) (fun w S' q => ?_)))
      obtain ⟨q1, q2⟩ := q
      have q1 : S' = S := q1
      subst q1
      refine p_b2 (p_weaker hl q2) (fun w S' q => ?_)
      obtain ⟨q1, q3⟩ := q
      have q1 : S' = _ := q1
      subst q1
      refine p_of st_val ?_
      rw [o1]
      refine p_mono (p_lvl_L g hW k (j + 1) fu _ _ (by omega) q3) (fun z hz => LL_cong (fun q => ?_) hz)
      constructor
      · rintro ((z | z) | z)
        · exact Or.inl z
        · refine Or.inr ⟨by omega, by omega, ?_, bs_iff.mpr ⟨by omega, ?_⟩⟩
          · rw [z.1]
            exact c
          · rw [z.1]
            exact z.2
        · exact Or.inr ⟨by omega, z.2⟩
      · rintro (z | z)
        · exact Or.inl (Or.inl z)
        · by_cases e : q / 8 = j
          · refine Or.inl (Or.inr ⟨e, ?_⟩)
            have := (bs_iff.mp z.2.2.2).2
            rw [e] at this
            exact this
          · exact Or.inr ⟨by omega, z.2⟩
    · refine p_of (st_F c) (p_of st_val ?_)
      rw [o1]
      refine p_mono (p_lvl_L g hW k (j + 1) fu _ _ (by omega) hl) (fun z hz => LL_cong (fun q => ?_) hz)
      constructor
      · rintro (z | z)
        · exact Or.inl z
        · exact Or.inr ⟨by omega, z.2⟩
      · rintro (z | z)
        · exact Or.inl z
        · by_cases e : q / 8 = j
          · have := z.2.2.1
            rw [e] at this
            exact absurd this c
          · exact Or.inr ⟨by omega, z.2⟩
theorem bt1 : ∀ u, u < 8 → (bt 1 u = true ↔ u = 0) := by decide +kernel
theorem p_weak {S : AS} (g : GD m v n) (f : FLR S m p v n) (hw : cWgt S m) (hp : p < sN S) (h1 : 1 < sN S) (hf : ∀ j, j < 5 → fa S p j < sN S) : Hp (f_Flow_weakestLevel S (some p)) (fun z => LL (fun q => WkR m v n q ∧ sI m 67 (12 * v + q / 8) = 5) z.1) := by
  unfold f_Flow_weakestLevel
  refine p_of st_nA ?_
  rw [show (12 : Int32).toNatClampNeg = 12 by decide]
  obtain ⟨S1, e1⟩ : ∃ S1, S1 = wN S 40 12 12 := ⟨_, rfl⟩
  rw [← e1]
  have i1 : ∀ k, k ≠ sN S → sI S1 k = sI S k := fun k hk => by
    rw [e1]
    show (if k = sN S then _ else sI S k) = _
    rw [if_neg hk]
  have i0 : ∀ j, sI S1 (sN S) j = 0 := fun j => by
    rw [e1]
    show (if sN S = sN S then (fun _ => (0 : Int32)) else sI S (sN S)) j = 0
    rw [if_pos rfl]
  have r1 : ∀ k, k ≠ sN S → sR S1 k = sR S k := fun k hk => by
    rw [e1]
    show (if k = sN S then _ else sR S k) = _
    rw [if_neg hk]
  have l1 : sL S1 (sN S) = 12 := by
    rw [e1]
    show (if sN S = sN S then 12 else sL S (sN S)) = 12
    rw [if_pos rfl]
  have fe : ∀ j, fa S1 p j = fa S p j := fun j => by
    unfold fa
    rw [r1 p (by omega)]
  have hW : WK m p v n (sN S) S1 := by
    refine ⟨⟨f.1, f.2.1, by rw [i1 p (by omega)]; exact f.2.2.1, fun j k hj hk => ?_⟩, ⟨?_, ?_, ?_⟩, l1, by omega, by omega, fun j hj => ?_⟩
    · have := hf j hj
      rw [fe, i1 _ (by omega)]
      exact f.2.2.2 j k hj hk
    · rw [i1 1 (by omega)]
      exact hw.1
    · rw [i1 1 (by omega)]
      exact hw.2.1
    · rw [i1 1 (by omega)]
      exact hw.2.2
    · have := hf j hj
      rw [fe]
      omega
  refine p_of (st_bIe (n := 0) rfl) ?_
  have k0 : ∀ q, bs (wI S1 (sN S) 0 1) (sN S) q = true ↔ q = 0 := fun q => by
    rw [bs_iff]
    by_cases z : q / 8 = 0
    · rw [z, ti_sI_eq, bt1 _ (Nat.mod_lt _ (by decide))]
      omega
    · rw [ti_sI_ne (by omega), i0, bt_0]
      constructor
      · exact fun q => absurd q.2 (by decide)
      · intro e
        omega
  have h0 := (k0 0).mpr rfl
  refine p_out_L g (fun S2 hW2 hR => ?_) 96 0 kr_FU _ 1 rfl (WK_w hW) (fun q z => by rw [(k0 q).mp z]; exact WkR_0) h0 (Or.inr ⟨one0, ?_⟩)
  · unfold f_Flow_weakestLevel_B66
    refine p_mono (p_lvl_L g hW2 n 0 kr_FU _ _ (by omega) LL_0) (fun z hz => LL_cong (fun q => ?_) hz)
    constructor
    · rintro (z | z)
      · exact z.elim
      · exact ⟨(hR q).mp z.2.2.2, z.2.2.1⟩
    · rintro ⟨z1, z2⟩
      exact Or.inr ⟨by omega, WkR_lt g.2.1 z1, z2, (hR q).mpr z1⟩
  · have := cb_lt (f := fun _ => false) (g := bs (wI S1 (sN S) 0 1) (sN S)) (fun _ z => by cases z) (i := 0) (by decide) h0 (n := 96) (by decide)
    omega
end
/-! ===== the reference: the same, 96 times over ===== -/
theorem ixd : ∀ v, v < 8 → ∀ q, q < 96 → (((12 : Int32) * Int32.ofNat v) + (Int32.ofNat q / (8 : Int32))).toNatClampNeg = 12 * v + q / 8 := by decide +kernel
theorem ixm8 : ∀ q, q < 96 → Int32.ofNat q - Int32.ofNat q / (8 : Int32) * (8 : Int32) = Int32.ofNat (q % 8) := by decide +kernel
theorem ixt8 : ∀ t, t < 12 → ∀ w, w < 8 → (((8 : Int32) * Int32.ofNat t) + Int32.ofNat w).toNatClampNeg = 8 * t + w := by decide +kernel
def pqm (M : AS) (q : Nat) : Bool := decide (q < 96) && decide (¬ sI M 72 q = 0)
theorem pqm_iff {M : AS} {q : Nat} : pqm M q = true ↔ q < 96 ∧ ¬ sI M 72 q = 0 := by
  unfold pqm
  rw [Bool.and_eq_true, decide_eq_true_iff, decide_eq_true_iff]
def WM (m M : AS) : Prop := sR M = sR m ∧ ∀ k j, k ≠ 72 → sI M k j = sI m k j
theorem WM_w {m M : AS} {i : Nat} {x : Int32} (h : WM m M) : WM m (wI M 72 i x) := ⟨h.1, fun k j hk => (ti_sI_ne (fun z => hk z.1)).trans (h.2 k j hk)⟩
def MT (m M : AS) (t w : Int32) (M' : AS) : Prop := WM m M' ∧ (∀ q, pqm M q = true → pqm M' q = true) ∧ (∀ q, pqm M' q = true → pqm M q = true ∨ TG t w q) ∧ ∀ q, q < 96 → TG t w q → pqm M' q = true
theorem MT_n {m M : AS} {t : Int32} (h : WM m M) : MT m M t (-1) M := ⟨h, fun _ => id, fun _ z => Or.inl z, fun q h z => by
  have := congrArg Int32.toInt z.2
  rw [oi (by omega), show (-1 : Int32).toInt = -1 by decide] at this
  omega⟩
section
variable {m : AS} {v n : Nat}
theorem p_meet {M : AS} {t w : Int32} (hmf : MF m) (k : WM m M) (ht : t < 0 ∨ ∃ t', t' < 12 ∧ t = Int32.ofNat t') (hw : ∃ w', w' < 8 ∧ w = Int32.ofNat w') : Hp (f_M_meet M (some 57) t w) (MT m M t w) := by
  unfold f_M_meet
  by_cases c : t < 0
  · refine p_of (st_T c) (p_ret ⟨k, fun _ => id, fun _ z => Or.inl z, fun q h z => ?_⟩)
    have := lt0.mp c
    rw [z.1, oi (by omega)] at this
    omega
  · obtain ⟨t', t12, et⟩ := ht.elim (fun q => absurd q c) id
    subst et
    obtain ⟨w', w8, ew⟩ := hw
    subst ew
    refine p_of (st_F c) (p_of (st_gRe (v := some 72) (MF_e hmf k.1 16 72 rfl)) (p_of (st_bZe (ixt8 t' t12 w' w8)) ?_))
    have key : ∀ q, pqm (wI M 72 (8 * t' + w') 1) q = true ↔ pqm M q = true ∨ (q < 96 ∧ q = 8 * t' + w') := fun q => by
      rw [pqm_iff, pqm_iff]
      by_cases z : q = 8 * t' + w'
      · rw [z, ti_sI_eq]
        constructor
        · exact fun a => Or.inr ⟨a.1, rfl⟩
        · exact fun a => ⟨by omega, by decide⟩
      · rw [ti_sI_ne (by omega)]
        constructor
        · exact fun a => Or.inl a
        · rintro (a | ⟨a, b⟩)
          · exact a
          · exact absurd b z
    refine p_ret ⟨WM_w k, fun q h => (key q).mpr (Or.inl h), fun q h => ?_, fun q h z => (key q).mpr (Or.inr ⟨h, ?_⟩)⟩
    · rcases (key q).mp h with h | ⟨h, z⟩
      · exact Or.inl h
      · exact Or.inr ⟨by rw [z, show (8 * t' + w') / 8 = t' by omega], by rw [z, show (8 * t' + w') % 8 = w' by omega]⟩
    · have := oinj (by omega) (by omega) z.1
      have := oinj (by omega) (by omega) z.2
      omega
theorem p_199 {Q : Int32 × AS → Prop} {k50 : AS → Option Nat → Int32 → Int32 → Option (Int32 × AS)} {k58 : AS → Option Nat → Int32 → Int32 → Int32 → Option (Int32 × AS)} {M : AS} {x1 x2 x3 x4 : Int32} {s u : Nat} (hmf : MF m) (g : GD m v n) (hs : s < n) (h5 : ¬ (5 : Int32) ≤ sI m 67 (12 * v + s)) (hu : u < 8) (hM : WM m M) (hx : x4.toNatClampNeg = 12 * v + s)
    (H : ∀ M', MT m M (sI m 71 (12 * v + s)) (Int32.ofNat u) M' → Hp (k58 M' (some 57) x1 x2 (x3 + 1)) Q) : Hp (f_M_weakest_B199 k50 k58 M (some 57) x1 x2 x3 x4 (Int32.ofNat u)) Q := by
  unfold f_M_weakest_B199 f_M_weakest_B212
  refine p_of (st_gRe (v := some 71) (MF_e hmf hM.1 15 71 rfl)) (p_of (st_aIe hx (hM.2 71 _ (by decide))) (p_of st_rv (p_bd (p_meet hmf hM ?_ ⟨u, hu, rfl⟩) (fun M' q => p_of st_val (H M' q)))))
  exact ((g.2.2.2 s hs h5).1 71 (Or.inr rfl)).imp id (fun ⟨t, a, b⟩ => ⟨t, by have := g.2.2.1; omega, b⟩)
theorem p_151 {Q : Int32 × AS → Prop} {k50 : AS → Option Nat → Int32 → Int32 → Option (Int32 × AS)} {k58 : AS → Option Nat → Int32 → Int32 → Int32 → Option (Int32 × AS)} {M : AS} {x1 x2 x3 x4 x6 x7 : Int32} {s u : Nat} (hmf : MF m) (g : GD m v n) (hs : s < n) (h5 : ¬ (5 : Int32) ≤ sI m 67 (12 * v + s)) (hu : u < 8) (hM : WM m M) (hx : x4.toNatClampNeg = 12 * v + s) (hY : sI m 67 (12 * v + s) = 4 → sI m 68 (12 * v + s) ≤ lv8 u)
    (H : ∀ M', MT m M (sI m 70 (12 * v + s)) (YS m v s u) M' → Hp (f_M_weakest_B189 k50 k58 M' (some 57) x1 x2 x3 x4 (Int32.ofNat u) x6 x7) Q) : Hp (f_M_weakest_B151 k50 k58 M (some 57) x1 x2 x3 x4 (Int32.ofNat u) x6 x7) Q := by
  unfold f_M_weakest_B151 f_M_weakest_B186
  have tn : sI m 70 (12 * v + s) < 0 ∨ ∃ t', t' < 12 ∧ sI m 70 (12 * v + s) = Int32.ofNat t' := ((g.2.2.2 s hs h5).1 70 (Or.inl rfl)).imp id (fun ⟨t, a, b⟩ => ⟨t, by have := g.2.2.1; omega, b⟩)
  refine p_of (st_gRe (v := some 70) (MF_e hmf hM.1 14 70 rfl)) (p_of (st_aIe hx (hM.2 70 _ (by decide))) (p_of (st_gRe (v := some 67) (MF_e hmf hM.1 11 67 rfl)) (p_of (st_aIe hx (hM.2 67 _ (by decide))) ?_)))
  by_cases c0 : sI m 67 (12 * v + s) = 0
  · refine p_of (st_T c0) (p_of (st_gRe (v := some 68) (MF_e hmf hM.1 12 68 rfl)) (p_of (st_aIe hx (hM.2 68 _ (by decide))) ?_))
    have ey : (Int32.ofNat u ||| ((1 : Int32) <<< (sI m 68 (12 * v + s) &&& 31))) = YS m v s u := by
      unfold YS
      rw [if_pos c0]
    rw [ey]
    refine p_of st_rv (p_bd (p_meet hmf hM tn ?_) H)
    rcases YS_c g hs h5 hu with z | z
    · obtain ⟨f, f3, ef⟩ := (g.2.2.2 s hs h5).2 c0
      obtain ⟨w, w8, ew⟩ := or8 u hu f f3
      rw [← ef] at ew
      exact ⟨w, w8, by rw [← ey]; exact ew⟩
    · exact z
  · have ey : YS m v s u = Int32.ofNat u := by
      unfold YS
      rw [if_neg c0]
      by_cases c4 : sI m 67 (12 * v + s) = 4
      · rw [if_pos c4, if_pos (hY c4)]
      · rw [if_neg c4]
    rw [ey] at H
    exact p_of (st_F c0) (p_of st_rv (p_bd (p_meet hmf hM tn ⟨u, hu, rfl⟩) H))
/-- one place -/
theorem p_117 {Q : Int32 × AS → Prop} {k50 : AS → Option Nat → Int32 → Int32 → Option (Int32 × AS)} {k58 : AS → Option Nat → Int32 → Int32 → Int32 → Option (Int32 × AS)} {M : AS} {x1 x2 x3 x4 : Int32} {s u : Nat} (hmf : MF m) (g : GD m v n) (hs : s < n) (h5 : ¬ (5 : Int32) ≤ sI m 67 (12 * v + s)) (hu : u < 8) (hM : WM m M) (hx : x4.toNatClampNeg = 12 * v + s)
    (H : ∀ M1 M2, MT m M (sI m 70 (12 * v + s)) (YS m v s u) M1 → MT m M1 (sI m 71 (12 * v + s)) (NS m v s u) M2 → Hp (k58 M2 (some 57) x1 x2 (x3 + 1)) Q) : Hp (f_M_weakest_B117 k50 k58 M (some 57) x1 x2 x3 x4 (Int32.ofNat u) (if sI m 67 (12 * v + s) = 4 then 1 else 0)) Q := by
  unfold f_M_weakest_B117
  refine p_of (st_b2 (v := lv8 u) (S' := M) rfl) (p_of (st_gRe (v := some 68) (MF_e hmf hM.1 12 68 rfl)) (p_of (st_aIe hx (hM.2 68 _ (by decide))) ?_))
  by_cases c4 : sI m 67 (12 * v + s) = 4
  · rw [if_pos c4]
    by_cases c : lv8 u < sI m 68 (12 * v + s)
    · have ey : YS m v s u = -1 := by
        unfold YS
        rw [if_neg (by rw [c4]; decide), if_pos c4, if_neg (Int32.not_le.mpr c)]
      have en : NS m v s u = Int32.ofNat u := by
        unfold NS
        rw [if_pos c4, if_pos c]
      rw [ey, en] at H
      refine p_of (st_T c) ?_
      unfold f_M_weakest_B139 f_M_weakest_B189
      exact p_of (st_F one0) (p_of (st_T rfl) (p_of (st_F one0) (p_of (st_T rfl) (p_199 hmf g hs h5 hu hM hx (fun M' h => H M M' (MT_n hM) h)))))
    · have en : NS m v s u = -1 := by
        unfold NS
        rw [if_pos c4, if_neg c]
      rw [en] at H
      refine p_of (st_F c) ?_
      unfold f_M_weakest_B139
      refine p_of (st_F one0) (p_of (st_F one0) (p_151 hmf g hs h5 hu hM hx (fun _ => Int32.not_lt.mp c) (fun M' h => ?_)))
      unfold f_M_weakest_B189 f_M_weakest_B212
      exact p_of (st_F one0) (p_of (st_F one0) (p_of st_val (H M' M' h (MT_n h.1))))
  · rw [if_neg c4]
    have en : NS m v s u = Int32.ofNat u := by
      unfold NS
      rw [if_neg c4]
    rw [en] at H
    have both : ∀ y0, Hp (f_M_weakest_B139 k50 k58 M (some 57) x1 x2 x3 x4 (Int32.ofNat u) 0 y0) Q := fun y0 => by
      unfold f_M_weakest_B139
      refine p_of (st_T rfl) (p_151 hmf g hs h5 hu hM hx (fun z => absurd z c4) (fun M' h => ?_))
      unfold f_M_weakest_B189
      exact p_of (st_T rfl) (p_199 hmf g hs h5 hu h.1 hx (fun M2 h2 => H M' M2 h h2))
    exact p_if (fun _ => both 0) (fun _ => both 1)
/-- a round -/
theorem p_rndM_L {Q : Int32 × AS → Prop} {k50 : AS → Option Nat → Int32 → Int32 → Option (Int32 × AS)} (hmf : MF m) (g : GD m v n) {x2 : Int32} : ∀ (k j fu : Nat) (M : AS), j + k = 96 → WM m M → (∀ q, pqm M q = true → WkR m v n q) →
    (∀ M', WM m M' → (∀ q, pqm M q = true → pqm M' q = true) → (∀ q, pqm M' q = true → WkR m v n q) → (∀ q, j ≤ q → pqm M q = true → ∀ r, EG m v n q r → pqm M' r = true) → Hp (k50 M' (some 57) (Int32.ofNat v) (x2 + 1)) Q) → Hp (f_M_weakest_L58 k50 fu M (some 57) (Int32.ofNat v) x2 (Int32.ofNat j)) Q
  | _, _, 0, _, _, _, _, _ => p_0
  | 0, j, fu + 1, M, hk, hM, hR, H => by
    unfold f_M_weakest_L58 f_M_weakest_C58
    have e : j = 96 := by omega
    subst e
    exact p_of (st_T (by decide)) (p_of st_val (H M hM (fun _ => id) hR (fun q h1 h2 => by have := (pqm_iff.mp h2).1; omega)))
  | k + 1, j, fu + 1, M, hk, hM, hR, H => by
    unfold f_M_weakest_L58 f_M_weakest_C58
    have n12 := g.2.2.1
    have j96 : j < 96 := by omega
    refine p_of (st_F (fun q => by have := (ole (a := 96) (by decide) (by omega)).mp q; omega)) (p_of st_val (p_of st_val ?_))
    rw [ixm8 j j96]
    have hx := ixd v g.1 j j96
    have skip : (pqm M j = true → ∀ r, EG m v n j r → False) → Hp (f_M_weakest_B212 k50 (f_M_weakest_L58 k50 fu) M (some 57) (Int32.ofNat v) x2 (Int32.ofNat j)) Q := fun h => by
      unfold f_M_weakest_B212
      refine p_of st_val ?_
      rw [o1]
      refine p_rndM_L hmf g k (j + 1) fu M (by omega) hM hR (fun M' a1 a2 a3 a4 => H M' a1 a2 a3 (fun q h1 h2 r er => ?_))
      by_cases e : q = j
      · subst e
        exact (h h2 r er).elim
      · exact a4 q (by omega) h2 r er
    refine p_of (st_gRe (v := some 72) (MF_e hmf hM.1 16 72 rfl)) (p_of (st_aIe (v := sI M 72 j) (oc (by omega)) rfl) ?_)
    by_cases c : sI M 72 j = 0
    · exact p_of (st_T c) (skip (fun z => absurd c (pqm_iff.mp z).2))
    · have at0 : pqm M j = true := pqm_iff.mpr ⟨j96, c⟩
      have jn : j < 8 * n := WkR_lt g.2.1 (hR j at0)
      refine p_of (st_F c) (p_of (st_gRe (v := some 67) (MF_e hmf hM.1 11 67 rfl)) (p_of (st_aIe hx (hM.2 67 _ (by decide))) ?_))
      by_cases h5 : (5 : Int32) ≤ sI m 67 (12 * v + j / 8)
      · exact p_of (st_T h5) (skip (fun _ r er => er.2.2.1 h5))
      · refine p_of (st_F h5) (p_of (st_gRe (v := some 67) (MF_e hmf hM.1 11 67 rfl)) (p_of (st_aIe hx (hM.2 67 _ (by decide))) ?_))
        have go : Hp (f_M_weakest_B117 k50 (f_M_weakest_L58 k50 fu) M (some 57) (Int32.ofNat v) x2 (Int32.ofNat j) (((12 : Int32) * Int32.ofNat v) + (Int32.ofNat j / (8 : Int32))) (Int32.ofNat (j % 8)) (if sI m 67 (12 * v + j / 8) = 4 then 1 else 0)) Q := by
          refine p_117 hmf g (by omega) h5 (Nat.mod_lt _ (by decide)) hM hx (fun M1 M2 t1 t2 => ?_)
          obtain ⟨nx, -⟩ := g.2.2.2 (j / 8) (by omega) h5
          have eg : ∀ i r, i = 70 ∨ i = 71 → r < 96 → sI m i (12 * v + j / 8) = Int32.ofNat (r / 8) → r < 8 * n := fun i r hi hr z => by
            rcases nx i hi with a | ⟨t, a, b⟩
            · have := lt0.mp a
              rw [z, oi (by omega)] at this
              omega
            · have := oinj (by omega) (by omega) (b.symm.trans z)
              omega
          have hR2 : ∀ q, pqm M2 q = true → WkR m v n q := fun q z => by
            have q96 := (pqm_iff.mp z).1
            rcases t2.2.2.1 q z with z | z
            · rcases t1.2.2.1 q z with z | z
              · exact hR q z
              · exact WkR_s (hR j at0) ⟨jn, eg 70 q (Or.inl rfl) q96 z.1, h5, Or.inl z⟩
            · exact WkR_s (hR j at0) ⟨jn, eg 71 q (Or.inr rfl) q96 z.1, h5, Or.inr z⟩
          rw [o1]
          refine p_rndM_L hmf g k (j + 1) fu M2 (by omega) t2.1 hR2 (fun M' a1 a2 a3 a4 => H M' a1 (fun q z => a2 q (t2.2.1 q (t1.2.1 q z))) a3 (fun q h1 h2 r er => ?_))
          by_cases e : q = j
          · subst e
            have r96 : r < 96 := by have := er.2.1; omega
            rcases er.2.2.2 with z | z
            · exact a2 r (t2.2.1 r (t1.2.2.2 r r96 z))
            · exact a2 r (t2.2.2.2 r r96 z)
          · exact a4 q (by omega) (t2.2.1 q (t1.2.1 q h2)) r er
        by_cases c4 : sI m 67 (12 * v + j / 8) = 4
        · rw [if_pos c4] at go
          exact p_of (st_T c4) go
        · rw [if_neg c4] at go
          exact p_of (st_F c4) go
/-- all rounds -/
theorem p_outM_L {Q : Int32 × AS → Prop} (hmf : MF m) (g : GD m v n) (H : ∀ M, WM m M → (∀ q, pqm M q = true ↔ WkR m v n q) → Hp (f_M_weakest_L228 kr_FU M (some 57) (Int32.ofNat v) (-1) 0) Q) : ∀ (k r fu : Nat) (M : AS), r + k = 96 → WM m M → (∀ q, pqm M q = true → WkR m v n q) → pqm M 0 = true →
    ((∀ q, pqm M q = true → ∀ r, EG m v n q r → pqm M r = true) ∨ r + 1 ≤ cb (pqm M) 96) → Hp (f_M_weakest_L50 fu M (some 57) (Int32.ofNat v) (Int32.ofNat r)) Q
  | _, _, 0, _, _, _, _, _, _ => p_0
  | 0, r, fu + 1, M, hk, hM, hR, h0, hi => by
    unfold f_M_weakest_L50 f_M_weakest_C50
    have e : r = 96 := by omega
    subst e
    have i2 := hi.resolve_right (fun z => by have := cb_le (pqm M) 96; omega)
    exact p_of (st_T (by decide)) (H M hM (fun q => ⟨hR q, fun z => z (fun q => pqm M q = true) h0 (fun a b ha e => i2 a ha b e)⟩))
  | k + 1, r, fu + 1, M, hk, hM, hR, h0, hi => by
    unfold f_M_weakest_L50 f_M_weakest_C50
    refine p_of (st_F (fun q => by have := (ole (a := 96) (by decide) (by omega)).mp q; omega)) (p_rndM_L hmf g 96 0 kr_FU M rfl hM hR (fun M' a1 a2 a3 a4 => ?_))
    rw [o1]
    refine p_outM_L hmf g H k (r + 1) fu M' (by omega) a1 a3 (a2 0 h0) ?_
    by_cases nw : ∃ q, q < 96 ∧ ¬ pqm M q = true ∧ pqm M' q = true
    · obtain ⟨q, q1, q2, q3⟩ := nw
      rcases hi with i | i
      · exact absurd ((a3 q q3) (fun q => pqm M q = true) h0 (fun a b ha e => i a ha b e)) q2
      · have := cb_lt (f := pqm M) (g := pqm M') a2 q2 q3 q1
        exact Or.inr (by omega)
    · refine Or.inl (fun q hq r er => a4 q (Nat.zero_le _) (Classical.byContradiction (fun z => nw ⟨q, (pqm_iff.mp hq).1, z, hq⟩)) r er)
/-- the least over all places -/
theorem p_finM_L (hmf : MF m) (v8 : v < 8) {M : AS} (hM : WM m M) : ∀ (k j fu : Nat) (K : Nat → Prop) (a : Int32), j + k = 96 → LL K a → Hp (f_M_weakest_L228 fu M (some 57) (Int32.ofNat v) a (Int32.ofNat j)) (fun z => z.2 = M ∧ LL (fun q => K q ∨ (j ≤ q ∧ sI m 67 (12 * v + q / 8) = 5 ∧ pqm M q = true)) z.1)
  | _, _, 0, _, _, _, _ => p_0
  | 0, j, fu + 1, K, a, hk, hl => by
    unfold f_M_weakest_L228 f_M_weakest_C228
    have e : j = 96 := by omega
    subst e
    exact p_of (st_T (by decide)) (p_ret ⟨rfl, LL_cong (fun q => ⟨Or.inl, fun z => z.elim id (fun z => by have := (pqm_iff.mp z.2.2).1; omega)⟩) hl⟩)
  | k + 1, j, fu + 1, K, a, hk, hl => by
    unfold f_M_weakest_L228 f_M_weakest_C228 f_M_weakest_B265
    have j96 : j < 96 := by omega
    have skip : ¬ (sI m 67 (12 * v + j / 8) = 5 ∧ pqm M j = true) → Hp (f_M_weakest_B266 (f_M_weakest_L228 fu) M (some 57) (Int32.ofNat v) a (Int32.ofNat j) 0) (fun z => z.2 = M ∧ LL (fun q => K q ∨ (j ≤ q ∧ sI m 67 (12 * v + q / 8) = 5 ∧ pqm M q = true)) z.1) := fun h => by
      unfold f_M_weakest_B266 f_M_weakest_B299 f_M_weakest_B300
      refine p_of (st_T rfl) (p_of st_val ?_)
      rw [o1]
      refine p_mono (p_finM_L hmf v8 hM k (j + 1) fu K a (by omega) hl) (fun z hz => ⟨hz.1, LL_cong (fun q => ?_) hz.2⟩)
      constructor
      · rintro (z | z)
        · exact Or.inl z
        · exact Or.inr ⟨by omega, z.2⟩
      · rintro (z | z)
        · exact Or.inl z
        · by_cases e : q = j
          · subst e
            exact absurd z.2 h
          · exact Or.inr ⟨by omega, z.2⟩
    refine p_of (st_F (fun q => by have := (ole (a := 96) (by decide) (by omega)).mp q; omega)) (p_of (st_gRe (v := some 72) (MF_e hmf hM.1 16 72 rfl)) (p_of (st_aIe (v := sI M 72 j) (oc (by omega)) rfl) ?_))
    by_cases c : sI M 72 j = 0
    · exact p_of (st_T c) (skip (fun z => (pqm_iff.mp z.2).2 c))
    · refine p_of (st_F c) (p_of (st_gRe (v := some 67) (MF_e hmf hM.1 11 67 rfl)) (p_of (st_aIe (ixd v v8 j j96) (hM.2 67 _ (by decide))) ?_))
      by_cases h5 : sI m 67 (12 * v + j / 8) = 5
      · refine p_of (st_T h5) ?_
        have at0 : pqm M j = true := pqm_iff.mpr ⟨j96, c⟩
        have one : LL (fun r => r = j) (lv8 (j % 8)) := LL_1 rfl
        have go : ∀ b, LL (fun q => K q ∨ q = j) b → Hp (f_M_weakest_B300 (f_M_weakest_L228 fu) M (some 57) (Int32.ofNat v) (Int32.ofNat j) b) (fun z => z.2 = M ∧ LL (fun q => K q ∨ (j ≤ q ∧ sI m 67 (12 * v + q / 8) = 5 ∧ pqm M q = true)) z.1) := fun b hb => by
          unfold f_M_weakest_B300
          refine p_of st_val ?_
          rw [o1]
          refine p_mono (p_finM_L hmf v8 hM k (j + 1) fu _ b (by omega) hb) (fun z hz => ⟨hz.1, LL_cong (fun q => ?_) hz.2⟩)
          constructor
          · rintro ((z | z) | z)
            · exact Or.inl z
            · subst z
              exact Or.inr ⟨Nat.le_refl _, h5, at0⟩
            · exact Or.inr ⟨by omega, z.2⟩
          · rintro (z | z)
            · exact Or.inl (Or.inl z)
            · by_cases e : q = j
              · exact Or.inl (Or.inr e)
              · exact Or.inr ⟨by omega, z.2⟩
        unfold f_M_weakest_B266
        refine p_of (st_F one0) ?_
        rw [ixm8 j j96]
        by_cases c1 : a = -1
        · unfold f_M_weakest_B289
          rw [ixm8 j j96]
          exact p_of (st_T c1) (p_of (st_b2 (v := lv8 (j % 8)) (S' := M) rfl) (go _ (LL_R hl one (Or.inl c1))))
        · refine p_of (st_F c1) (p_of (st_b2 (v := lv8 (j % 8)) (S' := M) rfl) ?_)
          by_cases c2 : a ≤ lv8 (j % 8)
          · unfold f_M_weakest_B299
            exact p_of (st_T c2) (go _ (LL_L hl one (Or.inr ⟨c1, c2⟩)))
          · unfold f_M_weakest_B289
            rw [ixm8 j j96]
            have := lt32.mp (Int32.not_le.mp c2)
            exact p_of (st_F c2) (p_of (st_b2 (v := lv8 (j % 8)) (S' := M) rfl) (go _ (LL_R hl one (Or.inr ⟨(lv8_0 _ (Nat.mod_lt _ (by decide))).2, i32_le.mpr (by omega)⟩))))
      · exact p_of (st_F h5) (skip (fun z => h5 z.1))
/-- the row is cleared, then the rounds -/
theorem p_clr_L {Q : Int32 × AS → Prop} (hmf : MF m) (H : ∀ M, WM m M → (∀ q, q < 96 → sI M 72 q = 0) → Hp (f_M_weakest_L50 kr_FU (wI M 72 0 1) (some 57) (Int32.ofNat v) 0) Q) : ∀ (k j fu : Nat) (M : AS), j + k = 96 → WM m M → (∀ q, q < j → sI M 72 q = 0) → Hp (f_M_weakest_L22 fu M (some 57) (Int32.ofNat v) (Int32.ofNat j)) Q
  | _, _, 0, _, _, _, _ => p_0
  | 0, j, fu + 1, M, hk, hM, hz => by
    unfold f_M_weakest_L22 f_M_weakest_C22
    have e : j = 96 := by omega
    subst e
    exact p_of (st_T (by decide)) (p_of (st_gRe (v := some 72) (MF_e hmf hM.1 16 72 rfl)) (p_of (st_bZe (n := 0) rfl) (H M hM hz)))
  | k + 1, j, fu + 1, M, hk, hM, hz => by
    unfold f_M_weakest_L22 f_M_weakest_C22
    refine p_of (st_F (fun q => by have := (ole (a := 96) (by decide) (by omega)).mp q; omega)) (p_of (st_gRe (v := some 72) (MF_e hmf hM.1 16 72 rfl)) (p_of (st_bZe (n := j) (oc (by omega))) (p_of st_val ?_)))
    rw [o1]
    refine p_clr_L hmf H k (j + 1) fu _ (by omega) (WM_w hM) (fun q hq => ?_)
    by_cases e : q = j
    · rw [e, ti_sI_eq]
    · rw [ti_sI_ne (by omega)]
      exact hz q (by omega)
theorem p_weakM (hmf : MF m) (g : GD m v n) : Hp (f_M_weakest_L22 kr_FU m (some 57) (Int32.ofNat v) 0) (fun z => LL (fun q => WkR m v n q ∧ sI m 67 (12 * v + q / 8) = 5) z.1 ∧ WM m z.2) := by
  refine p_clr_L hmf (fun M hM hz => ?_) 96 0 kr_FU m rfl ⟨rfl, fun _ _ _ => rfl⟩ (fun q hq => by omega)
  have k0 : ∀ q, pqm (wI M 72 0 1) q = true ↔ q = 0 := fun q => by
    rw [pqm_iff]
    by_cases z : q = 0
    · rw [z, ti_sI_eq]
      exact ⟨fun _ => rfl, fun _ => ⟨by decide, by decide⟩⟩
    · rw [ti_sI_ne (by omega)]
      constructor
      · exact fun q => absurd (hz _ q.1) q.2
      · exact fun e => absurd e z
  have h0 := (k0 0).mpr rfl
  refine p_outM_L hmf g (fun M2 hM2 hR => ?_) 96 0 kr_FU _ rfl (WM_w hM) (fun q z => by rw [(k0 q).mp z]; exact WkR_0) h0 (Or.inr ?_)
  · refine p_mono (p_finM_L hmf g.1 hM2 96 0 kr_FU _ _ rfl LL_0) (fun z hz => ⟨LL_cong (fun q => ?_) hz.2, by rw [hz.1]; exact hM2⟩)
    constructor
    · rintro (z | z)
      · exact z.elim
      · exact ⟨(hR q).mp z.2.2, z.2.1⟩
    · rintro ⟨z1, z2⟩
      exact Or.inr ⟨Nat.zero_le _, z2, (hR q).mpr z1⟩
  · have := cb_lt (f := fun _ => false) (g := pqm (wI M 72 0 1)) (fun _ z => by cases z) (i := 0) (by decide) h0 (n := 96) (by decide)
    omega
end
section
variable {T Tm : Nat → Nat} {S m : AS}
theorem GD_of {v n : Nat} (hM : MI m) (n1 : 1 ≤ n) (n12 : n ≤ 12) (v8 : v < 8) (hv : (v : Int) < (sI m 57 9).toInt) (h66 : sI m 66 v = Int32.ofNat n) : GD m v n := by
  obtain ⟨sr, ac, -, -⟩ := hM
  obtain ⟨-, nx, -⟩ := ac v n hv (by rw [h66, oi (by omega)])
  refine ⟨v8, n1, n12, fun s hs h5 => ?_⟩
  have k5 : (sI m 67 (12 * v + s)).toInt < 5 := by
    have := lt32.mp (Int32.not_le.mp h5)
    rw [show (5 : Int32).toInt = 5 by decide] at this
    exact this
  obtain ⟨s0, s1⟩ := sr (12 * v + s) (by omega)
  obtain ⟨s2, s3⟩ := s1 k5
  obtain ⟨x2, x3⟩ := nx s hs k5
  have key : ∀ {x : Int32}, In (-1) 11 x → x.toInt < (n : Int) → x < 0 ∨ ∃ t, t < n ∧ x = Int32.ofNat t := fun {x} i1 i2 => by
    by_cases c : x < 0
    · exact Or.inl c
    · have c0 : 0 ≤ x.toInt := Int.not_lt.mp (fun q => c (lt0.mpr q))
      obtain ⟨t, t1, e⟩ := ofNat_In (n := 11) (v := x) ⟨c0, i1.2⟩
      rw [e, oi (by omega)] at i2
      exact Or.inr ⟨t, by omega, e⟩
  refine ⟨fun j hj => ?_, fun k0 => ?_⟩
  · rcases hj with rfl | rfl
    · exact key s2 x2
    · exact key s3 x3
  · obtain ⟨f, f3, ef⟩ := ofNat_In (n := 2) (s0 (Or.inl k0))
    exact ⟨f, f3, ef⟩
theorem h_weakest (hT : TV T S) (hm : TI Tm m) (hM : MI m) (h : FR S m) (a : Int32) : H2 (f_K_weakest S (some 4) a) (f_M_weakest m (some 57) a) (fun x y => AN [eX] x.1 y.1 (sI y.2 57 82) ∧ P0 x.2 y.2) := by
  have b := FR_BB hT hm h
  have r := (K4F_of hT.1).1 6 17 rfl
  obtain ⟨zV1, zV2, zV3⟩ := zV b
  have n8 : nV m ≤ 8 := zV1
  have s17 : sI S 17 2 = Int32.ofNat (nV m) := zV3.trans zV2
  have m9 : sI m 57 9 = Int32.ofNat (nV m) := zV2
  unfold f_K_weakest f_M_weakest
  refine l_of (st_gRe r) (l_of st_rv (l_of st_size (m_of (st_gIe m9) (m_of (st_b2 (q_isIn m a 0 _)) (m_of st_rv ?_)))))
  rw [s17]
  refine l_bx (fun x S' e => ?_) (fun x S' e => ?_)
  · rcases p_rI _ e with ⟨a1, a2, e2⟩ | ⟨-, e2⟩
    · cases e2
      rw [oi (by omega)] at a2
      obtain ⟨v, v1, rfl⟩ := (IX_iff (n := nV m) (by omega)).mpr ⟨a1, a2⟩
      rw [if_pos ((IX_sub (by omega)).mpr ⟨v, v1, rfl⟩)]
      refine m_p2 p_may (fun w m' p => ?_)
      rw [if_neg one0] at p
      cases p
      refine m_of (st_F one0) (l_of (st_gRe r) (l_of st_rv (l_of (st_get (oc (by omega)) (atV b v1)) (l_of st_cc (l_of st_rv ?_)))))
      obtain ⟨⟨n, n1, n12, g5, g66, gr⟩, -⟩ := h.Ver.2 v v1
      obtain ⟨m0, e0⟩ : ∃ m0, m0 = wI m 57 82 0 := ⟨_, rfl⟩
      rw [← e0]
      have o0 : ∀ k j, ¬ (k = 57 ∧ j = 82) → sI m0 k j = sI m k j := fun k j hk => by
        rw [e0]
        exact ti_sI_ne hk
      have hM0 : MI m0 := by
        rw [e0]
        exact MI_t hm hM 0
      have hmf : MF m0 := by
        rw [e0]
        exact MF_of (TI_t hm 0)
      have f : FLR S m0 (lel S 17 v) v n := ⟨⟨n1, n12⟩, by omega, g5, fun j k hj hk => by rw [o0 _ _ (by omega)]; exact gr j k hj hk⟩
      have g : GD m0 v n := GD_of hM0 n1 n12 (by omega) (by rw [o0 _ _ (by omega), m9, oi (by omega)]; omega) (by rw [o0 _ _ (by omega)]; exact g66)
      have tp := tyV b v1
      have hw : cWgt S m0 := h.Wgt
      refine l_p2 (p_weak g f hw (hT.1.t1 _ (by rw [tp]; decide)).1 (hT.1.t1 _ (by rw [hT.2]; decide)).1 (fun j hj => (hT.1.t1 _ (by rw [(tyW hT.1 tp hj).2]; decide)).1)) (fun x S' q => ?_)
      intro x' y' ha hb
      cases ha
      obtain ⟨q2, hW⟩ := p_weakM hmf g y' hb
      have e : y'.1 = x := LL_uniq q2 q
      rw [e]
      refine ⟨AN_v ?_, trivial⟩
      rw [hW.2 57 82 (by decide), e0]
      exact ti_sI_eq _ _ _ _
    · cases e2
  · rcases p_rI _ e with ⟨-, -, e2⟩ | ⟨h', e2⟩
    · cases e2
    · cases e2
      rw [oi (by omega)] at h'
      rw [if_neg (fun q => h' ((IX_iff (n := nV m) (by omega)).mp ((IX_sub (by omega)).mp q)))]
      refine m_p2 p_may (fun w m' p => ?_)
      rw [if_pos rfl] at p
      cases p
      exact m_of (st_T rfl) (h2_ret ⟨AN_e 0 rfl (ti_sI_eq _ _ _ _), trivial⟩)
end
end
section
/-! ===== answer ===== -/
section
variable {T Tm : Nat → Nat} {S m : AS}
/-- the answer is taken: from the state behind it to the masked relation -/
theorem an_mask (hT : TV T S) (hm : TI Tm m) (h : FR S m) {a : Nat} (ha : a < uA m) {S' m' : AS} (bb' : BB T Tm S' m') (kS : Kp T T ka_ANS S S') (kM : Kp Tm Tm ma_ANS m m') (fac : cFac S' m') (wrg : cWrg S' m') (ash : cAsh S' m') (ssh : cSsh S' m') (au : cAU S' m')
    (oS : ∀ b j, b < uA m → b ≠ a → sI S' (lel S 18 b) j = sI S (lel S 18 b) j) (oM : ∀ q j, (q = 79 ∨ q = 80 ∨ q = 81 ∨ q = 82 ∨ q = 83) → j ≠ a → sI m' q j = sI m q j) (x8 : sI S' (lel S 18 a) 8 = sI m' 82 a) (x9 : sI S' (lel S 18 a) 9 = sI m' 83 a) :
    FR (wI S' (lel S 18 a) 5 2) (wI m' 80 a 2) := by
  have b := FR_BB hT hm h
  have tx := tyA b ha
  obtain ⟨-, t80, -⟩ := md_at hm (j := 25) (p := 80) rfl rfl
  have w1 : ∀ {cs : List Nat}, ¬ 4205 ∈ cs → Kp T T cs S' (wI S' (lel S 18 a) 5 2) := fun q => Kp_wI _ tx (by rw [show cl 42 5 = 4205 by decide]; exact q)
  have w2 : ∀ {cs : List Nat}, ¬ 12500 ∈ cs → Kp Tm Tm cs m' (wI m' 80 a 2) := fun q => Kp_wA _ t80 (by decide) q
  have K1 : Kp T T ka_ANS S (wI S' (lel S 18 a) 5 2) := Kp_tr kS (w1 (by decide))
  have M1 : Kp Tm Tm ma_ANS m (wI m' 80 a 2) := Kp_tr kM (w2 (by decide))
  refine FA_ANS hT hm h K1 M1 (cFac_fr bb' fac (w1 (by decide)) (w2 (by decide))) (cWrg_fr bb' wrg (w1 (by decide)) (w2 (by decide))) (Ast_of (a := a) (asm_mk (Asm_of h.Ast) (enA b M1 (by decide)) ha (fun x hx => lA b K1 (by decide) (by decide) hx) (fun x j hx hxa => ?_) (fun q j hq hj => ?_) (fun j => M1.M hm (j := 23) (p := 78) rfl (by decide) (by decide) j) (fun j => M1.M hm (j := 13) (p := 69) rfl (by decide) (by decide) j) ⟨?_, ?_, ?_, fun z => ?_⟩) (fun z => ?_)) (cAsh_fr bb' ash (w1 (by decide)) (w2 (by decide))) (cSsh_fr bb' ssh (w1 (by decide)) (w2 (by decide))) (cAU_fr bb' au (w1 (by decide)) (w2 (by decide)))
  · rw [ti_sI_ne (fun z => hxa ((h.Att.2 a ha).1 x hx z.1))]
    exact oS x j hx hxa
  · rw [ti_sI_ne (by omega)]
    exact oM q j hq hj
  · rw [ti_sI_eq, ti_sI_eq]
  · rw [ti_sI_ne (by omega), ti_sI_ne (by omega)]
    exact x8
  · rw [ti_sI_ne (by omega), ti_sI_ne (by omega)]
    exact x9
  · rw [ti_sI_eq] at z
    exact absurd z (by decide)
  · rw [ti_sI_eq] at z
    exact absurd z (by decide)
/-- the sizes, by frames -/
theorem BB_fr {T' Tm' : Nat → Nat} {S' m' : AS} (b : BB T Tm S m) (hT' : TV T' S') (hm' : TI Tm' m') (k : Kp T T' [50500, 50900, 51301, 51302, 51309, 1300, 2002, 2102, 2202, 2302, 2402, 2502, 2602] S S') (q : Kp Tm Tm' [10009, 10019, 10030, 10039, 10046, 10052, 10070] m m') : BB T' Tm' S' m' :=
  ⟨hT', cPF_fr b b.2.1 (Kp_sub k (fun z hz => by
    have : z ∈ k_cPF := hz
    revert this
    unfold k_cPF
    intro this
    simp only [List.mem_cons, List.mem_nil_iff, or_false] at this ⊢
    omega)) (Kp_sub q (fun z hz => by cases hz)), hm', fzV b k q (by decide) (by decide), fzA b k q (by decide) (by decide), fzS b k q (by decide) (by decide), fzC b k q (by decide) (by decide), fzF b k q (by decide) (by decide), fzT b k q (by decide) (by decide), fzR b k q (by decide) (by decide)⟩
end
end
section
/-! ===== steps inside a bind ===== -/
theorem st_in {α β : Type} {x x' : Option α} {G : α → Option β} (h : Le x x') : Le (x.bind G) (x'.bind G) := fun a ha => by
  cases e : x with
  | none => rw [e] at ha; cases ha
  | some q =>
    rw [e] at ha
    rw [h q e]
    exact ha
theorem st_hp {α β : Type} {x : Option α} {c : α} {F : α → Option β} (h : Hp x (fun a => a = c)) : Le (x.bind F) (F c) := fun a ha => by
  cases e : x with
  | none => rw [e] at ha; cases ha
  | some q =>
    rw [e] at ha
    have : q = c := h q e
    rw [← this]
    exact ha
theorem st_hp2 {α β : Type} {x : Option (α × AS)} {v : α} {S' : AS} {F : α → AS → Option β} (h : Hp x (fun q => q = (v, S'))) : Le (kr_b2 x F) (F v S') := fun a ha => by
  cases e : x with
  | none => rw [e] at ha; cases ha
  | some q =>
    have q2 : q = (v, S') := h q e
    rw [e, q2] at ha
    exact ha
theorem b2_as {α β γ : Type} (x : Option (α × AS)) (F : α → AS → Option β) (G : β → Option γ) : (kr_b2 x F).bind G = kr_b2 x (fun v S => (F v S).bind G) := by
  cases x with
  | none => rfl
  | some q => rfl
section
variable {T Tm : Nat → Nat} {S m : AS}
theorem an_way (bb : BB T Tm S m) {a : Nat} (ha : a < uA m) (hF : FR (wI S (lel S 18 a) 5 2) (wI m 80 a 2)) (e5 : sI S (lel S 18 a) 5 = 0) (e80 : sI m 80 a = 0) (sr : SR m) (ac : AC m) (hph : Ph m ≤ 1150) {v n : Nat} (m78 : sI m 78 a = Int32.ofNat v) (v1 : v < nV m) (h66 : sI m 66 v = Int32.ofNat n) (n12 : n ≤ 12) (fac : cFac S m) (wrg : cWrg S m) (e57 : sI m 57 82 = 0) (r82 : 0 ≤ (sI m 82 a).toInt ∧ (sI m 82 a).toInt ≤ 12) {st : Int32} (hst : st = -1 ∨ ∃ k, k < n ∧ st = Int32.ofNat k) :
    H2 ((f_K_goOn S (some 4) (some (lel S 18 a)) st).bind fun S27 => (f_K_takeAnswer_B114 S27 (some (lel S 18 a))).bind fun S4 => (gI S4 11 5 (some (lel S 18 a))).bind fun v5 => some ((Sum.inl v5 : Int32 ⊕ String), S4)) ((f_M_go m (some 57) (Int32.ofNat a) st).bind fun S37 => f_M_answer_B168 S37 (some 57) (Int32.ofNat a)) (fun x y => AN [eX, eA, eS] x.1 y.1 (sI y.2 57 82) ∧ P_ans x.2 y.2) := by
  obtain ⟨hT, pf, hm, -⟩ := id bb
  have h60 : uA m ≤ 60 := (zA bb).1
  have n8 : nV m ≤ 8 := (zV bb).1
  have m9 : sI m 57 9 = Int32.ofNat (nV m) := (zV bb).2.1
  have tx := tyA bb ha
  have hV : (v : Int) < (sI m 57 9).toInt := by
    rw [m9, oi (by omega)]
    omega
  have hN : (sI m 66 v).toInt = (n : Int) := by rw [h66, oi (by omega)]
  obtain ⟨-, hnx, ρ, hρ⟩ := ac v n hV hN
  have way := h_way hT hm ha hF e5 e80 sr ac (st := st) (fun v' n' hv' _ hn' e1 e2 => by
    have ev : v' = v := oinj (by omega) (by omega) (e1.symm.trans m78)
    subst ev
    have en : n' = n := oinj (by omega) (by omega) (e2.symm.trans h66)
    subst en
    exact hst)
  refine l_bd (fun S19 e19 => m_bd (fun m4 f4 => ?_))
  obtain ⟨⟨pA, pK, pS⟩, gf⟩ := way _ _ e19 f4
  obtain ⟨S19', h19, T39, g39⟩ := t_K_goOn hT.1 (a0 := some 4) (a1 := some (lel S 18 a)) (a2 := st) ⟨_, rfl, hT.1.t9.2.2.2.2.1, by decide⟩ ⟨_, rfl, tx, by decide⟩
  rw [e19] at h19
  cases h19
  obtain ⟨m4', h4, go⟩ := t_M_go hm (x := some 57) (a := Int32.ofNat a) (st := st) (v := v) (n := n) ⟨_, rfl, hm.t9.1, by decide⟩ ⟨by rw [oi (by omega)]; omega, by rw [oi (by omega)]; omega⟩ hph sr (by omega) n12 (by rw [oc (by omega)]; exact m78) hnx hρ hst
  rw [f4] at h4
  cases h4
  have g4 : Rl Tm kw_go m 0 0 Tm m4 := go.1
  have hT19 : TV T39 S19 := ⟨g39.1, (g39.ty 1 (by rw [hT.2]; decide)).trans hT.2⟩
  have kS : ∀ {cs : List Nat}, cs.all (fun z => !kw_K55.contains z) = true → Kp T T39 cs S S19 := fun q => Kp_of g39 q
  have kM : ∀ {cs : List Nat}, cs.all (fun z => !kw_go.contains z) = true → Kp Tm Tm cs m m4 := fun q => Kp_of g4 q
  have el : ∀ b, b < uA m → lel S19 18 b = lel S 18 b := fun b hb => lA bb (kS (cs := [52101, 53100]) (by decide +kernel)) (by decide) (by decide) hb
  have uA4 : uA m4 = uA m := by
    unfold uA
    rw [gf 57 19 (by omega) (by omega)]
  have nV4 : nV m4 = nV m := by
    unfold nV
    rw [gf 57 9 (by omega) (by omega)]
  have bb19 : BB T39 Tm S19 m4 := by
    refine ⟨hT19, cPF_fr bb pf (kS (by decide +kernel)) (Kp_sub (kM (cs := []) rfl) (fun z hz => by cases hz)), g4.1, fzV bb (kS (cs := [2002]) (by decide +kernel)) (kM (cs := [10009]) (by decide +kernel)) (by decide) (by decide), fzA bb (kS (cs := [2102]) (by decide +kernel)) (kM (cs := [10019]) (by decide +kernel)) (by decide) (by decide), pS.2.1.1, pS.2.2.2.2.2.2.1.1, fzF bb (kS (cs := [2402]) (by decide +kernel)) (kM (cs := [10046]) (by decide +kernel)) (by decide) (by decide), fzT bb (kS (cs := [2502]) (by decide +kernel)) (kM (cs := [10052]) (by decide +kernel)) (by decide) (by decide), fzR bb (kS (cs := [2602]) (by decide +kernel)) (kM (cs := [10070]) (by decide +kernel)) (by decide) (by decide)⟩
  have inj : ∀ b, b < uA m → lel S 18 b = lel S 18 a → b = a := fun b hb e => (hF.Att.2 a (by
    show a < uA (wI m 80 a 2)
    unfold uA at ha ⊢
    rw [ti_sI_ne (by omega)]
    exact ha)).1 b (by
    show b < uA (wI m 80 a 2)
    unfold uA at hb ⊢
    rw [ti_sI_ne (by omega)]
    exact hb) e
  have tail := an_tail bb19 (a := a) (by rw [uA4]; exact ha) pA (fun b hb e => by
    rw [uA4] at hb
    rw [el b hb, el a ha] at e
    exact inj b hb e) (cFac_fr bb fac (kS (by decide +kernel)) (kM (by decide +kernel))) (cWrg_fr bb wrg (kS (by decide +kernel)) (kM (by decide +kernel))) pK pS ((gf _ _ (by omega) (by omega)).trans e57) (by rw [gf 82 a (by omega) (by omega)]; exact r82)
  rw [el a ha] at tail
  exact tail
end
end
section
section
variable {T Tm : Nat → Nat} {S m : AS}
theorem FLR_k {S' m : AS} {p v n : Nat} (f : FLR S m p v n) (hT : TI T S) (tp : T p = 40) (r : sR S' = sR S) (o : ∀ k j, (T k = 40 ∨ T k = 41) → sI S' k j = sI S k j) : FLR S' m p v n := by
  refine ⟨f.1, f.2.1, by rw [o p 5 (Or.inl tp)]; exact f.2.2.1, fun j k hj hk => ?_⟩
  have e : fa S' p j = fa S p j := by
    unfold fa
    rw [r]
  rw [e, o _ k (Or.inr (tyW hT tp hj).2)]
  exact f.2.2.2 j k hj hk
theorem lt1 {a b : Int32} (h0 : 0 ≤ a.toInt) (h : a.toInt < b.toInt) : (a + 1).toInt = a.toInt + 1 ∧ ((a + 1 < b) ↔ ¬ a + 1 = b) := by
  have b1 : b.toInt ≤ 2147483647 := Int32.toInt_le b
  have e : (a + 1).toInt = a.toInt + 1 := by
    rw [Int32.toInt_add, show (1 : Int32).toInt = 1 from by decide]
    exact bm (by omega) (by omega)
  refine ⟨e, ?_⟩
  rw [Int32.lt_iff_toInt_lt, e]
  constructor
  · intro q z
    rw [← z, e] at q
    omega
  · intro q
    have : ¬ a.toInt + 1 = b.toInt := fun z => q (Int32.toInt_inj.mp (e.trans z))
    omega
theorem an_go (hT : TV T S) (hm : TI Tm m) (hM : MI m) (hph : Ph m ≤ 1100) (h : FR S m) (e82 : sI m 57 82 = 0) {a : Nat} (ha : a < uA m) (e80 : sI m 80 a = 0) (r v : Int32) :
    H2 (f_K_answer_B31 S (some 4) r v (some (lel S 18 a)) 1) ((gR m 23 23 (some 57)).bind fun v12 => (aI m 40 v12 (Int32.ofNat a)).bind fun v13 => (gR m 23 24 (some 57)).bind fun v14 => (aI m 40 v14 (Int32.ofNat a)).bind fun v15 => (some (((12 : Int32) * v13) + v15)).bind fun i16 => (gR m 23 27 (some 57)).bind fun v17 => (aI m 40 v17 (Int32.ofNat a)).bind fun v18 => (bI m v17 (Int32.ofNat a) (v18 + (1 : Int32))).bind fun S19 => (gR S19 23 20 (some 57)).bind fun v20 => (aI S19 40 v20 (Int32.ofNat a)).bind fun v21 => (gR S19 23 12 (some 57)).bind fun v22 => (aI S19 40 v22 i16).bind fun v23 => (kr_rv S19 23 (some 57)).bind fun u24 => kr_b2 (f_M_answers S19 (some 57) v21 v23 r v) fun v26 S25 => if v26 = 0 then (gR S25 23 26 (some 57)).bind fun v27 => (aI S25 40 v27 (Int32.ofNat a)).bind fun v28 => (bI S25 v27 (Int32.ofNat a) (v28 + (1 : Int32))).bind fun S29 => (gR S29 23 26 (some 57)).bind fun v30 => (aI S29 40 v30 (Int32.ofNat a)).bind fun v31 => (gR S29 23 13 (some 57)).bind fun v32 => (aI S29 40 v32 i16).bind fun v33 => if v31 = v33 then (gR S29 23 15 (some 57)).bind fun v34 => (aI S29 40 v34 i16).bind fun v35 => (kr_rv S29 23 (some 57)).bind fun u36 => (f_M_go S29 (some 57) (Int32.ofNat a) v35).bind fun S37 => f_M_answer_B168 S37 (some 57) (Int32.ofNat a) else f_M_answer_B168 S29 (some 57) (Int32.ofNat a) else (gR S25 23 29 (some 57)).bind fun v38 => (gR S25 23 12 (some 57)).bind fun v39 => (aI S25 40 v39 i16).bind fun v40 => (gI S25 23 0 (some 57)).bind fun v41 => (bI S25 v38 (((3 : Int32) * Int32.ofNat a) + v40) v41).bind fun S42 => (gR S42 23 14 (some 57)).bind fun v43 => (aI S42 40 v43 i16).bind fun v44 => (kr_rv S42 23 (some 57)).bind fun u45 => (f_M_go S42 (some 57) (Int32.ofNat a) v44).bind fun S46 => f_M_answer_B168 S46 (some 57) (Int32.ofNat a)) (fun x y => AN [eX, eA, eS] x.1 y.1 (sI y.2 57 82) ∧ P_ans x.2 y.2) := by
  have b := FR_BB hT hm h
  have k4 := K4F_of hT.1
  have hmf := MF_of hm
  have h60 : uA m ≤ 60 := (zA b).1
  have n8 : nV m ≤ 8 := (zV b).1
  have m9 : sI m 57 9 = Int32.ofNat (nV m) := (zV b).2.1
  have nS60 : nS m ≤ 60 := (zS b).1
  have tx := tyA b ha
  have ai : (Int32.ofNat a).toNatClampNeg = a := oc (by omega)
  obtain ⟨vv, n, y, v1, v8, n1, n12, r3, m78, r5, r66, rr, r4, rk⟩ := AS_at hM h ha
  obtain ⟨k, hk, m79, m67⟩ := rk e80
  have f : FLR S m (lel S 17 vv) vv n := ⟨⟨n1, n12⟩, v8, r5, rr⟩
  have tv := tyV b v1
  have ix : (Int32.ofNat (12 * vv + k)).toNatClampNeg = 12 * vv + k := oc (by omega)
  obtain ⟨sr, ac, -, -⟩ := hM
  obtain ⟨g0, g2⟩ := (sr (12 * vv + k) (by omega)).1 (Or.inl m67)
  obtain ⟨ff, f3, e68⟩ := ofNat_In (n := 2) (v := sI m 68 (12 * vv + k)) ⟨g0, g2⟩
  have f3 : ff < 3 := by omega
  have k5 : (sI m 67 (12 * vv + k)).toInt < 5 := by
    rw [m67]
    decide
  obtain ⟨in70, in71⟩ := (sr (12 * vv + k) (by omega)).2 k5
  have hV : (vv : Int) < (sI m 57 9).toInt := by
    rw [m9, oi (by omega)]
    omega
  have hN : (sI m 66 vv).toInt = (n : Int) := by rw [r66, oi (by omega)]
  obtain ⟨-, hnx, -⟩ := ac vv n hV hN
  have nxt : ∀ z : Int32, In (-1) 11 z → (∀ t : Nat, z.toInt = (t : Int) → nx m (12 * vv) k t) → z = -1 ∨ ∃ t, t < n ∧ z = Int32.ofNat t := fun z hz hzt => by
    by_cases c : z.toInt < 0
    · exact Or.inl (Int32.toInt_inj.mp (by rw [show (-1 : Int32).toInt = -1 from by decide]; have := hz.1; omega))
    · obtain ⟨t', ht', rfl⟩ := ofNat_In (n := 11) (v := z) ⟨by omega, hz.2⟩
      exact Or.inr ⟨t', nxin_t hnx hk k5 (hzt t' (oi (by omega))), rfl⟩
  obtain ⟨cinj, ⟨i, i6, q0, e75⟩, -, -, -, -⟩ := h.Att.2 a ha
  obtain ⟨c5, c8, c9, c6⟩ := h.Ast.2 a ha
  obtain ⟨x6, x7, ⟨r820, r8211⟩, r810, r811⟩ := c6 e80
  have x6 : sI S (lel S 18 a) 6 = Int32.ofNat k := x6.trans m79
  have c5 : sI S (lel S 18 a) 5 = 0 := c5.trans e80
  rw [m78, m79, nn_o (by omega), nn_o (by omega)] at r811
  obtain ⟨y', y1, y2, y3, y4⟩ := tyM (j := 4) hT.1 tx rfl
  obtain ⟨tP, -, -, -⟩ := kt_P hT.1 h.PF i6
  obtain ⟨t4, -⟩ := kt4 hT.1
  have e821 : (sI m 82 a + 1).toInt = (sI m 82 a).toInt + 1 := by
    rw [Int32.toInt_add, show (1 : Int32).toInt = 1 from by decide]
    exact bm (by omega) (by omega)
  obtain ⟨-, t79, -⟩ := md_at hm (j := 24) (p := 79) rfl rfl
  obtain ⟨-, t81, -⟩ := md_at hm (j := 26) (p := 81) rfl rfl
  obtain ⟨-, t82, -⟩ := md_at hm (j := 27) (p := 82) rfl rfl
  obtain ⟨-, t84, -⟩ := md_at hm (j := 29) (p := 84) rfl rfl
  have hL : sL m 123 = 1200 := by
    obtain ⟨-, t, -⟩ := md_at hm (j := 78) (p := 123) rfl rfl
    exact (hm.t1 123 (by rw [t]; decide)).2.2.2 1200 (by rw [t]; rfl)
  have xne : ∀ {k τ : Nat}, T k = τ → τ ≠ 42 → k ≠ lel S 18 a := fun hk ht z => by
    rw [z, tx] at hk
    exact ht hk.symm
  -- the first steps
  unfold f_K_answer_B31
  refine l_of (st_bx (rS1 S)) (l_of st_rv ?_)
  unfold f_K_takeAnswer
  refine l_of (st_in (st_gRe r3)) (l_of (st_in (st_gIe x6)) (l_of (st_in st_rv) (l_of (st_in (st_hp2 (p_first f hk))) ?_)))
  refine l_of (st_in (st_gIe c8)) (l_of (st_in st_pI) ?_)
  rw [e68]
  obtain ⟨S10, e10⟩ : ∃ S10, S10 = wI S (lel S 18 a) 8 (sI m 82 a + 1) := ⟨_, rfl⟩
  rw [← e10]
  have r10 : sR S10 = sR S := by rw [e10, sR_wI]
  refine l_of (st_in (st_gRe (v := some (29 + 4 * i)) (by rw [r10]; exact q0))) (l_of (st_in st_rv) (l_of (st_eq (b2_as _ _ _)) ?_))
  refine m_of (st_gRe (hmf 23 78 rfl)) (m_of (st_aIe ai m78) (m_of (st_gRe (hmf 24 79 rfl)) (m_of (st_aIe ai m79) (m_of st_val ?_))))
  rw [mulv vv v8 k (by omega)]
  refine m_of (st_gRe (hmf 27 82 rfl)) (m_of (st_aIe (v := sI m 82 a) ai rfl) (m_of (st_bIe ai) ?_))
  obtain ⟨m19, e19⟩ : ∃ m19, m19 = wI m 82 a (sI m 82 a + 1) := ⟨_, rfl⟩
  rw [← e19]
  have rm19 : sR m19 = sR m := by rw [e19, sR_wI]
  have hmf19 := MF_e hmf rm19
  have o19 : ∀ {q j : Nat}, ¬ (q = 82 ∧ j = a) → sI m19 q j = sI m q j := fun z => by
    rw [e19]
    exact ti_sI_ne z
  refine m_of (st_gRe (hmf19 20 75 rfl)) (m_of (st_aIe (v := Int32.ofNat i) ai ((o19 (by omega)).trans e75)) (m_of (st_gRe (hmf19 12 68 rfl)) (m_of (st_aIe (v := Int32.ofNat ff) ix ((o19 (by omega)).trans e68)) (m_of st_rv ?_))))
  -- the answer itself
  have k10 : ∀ {cs : List Nat}, ¬ 4208 ∈ cs → Kp T T cs S S10 := fun q => by
    rw [e10]
    exact Kp_wI _ tx (by rw [show cl 42 8 = 4208 by decide]; exact q)
  have k19 : ∀ {cs : List Nat}, ¬ 12700 ∈ cs → Kp Tm Tm cs m m19 := fun q => by
    rw [e19]
    exact Kp_wA _ t82 (by decide) q
  have hT10 : TI T S10 := by
    rw [e10]
    exact TIwI hT.1 tx (fun lo hi e => by cases e) (fun n lo hi e => by cases e) (by omega)
  have hm19 : TI Tm m19 := by
    rw [e19]
    exact TIwI hm t82 (fun lo hi e => by cases e) (fun n lo hi e => by cases e) (by omega)
  have ph19 : Ph m19 = Ph m := by
    rw [e19]
    exact Ph_wI hm.t9 t82 (by unfold phc; omega)
  have nS19 : nS m19 = nS m := by
    unfold nS
    rw [o19 (by omega)]
  have both : H2 (f_K_isAnsweredRight S10 (some 4) (some (29 + 4 * i)) (Int32.ofNat ff) r v) (f_M_answers m19 (some 57) (Int32.ofNat i) (Int32.ofNat ff) r v) (fun x y => (∃ w, (w = 0 ∨ w = 1) ∧ x.1 = w ∧ y.1 = w ∧ RT T (sI m19 89) (nS m19) S10 m19 x.2 y.2) ∧ Rl T kw_K59 S10 0 0 T x.2 ∧ Rl Tm kw_M44 m19 1 0 Tm y.2) := fun x y hx hy => by
    refine ⟨h_right hT10 (cPF_fr b h.PF (k10 (by decide)) (Kp_rf Tm _ m)) hmf19 (cFac_fr b h.Fac (k10 (by decide)) (k19 (by decide))) (cWrg_fr b h.Wrg (k10 (by decide)) (k19 (by decide))) (cNW_fr b h.NW (k10 (by decide)) (k19 (by decide))) (cAU_fr b h.AU (k10 (by decide)) (k19 (by decide))) (by rw [nS19]; exact nS60) (by rw [e19]; exact hL) i6 f3 r v x y hx hy, ?_, ?_⟩
    · obtain ⟨q, hq, g, -⟩ := t_K_isAnsweredRight hT10 (a0 := some 4) (a1 := some (29 + 4 * i)) (a2 := Int32.ofNat ff) (a3 := r) (a4 := v) ⟨_, rfl, hT10.t9.2.2.2.2.1, by decide⟩ ⟨_, rfl, tP, by decide⟩
      rw [hx] at hq
      cases hq
      exact g
    · obtain ⟨q, hq, g, -⟩ := t_M_answers hm19 (a0 := some 57) (a1 := Int32.ofNat i) (a2 := Int32.ofNat ff) (a3 := r) (a4 := v) ⟨_, rfl, hm19.t9.1, by decide⟩ ⟨by rw [oi (by omega)]; omega, by rw [oi (by omega)]; omega⟩ ⟨by rw [oi (by omega)]; omega, by rw [oi (by omega)]; omega⟩ (by omega)
      rw [hy] at hq
      cases hq
      exact g
  refine h2_22 both (fun w S13 w' m25 p => ?_)
  obtain ⟨⟨w0, w01, e1, e2, rt⟩, g13, gm⟩ := p
  have e1 : w = w0 := e1
  have e2 : w' = w0 := e2
  have g13 : Rl T kw_K59 S10 0 0 T S13 := g13
  have gm : Rl Tm kw_M44 m19 1 0 Tm m25 := gm
  rw [e1, e2]
  obtain ⟨⟨rs, ls, oS⟩, ⟨rm, lm, oM⟩, fac13, wrg13, au13⟩ := rt
  have rs : sR S13 = sR S10 := rs
  have rm : sR m25 = sR m19 := rm
  have r13 : sR S13 = sR S := rs.trans r10
  have rm25 : sR m25 = sR m := rm.trans rm19
  have hmf25 := MF_e hmf rm25
  have hT13 : TV T S13 := ⟨g13.1, hT.2⟩
  have hm25 : TI Tm m25 := gm.1
  have o13 : ∀ {k τ : Nat} (j : Nat), T k = τ → τ ≠ 0 → ¬ RW τ j → ¬ (k = lel S 18 a ∧ j = 8) → sI S13 k j = sI S k j := fun {k τ} j hk h0 hw z => by
    have e : sI S13 k j = sI S10 k j := oS k j (by rw [hk]; exact h0) (by rw [hk]; exact hw)
    rw [e, e10, ti_sI_ne z]
  have om25 : ∀ {q j : Nat}, ¬ RWm q j → ¬ (q = 82 ∧ j = a) → sI m25 q j = sI m q j := fun hw z => by
    have e : sI m25 _ _ = sI m19 _ _ := oM _ _ hw
    rw [e, o19 z]
  have rwA : ∀ j, ¬ RW 42 j := fun j => by unfold RW; omega
  have rwm : ∀ {q j : Nat}, ¬ (q = 58 ∨ q = 59 ∨ q = 60 ∨ q = 61 ∨ q = 123 ∨ q = 124 ∨ q = 125 ∨ q = 57) → ¬ RWm q j := fun z => by unfold RWm; omega
  have s8 : sI S13 (lel S 18 a) 8 = sI m 82 a + 1 := by
    have e : sI S13 (lel S 18 a) 8 = sI S10 (lel S 18 a) 8 := oS _ _ (by rw [tx]; decide) (by rw [tx]; exact rwA 8)
    rw [e, e10, ti_sI_eq]
  have m82 : sI m25 82 a = sI m 82 a + 1 := by
    have e : sI m25 82 a = sI m19 82 a := oM _ _ (rwm (by omega))
    rw [e, e19, ti_sI_eq]
  have kS13 : ∀ {cs : List Nat}, ¬ 4208 ∈ cs → cs.all (fun z => !kw_K59.contains z) = true → Kp T T cs S S13 := fun q1 q2 => Kp_tr (k10 q1) (Kp_of g13 q2)
  have kM25 : ∀ {cs : List Nat}, ¬ 12700 ∈ cs → cs.all (fun z => !kw_M44.contains z) = true → Kp Tm Tm cs m m25 := fun q1 q2 => Kp_tr (k19 q1) (Kp_of gm q2)
  have bb13 : BB T Tm S13 m25 := BB_fr b hT13 hm25 (kS13 (by decide) (by decide +kernel)) (kM25 (by decide) (by decide +kernel))
  have nS25 : nS m25 = nS m19 := by
    unfold nS
    rw [show sI m25 57 30 = sI m19 57 30 from oM _ _ (by unfold RWm; omega)]
  have fac13 : cFac S13 m25 := fac13
  have wrg13 : cWrg S13 m25 := wrg13
  have cAU13 : cAU S13 m25 := by
    unfold cAU
    rw [nS25]
    exact AU_cong au13 rfl rfl rfl rfl rfl (funext fun j => oM 89 j (rwm (by omega)))
  have uA25 : uA m25 = uA m := by
    unfold uA
    rw [om25 (by unfold RWm; omega) (by omega)]
  have nV25 : nV m25 = nV m := by
    unfold nV
    rw [om25 (by unfold RWm; omega) (by omega)]
  have ph25 : Ph m25 ≤ 1101 := by
    have := gm.2.2.2.1.2.2.1
    omega
  have el13 : ∀ l j, lel S13 l j = lel S l j := fun l j => by
    unfold lel
    rw [r13]
  have n82 : sI m25 57 82 = 0 := (om25 (by unfold RWm; omega) (by omega)).trans e82
  rcases w01 with rfl | rfl
  · -- wrong
    refine l_of (st_in (st_T rfl)) (m_of (st_T rfl) ?_)
    have x7' : sI S13 (lel S 18 a) 7 = sI m 81 a := (o13 7 tx (by decide) (rwA 7) (by omega)).trans x7
    have y81 : sI m25 81 a = sI m 81 a := om25 (rwm (by omega)) (by omega)
    obtain ⟨e811, lt69⟩ := lt1 r810 r811
    refine l_of (st_in (st_gIe x7')) (l_of (st_in st_pI) ?_)
    refine m_of (st_gRe (hmf25 26 81 rfl)) (m_of (st_aIe ai y81) (m_of (st_bIe ai) ?_))
    obtain ⟨S16, e16⟩ : ∃ S16, S16 = wI S13 (lel S 18 a) 7 (sI m 81 a + 1) := ⟨_, rfl⟩
    obtain ⟨m29, e29⟩ : ∃ m29, m29 = wI m25 81 a (sI m 81 a + 1) := ⟨_, rfl⟩
    rw [← e16, ← e29]
    have r16 : sR S16 = sR S := by rw [e16, sR_wI, r13]
    have rm29 : sR m29 = sR m := by rw [e29, sR_wI, rm25]
    have hmf29 := MF_e hmf rm29
    have o16 : ∀ {k τ : Nat} (j : Nat), T k = τ → τ ≠ 0 → ¬ RW τ j → ¬ (k = lel S 18 a ∧ (j = 7 ∨ j = 8)) → sI S16 k j = sI S k j := fun {k τ} j hk h0 hw z => by
      rw [e16, ti_sI_ne (by omega), o13 j hk h0 hw (by omega)]
    have o29 : ∀ {q j : Nat}, ¬ RWm q j → ¬ ((q = 82 ∨ q = 81) ∧ j = a) → sI m29 q j = sI m q j := fun hw z => by
      rw [e29, ti_sI_ne (by omega), om25 hw (by omega)]
    have x16 : sI S16 (lel S 18 a) 7 = sI m 81 a + 1 := by rw [e16, ti_sI_eq]
    have y29 : sI m29 81 a = sI m 81 a + 1 := by rw [e29, ti_sI_eq]
    have s816 : sI S16 (lel S 18 a) 8 = sI m29 82 a := by rw [e16, ti_sI_ne (by omega), s8, e29, ti_sI_ne (by omega), m82]
    have m8229 : sI m29 82 a = sI m 82 a + 1 := by rw [e29, ti_sI_ne (by omega), m82]
    have s616 : sI S16 (lel S 18 a) 6 = Int32.ofNat k := (o16 6 tx (by decide) (rwA 6) (by omega)).trans x6
    have f16 : FLR S16 m (lel S 17 vv) vv n := FLR_k f hT.1 tv r16 (fun k' j' hk' => by
      rcases hk' with hk' | hk'
      · exact o16 j' hk' (by decide) (by unfold RW; omega) (fun z => xne hk' (by decide) z.1)
      · exact o16 j' hk' (by decide) (by unfold RW; omega) (fun z => xne hk' (by decide) z.1))
    have kS16 : ∀ {cs : List Nat}, ¬ 4207 ∈ cs → Kp T T cs S13 S16 := fun q => by
      rw [e16]
      exact Kp_wI _ tx (by rw [show cl 42 7 = 4207 by decide]; exact q)
    have kM29 : ∀ {cs : List Nat}, ¬ 12600 ∈ cs → Kp Tm Tm cs m25 m29 := fun q => by
      rw [e29]
      exact Kp_wA _ t81 (by decide) q
    have hT16 : TV T S16 := ⟨by
      rw [e16]
      exact TIwI hT13.1 tx (fun lo hi e => by cases e) (fun n lo hi e => by cases e) (by omega), hT.2⟩
    have hm29 : TI Tm m29 := by
      rw [e29]
      exact TIwI hm25 t81 (fun lo hi e => by cases e) (fun n lo hi e => by cases e) (by omega)
    have bb16 : BB T Tm S16 m29 := BB_fr bb13 hT16 hm29 (kS16 (by decide)) (kM29 (by decide))
    have fac16 := cFac_fr bb13 fac13 (kS16 (by decide)) (kM29 (by decide))
    have wrg16 := cWrg_fr bb13 wrg13 (kS16 (by decide)) (kM29 (by decide))
    have oSb : ∀ c j, c < uA m → c ≠ a → sI S16 (lel S 18 c) j = sI S (lel S 18 c) j := fun c j hc hca => o16 j (tyA b hc) (by decide) (rwA j) (fun z => hca (cinj c hc z.1))
    have oMb : ∀ q j, (q = 79 ∨ q = 80 ∨ q = 81 ∨ q = 82 ∨ q = 83) → j ≠ a → sI m29 q j = sI m q j := fun q j hq hj => o29 (rwm (by omega)) (by omega)
    have x916 : sI S16 (lel S 18 a) 9 = sI m29 83 a := (o16 9 tx (by decide) (rwA 9) (by omega)).trans (c9.trans (o29 (rwm (by omega)) (by omega)).symm)
    have hF16 : FR (wI S16 (lel S 18 a) 5 2) (wI m29 80 a 2) := an_mask hT hm h ha bb16 (Kp_tr (kS13 (by decide) (by decide +kernel)) (kS16 (by decide))) (Kp_tr (kM25 (by decide) (by decide +kernel)) (kM29 (by decide))) fac16 wrg16
      (cAsh_fr bb13 (cAsh_fr b h.Ash (kS13 (by decide) (by decide +kernel)) (kM25 (by decide) (by decide +kernel))) (kS16 (by decide)) (kM29 (by decide))) (cSsh_fr bb13 (cSsh_fr b h.Ssh (kS13 (by decide) (by decide +kernel)) (kM25 (by decide) (by decide +kernel))) (kS16 (by decide)) (kM29 (by decide))) (cAU_fr bb13 cAU13 (kS16 (by decide)) (kM29 (by decide))) oSb oMb s816 x916
    have s516 : sI S16 (lel S 18 a) 5 = 0 := (o16 5 tx (by decide) (rwA 5) (by omega)).trans c5
    have m8029 : sI m29 80 a = 0 := (o29 (rwm (by omega)) (by omega)).trans e80
    have uA29 : uA m29 = uA m := by
      unfold uA
      rw [o29 (by unfold RWm; omega) (by omega)]
    have nV29 : nV m29 = nV m := by
      unfold nV
      rw [o29 (by unfold RWm; omega) (by omega)]
    have el16 : ∀ l j, lel S16 l j = lel S l j := fun l j => by
      unfold lel
      rw [r16]
    have same : same5 m m29 := fun p i hp => o29 (by unfold RWm; omega) (by omega)
    have ph29 : Ph m29 ≤ 1150 := by
      rw [e29, Ph_wI hm25.t9 t81 (by unfold phc; omega)]
      omega
    have r8229 : 0 ≤ (sI m29 82 a).toInt ∧ (sI m29 82 a).toInt ≤ 12 := by
      rw [m8229, e821]
      omega
    have n8229 : sI m29 57 82 = 0 := (o29 (by unfold RWm; omega) (by omega)).trans e82
    refine l_of (st_in (st_gIe x16)) (l_of (st_in (st_gIe s616)) (l_of (st_in st_rv) (l_of (st_in (st_hp2 (p_second f16 hk))) ?_)))
    refine m_of (st_gRe (hmf29 26 81 rfl)) (m_of (st_aIe ai y29) (m_of (st_gRe (hmf29 13 69 rfl)) (m_of (st_aIe (v := sI m 69 (12 * vv + k)) ix (o29 (rwm (by omega)) (by omega))) ?_)))
    by_cases c : sI m 81 a + 1 < sI m 69 (12 * vv + k)
    · refine l_of (st_in (st_T c)) (m_of (st_F (lt69.mp c)) ?_)
      obtain ⟨-, t80, -⟩ := md_at hm (j := 25) (p := 80) rfl rfl
      have bbm := FR_BB (T := T) (Tm := Tm) ⟨TIwI hT16.1 tx (fun lo hi e => by cases e) (fun n lo hi e => by cases e) (by omega), hT.2⟩ (TIwI hm29 t80 (fun lo hi e => by cases e) (fun n lo hi e => by cases e; decide) (by omega)) hF16
      obtain ⟨-, -, kn16, ses16⟩ := FP_AN bbm ⟨hF16.Fac, hF16.Wrg, hF16.Kn, FR_ses hF16⟩ (Kp_rev (Kp_wI (2 : Int32) tx (by decide +kernel))) (Kp_rev (Kp_wA (2 : Int32) t80 (by decide) (by decide +kernel)))
      have tail := an_tail bb16 (a := a) (by rw [uA29]; exact ha) (asm_mk (Asm_of h.Ast) uA29 ha (fun c _ => el16 18 c) oSb oMb (fun j => o29 (rwm (by omega)) (by omega)) (fun j => o29 (rwm (by omega)) (by omega)) ⟨s516.trans m8029.symm, s816, x916, fun _ => ⟨?_, x16.trans y29.symm, ?_, ?_⟩⟩) (fun c hc e => by
        rw [uA29] at hc
        rw [el16, el16] at e
        exact cinj c hc e) fac16 wrg16 kn16 ses16 n8229 r8229
      · rw [el16] at tail
        exact tail
      · rw [s616, o29 (rwm (by omega)) (by omega), m79]
      · rw [y29, e811]
        omega
      · rw [y29, o29 (q := 79) (rwm (by omega)) (by omega), o29 (q := 78) (rwm (by omega)) (by omega), o29 (q := 69) (rwm (by omega)) (by omega), m78, m79, nn_o (by omega), nn_o (by omega)]
        exact Int32.lt_iff_toInt_lt.mp c
    · have ce : sI m 81 a + 1 = sI m 69 (12 * vv + k) := Decidable.not_not.mp (fun z => c (lt69.mpr z))
      refine l_of (st_in (st_F c)) (m_of (st_T ce) ?_)
      refine l_of (st_in (st_gIe s616)) (l_of (st_in st_rv) (l_of (st_in (st_hp2 (p_next f16 hk 0))) (l_of (st_in st_rv) (l_of (st_eq (Option.bind_assoc _ _ _)) ?_))))
      rw [if_pos rfl]
      refine m_of (st_gRe (hmf29 15 71 rfl)) (m_of (st_aIe (v := sI m 71 (12 * vv + k)) ix (o29 (rwm (by omega)) (by omega))) (m_of st_rv ?_))
      have way := an_way bb16 (a := a) (by rw [uA29]; exact ha) (by rw [el16]; exact hF16) (by rw [el16]; exact s516) m8029 (SR_same sr same) (AC_same ac same) ph29 (v := vv) (n := n) ((o29 (rwm (by omega)) (by omega)).trans m78) (by rw [nV29]; exact v1) ((o29 (rwm (by omega)) (by omega)).trans r66) n12 fac16 wrg16 n8229 r8229 (nxt _ in71 (fun t ht => Or.inr ht))
      rw [el16] at way
      exact way
  · -- right
    refine l_of (st_in (st_F one0)) (m_of (st_F one0) ?_)
    have now : sI S13 4 0 = sI m 57 0 := (o13 0 t4 (by decide) (by unfold RW; omega) (fun z => xne t4 (by decide) z.1)).trans h.NW.1
    have pq : T (mn S (lel S 18 a) 4) = 48 := y4
    refine l_of (st_in (st_gRe (v := some y') (by rw [r13]; exact y1))) (l_of (st_in (st_gIe now)) (l_of (st_in st_rv) (l_of (st_in (st_hp (p_show (p := mn S (lel S 18 a) 4) (by rw [r13]; exact y3) f3))) ?_)))
    refine m_of (st_gRe (hmf25 29 84 rfl)) (m_of (st_gRe (hmf25 12 68 rfl)) (m_of (st_aIe (v := Int32.ofNat ff) ix ((om25 (rwm (by omega)) (by omega)).trans e68)) (m_of (st_gIe (v := sI m 57 0) (om25 (by unfold RWm; omega) (by omega))) (m_of (st_bIe (ix3 a (by omega) ff f3)) ?_))))
    obtain ⟨S31, e31⟩ : ∃ S31, S31 = wI S13 (mn S (lel S 18 a) 4) ff (sI m 57 0) := ⟨_, rfl⟩
    obtain ⟨m42, e42⟩ : ∃ m42, m42 = wI m25 84 (3 * a + ff) (sI m 57 0) := ⟨_, rfl⟩
    rw [← e31, ← e42]
    have r31 : sR S31 = sR S := by rw [e31, sR_wI, r13]
    have rm42 : sR m42 = sR m := by rw [e42, sR_wI, rm25]
    have hmf42 := MF_e hmf rm42
    have o31 : ∀ {k τ : Nat} (j : Nat), T k = τ → τ ≠ 0 → τ ≠ 48 → ¬ RW τ j → ¬ (k = lel S 18 a ∧ j = 8) → sI S31 k j = sI S k j := fun {k τ} j hk h0 h48 hw z => by
      rw [e31, ti_sI_ne (fun y => h48 (by rw [← hk, y.1, pq])), o13 j hk h0 hw z]
    have o42 : ∀ {q j : Nat}, ¬ RWm q j → ¬ (q = 82 ∧ j = a) → q ≠ 84 → sI m42 q j = sI m q j := fun hw z z2 => by
      rw [e42, ti_sI_ne (by omega), om25 hw z]
    have s831 : sI S31 (lel S 18 a) 8 = sI m42 82 a := by
      rw [e31, ti_sI_ne (fun z => xne pq (by decide) z.1.symm), s8, e42, ti_sI_ne (by omega), m82]
    have m8242 : sI m42 82 a = sI m 82 a + 1 := by rw [e42, ti_sI_ne (by omega), m82]
    have s631 : sI S31 (lel S 18 a) 6 = Int32.ofNat k := (o31 6 tx (by decide) (by decide) (rwA 6) (by omega)).trans x6
    have f31 : FLR S31 m (lel S 17 vv) vv n := FLR_k f hT.1 tv r31 (fun k' j' hk' => by
      rcases hk' with hk' | hk'
      · exact o31 j' hk' (by decide) (by decide) (by unfold RW; omega) (fun z => xne hk' (by decide) z.1)
      · exact o31 j' hk' (by decide) (by decide) (by unfold RW; omega) (fun z => xne hk' (by decide) z.1))
    have kS31 : ∀ {cs : List Nat}, ¬ 4800 ∈ cs → Kp T T cs S13 S31 := fun q => by
      rw [e31]
      exact Kp_wA _ pq (by decide) q
    have kM42 : ∀ {cs : List Nat}, ¬ 12900 ∈ cs → Kp Tm Tm cs m25 m42 := fun q => by
      rw [e42]
      exact Kp_wA _ t84 (by decide) q
    have hT31 : TV T S31 := ⟨by
      rw [e31]
      exact TIwI hT13.1 pq (fun lo hi e => by cases e) (fun n lo hi e => by cases e) (by omega), hT.2⟩
    have hm42 : TI Tm m42 := by
      rw [e42]
      exact TIwI hm25 t84 (fun lo hi e => by cases e) (fun n lo hi e => by cases e) (by omega)
    have bb31 : BB T Tm S31 m42 := BB_fr bb13 hT31 hm42 (kS31 (by decide)) (kM42 (by decide))
    have fac31 := cFac_fr bb13 fac13 (kS31 (by decide)) (kM42 (by decide))
    have wrg31 := cWrg_fr bb13 wrg13 (kS31 (by decide)) (kM42 (by decide))
    have el31 : ∀ l j, lel S31 l j = lel S l j := fun l j => by
      unfold lel
      rw [r31]
    have em31 : ∀ p j, mn S31 p j = mn S p j := fun p j => by
      unfold mn
      rw [r31]
    have uA42 : uA m42 = uA m := by
      unfold uA
      rw [o42 (by unfold RWm; omega) (by omega) (by omega)]
    have nV42 : nV m42 = nV m := by
      unfold nV
      rw [o42 (by unfold RWm; omega) (by omega) (by omega)]
    have nS42 : nS m42 = nS m := by
      unfold nS
      rw [o42 (by unfold RWm; omega) (by omega) (by omega)]
    have w48 : ∀ {k : Nat} (j : Nat), T k = 48 → k ≠ mn S (lel S 18 a) 4 → sI S31 k j = sI S k j := fun {k} j hk hne => by
      rw [e31, ti_sI_ne (fun z => hne z.1), o13 j hk (by decide) (by unfold RW; omega) (fun z => xne hk (by decide) z.1)]
    have ash31 : cAsh S31 m42 := fun c hc j hj => by
      rw [uA42] at hc
      obtain ⟨z', z1, z2, z3, z4⟩ := tyM (j := 4) hT.1 (tyA b hc) rfl
      rw [el31, em31]
      by_cases ca : c = a
      · subst ca
        by_cases cj : j = ff
        · subst cj
          rw [e31, e42, ti_sI_eq, ti_sI_eq]
          exact ⟨rfl, Or.inr h.NW.2⟩
        · rw [e31, ti_sI_ne (by omega), e42, ti_sI_ne (by omega), o13 j z4 (by decide) (by unfold RW; omega) (fun z => xne z4 (by decide) z.1), om25 (rwm (by omega)) (by omega)]
          exact h.Ash c hc j hj
      · rw [w48 j z4 (fun z => ca (h.Min.1 c a hc ha z)), e42, ti_sI_ne (by omega), om25 (rwm (by omega)) (by omega)]
        exact h.Ash c hc j hj
    have ssh31 : cSsh S31 m42 := fun c hc j hj => by
      rw [nS42] at hc
      obtain ⟨z', z1, z2, z3, z4⟩ := tyM (j := 3) hT.1 (tyS b hc) rfl
      rw [el31, em31, w48 j z4 (fun z => h.Min.2.2 a c ha hc z.symm), o42 (rwm (by omega)) (by omega) (by omega)]
      exact h.Ssh c hc j hj
    have oSb : ∀ c j, c < uA m → c ≠ a → sI S31 (lel S 18 c) j = sI S (lel S 18 c) j := fun c j hc hca => o31 j (tyA b hc) (by decide) (by decide) (rwA j) (fun z => hca (cinj c hc z.1))
    have oMb : ∀ q j, (q = 79 ∨ q = 80 ∨ q = 81 ∨ q = 82 ∨ q = 83) → j ≠ a → sI m42 q j = sI m q j := fun q j hq hj => o42 (rwm (by omega)) (by omega) (by omega)
    have x931 : sI S31 (lel S 18 a) 9 = sI m42 83 a := (o31 9 tx (by decide) (by decide) (rwA 9) (by omega)).trans (c9.trans (o42 (rwm (by omega)) (by omega) (by omega)).symm)
    have hF31 : FR (wI S31 (lel S 18 a) 5 2) (wI m42 80 a 2) := an_mask hT hm h ha bb31 (Kp_tr (kS13 (by decide) (by decide +kernel)) (kS31 (by decide))) (Kp_tr (kM25 (by decide) (by decide +kernel)) (kM42 (by decide))) fac31 wrg31 ash31 ssh31 (cAU_fr bb13 cAU13 (kS31 (by decide)) (kM42 (by decide))) oSb oMb s831 x931
    have s531 : sI S31 (lel S 18 a) 5 = 0 := (o31 5 tx (by decide) (by decide) (rwA 5) (by omega)).trans c5
    have m8042 : sI m42 80 a = 0 := (o42 (rwm (by omega)) (by omega) (by omega)).trans e80
    have same : same5 m m42 := fun p i hp => o42 (by unfold RWm; omega) (by omega) (by omega)
    have ph42 : Ph m42 ≤ 1150 := by
      rw [e42, Ph_wI hm25.t9 t84 (by unfold phc; omega)]
      omega
    have r8242 : 0 ≤ (sI m42 82 a).toInt ∧ (sI m42 82 a).toInt ≤ 12 := by
      rw [m8242, e821]
      omega
    have n8242 : sI m42 57 82 = 0 := (o42 (by unfold RWm; omega) (by omega) (by omega)).trans e82
    refine l_of (st_in (st_gIe s631)) (l_of (st_in st_rv) (l_of (st_in (st_hp2 (p_next f31 hk 1))) (l_of (st_in st_rv) (l_of (st_eq (Option.bind_assoc _ _ _)) ?_))))
    rw [if_neg one0]
    refine m_of (st_gRe (hmf42 14 70 rfl)) (m_of (st_aIe (v := sI m 70 (12 * vv + k)) ix (o42 (rwm (by omega)) (by omega) (by omega))) (m_of st_rv ?_))
    have way := an_way bb31 (a := a) (by rw [uA42]; exact ha) (by rw [el31]; exact hF31) (by rw [el31]; exact s531) m8042 (SR_same sr same) (AC_same ac same) ph42 (v := vv) (n := n) ((o42 (rwm (by omega)) (by omega) (by omega)).trans m78) (by rw [nV42]; exact v1) ((o42 (rwm (by omega)) (by omega) (by omega)).trans r66) n12 fac31 wrg31 n8242 r8242 (nxt _ in70 (fun t ht => Or.inl ht))
    rw [el31] at way
    exact way
end
end
section
section
variable {T Tm : Nat → Nat} {S m : AS}
theorem h_answer (hT : TV T S) (hm : TI Tm m) (hM : MI m) (hph : Ph m ≤ 1100) (h : FR S m) (a r v : Int32) : H2 (f_K_answer S (some 4) a r v) (f_M_answer m (some 57) a r v) (fun x y => AN [eX, eA, eS] x.1 y.1 (sI y.2 57 82) ∧ P_ans x.2 y.2) := by
  have b := FR_BB hT hm h
  have hmf := MF_of hm
  have no1 : ∀ y2 y3, H2 (some ((Sum.inr eX : Int32 ⊕ String), wX S)) (f_M_answer_B37 m (some 57) a r v (some 57) 0 y2 y3) (fun x y => AN [eX, eA, eS] x.1 y.1 (sI y.2 57 82) ∧ P_ans x.2 y.2) := fun y2 y3 => by
    unfold f_M_answer_B37
    refine m_of st_rv (m_p2 p_mayA (fun w m' e => ?_))
    rw [if_pos rfl] at e
    cases e
    exact m_of (st_T rfl) (h2_ret ⟨AN_e 0 rfl (ti_sI_eq _ _ _ _), FR_ans (FR_X hT (TI_t hm 1) (FR_t hT hm h 1))⟩)
  have no2 : ∀ y3, H2 (some ((Sum.inr eA : Int32 ⊕ String), wX S)) (f_M_answer_B37 m (some 57) a r v (some 57) 1 0 y3) (fun x y => AN [eX, eA, eS] x.1 y.1 (sI y.2 57 82) ∧ P_ans x.2 y.2) := fun y3 => by
    unfold f_M_answer_B37
    refine m_of st_rv (m_p2 p_mayA (fun w m' e => ?_))
    rw [if_neg one0, if_pos rfl] at e
    cases e
    exact m_of (st_T rfl) (h2_ret ⟨AN_e 1 rfl (ti_sI_eq _ _ _ _), FR_ans (FR_X hT (TI_t hm 2) (FR_t hT hm h 2))⟩)
  have no3 : H2 (some ((Sum.inr eS : Int32 ⊕ String), wX S)) (f_M_answer_B37 m (some 57) a r v (some 57) 1 1 0) (fun x y => AN [eX, eA, eS] x.1 y.1 (sI y.2 57 82) ∧ P_ans x.2 y.2) := by
    unfold f_M_answer_B37
    refine m_of st_rv (m_p2 p_mayA (fun w m' e => ?_))
    rw [if_neg one0, if_neg one0, if_pos rfl] at e
    cases e
    exact m_of (st_T rfl) (h2_ret ⟨AN_e 2 rfl (ti_sI_eq _ _ _ _), FR_ans (FR_X hT (TI_t hm 3) (FR_t hT hm h 3))⟩)
  unfold f_K_answer f_M_answer
  refine l_of st_rv (m_of st_rv (m_p2 (x_MA b a) (fun w S2 p => ?_)))
  refine l_bx (fun v' S' e => ?_) (fun v' S' e => ?_)
  · rcases x_fA b a _ e with ⟨s, s1, ea, e2⟩ | ⟨no, e2⟩
    · cases e2
      rcases p with ⟨-, p2⟩ | ⟨p1, -⟩
      · cases p2
        have h60 : uA m ≤ 60 := (zA b).1
        have ai : a.toNatClampNeg = s := by rw [ea]; exact oc (by omega)
        have c5 := (h.Ast.2 s s1).1
        refine l_of (st_b2 (q_win S v 0 9999)) (m_of (st_b2 (q_isIn m v 0 9999)) (m_of (st_F one0) (m_of (st_gRe (hmf 25 80 rfl)) (m_of (st_aIe (v := sI m 80 s) ai rfl) ?_))))
        by_cases c : 0 ≤ v ∧ v ≤ 9999
        · rw [if_pos c]
          refine l_of (st_bx (rA1 S)) (l_of (st_gIe c5) ?_)
          by_cases d : sI m 80 s = 0
          · refine l_of (st_T d) (m_of (st_T d) ?_)
            unfold f_M_answer_B37
            refine m_of st_rv (m_p2 p_mayA (fun w m' e => ?_))
            rw [if_neg one0, if_neg one0, if_neg one0] at e
            cases e
            refine m_of (st_F one0) ?_
            have uA0 : uA (wI m 57 82 0) = uA m := by
              unfold uA
              rw [lv0 m (by omega) 0]
            rw [ea]
            exact an_go hT (TI_t hm 0) (MI_t hm hM 0) (by rw [Ph_wI hm.t9 hm.t9.1 (by unfold phc; omega)]; exact hph) (FR_t hT hm h 0) (ti_sI_eq _ _ _ _) (by rw [uA0]; exact s1) ((lv0 m (by omega) 0).trans d) r v
          · refine l_of (st_F d) (m_of (st_F d) ?_)
            unfold f_K_answer_B31 f_M_answer_B36
            exact l_of (st_bxe (rS0 S)) no3
        · rw [if_neg c]
          refine l_of (st_bxe (rA0 S)) ?_
          unfold f_M_answer_B36
          exact m_if (fun _ => no2 1) (fun _ => no2 0)
      · exact absurd ⟨s, s1, ea⟩ p1
    · cases e2
  · rcases x_fA b a _ e with ⟨s, s1, ea, e2⟩ | ⟨no, e2⟩
    · cases e2
    · cases e2
      rcases p with ⟨p1, -⟩ | ⟨-, p2⟩
      · exact absurd p1 no
      · cases p2
        unfold f_M_answer_B36
        exact m_of (st_b2 (q_isIn m v 0 9999)) (m_of (st_T rfl) (no1 _ 0))
end
end
section
/-! ===== the draft: the class's and the reference's steps, exactly ===== -/
def DR (T : Nat → Nat) (S : AS) (f n : Nat) (r : Nat → Nat) : Prop :=
  sR S 4 5 = some f ∧ T f = 40 ∧ n ≤ 12 ∧ sI S f 5 = Int32.ofNat n ∧ sI S 66 8 = Int32.ofNat n ∧
  (∀ j, j < 5 → sR S f j = some (r j) ∧ T (r j) = 41) ∧ (∀ i j, i < 5 → j < 5 → r i = r j → i = j) ∧
  (∀ j k, j < 5 → k < n → sI S (r j) k = sI S (67 + j) (96 + k))
def kr_rc5 : List Nat := [2002, 10009, 50105, 4005, 4100, 54000, 54001, 54002, 54003, 54004, 11000, 11100, 11200, 11300, 11400, 11500]
theorem rc_no {w : List Nat} (h : kr_rc5.all (fun z => !w.contains z) = true) {z : Nat} (hz : z ∈ kr_rc5) : ¬ z ∈ w := fun q => by
  have := List.all_eq_true.mp h z hz
  rw [List.contains_iff_mem.mpr q] at this
  cases this
theorem md_ty {T : Nat → Nat} {S : AS} (hT : TI T S) {j τ p : Nat} (a : ft 100 j = some τ) (b : sg τ = some p) : T p = τ ∧ τ ≠ 0 := sg_p hT ⟨57, rfl, hT.t9.1, by decide⟩ a b
theorem DR_fr {T T' : Nat → Nat} {w : List Nat} {S S' : AS} {c s f n : Nat} {r : Nat → Nat} (h : DR T S f n r) (hR : Rl T w S c s T' S') (hw : kr_rc5.all (fun z => !w.contains z) = true) : DR T' S' f n r := by
  have hT : TI T S := hR.2.2.2.2.2.2.2.2
  obtain ⟨a1, a2, a3, a4, a5, a6, a7, a8⟩ := h
  have no := fun {z} => rc_no hw (z := z)
  have hm : ∀ p τ, 110 ≤ τ → τ < 116 → T p = τ → ∀ i, sI S' p i = sI S p i := fun p τ h1 h2 e i => by
    refine hR.fI p i (by rw [e]; omega) ?_
    rw [e, show cl τ i = 100 * τ from if_neg (by
      have : τ = 110 ∨ τ = 111 ∨ τ = 112 ∨ τ = 113 ∨ τ = 114 ∨ τ = 115 := by omega
      rcases this with rfl | rfl | rfl | rfl | rfl | rfl <;> decide)]
    have : τ = 110 ∨ τ = 111 ∨ τ = 112 ∨ τ = 113 ∨ τ = 114 ∨ τ = 115 := by omega
    rcases this with rfl | rfl | rfl | rfl | rfl | rfl <;> exact no (by decide)
  have m : ∀ j, j < 6 → T (66 + j) = 110 + j := fun j hj => by
    match j, hj with
    | 0, _ => exact (md_ty hT (j := 10) rfl rfl).1
    | 1, _ => exact (md_ty hT (j := 11) rfl rfl).1
    | 2, _ => exact (md_ty hT (j := 12) rfl rfl).1
    | 3, _ => exact (md_ty hT (j := 13) rfl rfl).1
    | 4, _ => exact (md_ty hT (j := 14) rfl rfl).1
    | 5, _ => exact (md_ty hT (j := 15) rfl rfl).1
  have e4 : T 4 = 1 := hT.t9.2.2.2.2.1
  refine ⟨?_, ?_, a3, ?_, ?_, fun j hj => ?_, a7, fun j k hj hk => ?_⟩
  · rw [hR.fR 4 5 (by rw [e4]; decide) (by rw [e4]; exact no (by decide))]
    exact a1
  · rw [hR.ty f (by rw [a2]; decide)]
    exact a2
  · rw [hR.fI f 5 (by rw [a2]; decide) (by rw [a2]; exact no (by decide))]
    exact a4
  · rw [hm 66 110 (by decide) (by decide) (m 0 (by decide))]
    exact a5
  · obtain ⟨b1, b2⟩ := a6 j hj
    refine ⟨?_, ?_⟩
    · rw [hR.fR f j (by rw [a2]; decide) (by
        rw [a2]
        match j, hj with
        | 0, _ => exact no (by decide)
        | 1, _ => exact no (by decide)
        | 2, _ => exact no (by decide)
        | 3, _ => exact no (by decide)
        | 4, _ => exact no (by decide))]
      exact b1
    · rw [hR.ty _ (by rw [b2]; decide)]
      exact b2
  · obtain ⟨b1, b2⟩ := a6 j hj
    rw [hR.fI (r j) k (by rw [b2]; decide) (by rw [b2]; exact no (by rw [show cl 41 k = 4100 from if_neg (by decide)]; decide)), hm (67 + j) (111 + j) (by omega) (by omega) (by rw [show 67 + j = 66 + (1 + j) by omega, m (1 + j) (by omega)]; omega)]
    exact a8 j k hj hk
def z_r (j : Nat) : Nat := 12 + j
theorem DR_K {T : Nat → Nat} {S : AS} {f n : Nat} {r : Nat → Nat} (hT : TI T S) (h : DR T S f n r) : sK S 4 = 22 ∧ sK S f = 13 ∧ (∀ j, j < 5 → sK S (r j) = 40 ∧ sL S (r j) = 12 ∧ r j ≠ f) ∧ f ≠ 57 ∧ (∀ p, 66 ≤ p → p ≤ 71 → p ≠ f ∧ ∀ j, j < 5 → r j ≠ p) ∧ (∀ j, j < 5 → r j ≠ 57) := by
  obtain ⟨a1, a2, a3, a4, a5, a6, a7, a8⟩ := h
  have m : ∀ j, j < 6 → T (66 + j) = 110 + j := fun j hj => by
    match j, hj with
    | 0, _ => exact (md_ty hT (j := 10) rfl rfl).1
    | 1, _ => exact (md_ty hT (j := 11) rfl rfl).1
    | 2, _ => exact (md_ty hT (j := 12) rfl rfl).1
    | 3, _ => exact (md_ty hT (j := 13) rfl rfl).1
    | 4, _ => exact (md_ty hT (j := 14) rfl rfl).1
    | 5, _ => exact (md_ty hT (j := 15) rfl rfl).1
  have t57 := hT.t9.1
  refine ⟨Tx.K hT hT.t9.2.2.2.2.1 (by decide), Tx.K hT a2 (by decide), fun j hj => ⟨Tx.K hT (a6 j hj).2 (by decide), (hT.t1 (r j) (by rw [(a6 j hj).2]; decide)).2.2.2 12 (by rw [(a6 j hj).2]; rfl), fun q => ?_⟩, fun q => ?_, fun p h1 h2 => ⟨fun q => ?_, fun j hj q => ?_⟩, fun j hj q => ?_⟩
  · have := (a6 j hj).2
    rw [q, a2] at this
    cases this
  · rw [q, t57] at a2
    cases a2
  · have := m (p - 66) (by omega)
    rw [show 66 + (p - 66) = p by omega, q, a2] at this
    omega
  · have := m (p - 66) (by omega)
    rw [show 66 + (p - 66) = p by omega, ← q, (a6 j hj).2] at this
    omega
  · have := (a6 j hj).2
    rw [q, t57] at this
    cases this
def KS (S : AS) (f n : Nat) (r : Nat → Nat) (k a b y z : Int32) : AS := wI (wI (wI (wI (wI (wI S (r 0) n k) (r 1) n a) (r 2) n b) (r 3) n y) (r 4) n z) f 5 (Int32.ofNat (n + 1))
theorem x_add {T : Nat → Nat} {S : AS} {f n : Nat} {r : Nat → Nat} (hT : TI T S) (h : DR T S f n r) (k a b y z : Int32) (hn : n < 12) : f_Flow_add S (some f) k a b y z = some (Int32.ofNat n, KS S f n r k a b y z) := by
  obtain ⟨K4, Kf, Kr, -⟩ := DR_K hT h
  obtain ⟨a1, a2, a3, a4, a5, a6, a7, a8⟩ := h
  have nf : ∀ j, j < 5 → ∀ {S' : AS} {v : Int32}, sI (wI S' (r j) n v) f 5 = sI S' f 5 := fun j hj => ti_sI_ne (fun q => (Kr j hj).2.2 q.1.symm)
  have i1 := (gl2 n (by omega)).1
  have l : ∀ j, j < 5 → n < sL S (r j) := fun j hj => by rw [(Kr j hj).2.1]; exact hn
  unfold f_Flow_add
  rw [x_g Kf a4, Option.bind_some, if_neg (fun q => by
      have := Int32.lt_iff_toInt_lt.mp q
      rw [i1, show (0 : Int32).toInt = 0 from by decide] at this
      omega), Option.bind_some, if_pos (Int32.lt_iff_toInt_lt.mpr (by rw [i1, show (12 : Int32).toInt = 12 from by decide]; omega)),
    x_r Kf (a6 0 (by omega)).1, Option.bind_some, Option.bind_some, x_b (Kr 0 (by omega)).1 (l 0 (by omega)) (by omega), Option.bind_some,
    x_r (S := wI S (r 0) n k) Kf (a6 1 (by omega)).1, Option.bind_some, x_g (S := wI S (r 0) n k) Kf ((nf 0 (by omega)).trans a4), Option.bind_some, x_b (S := wI S (r 0) n k) (Kr 1 (by omega)).1 (l 1 (by omega)) (by omega), Option.bind_some,
    x_r (S := wI (wI S (r 0) n k) (r 1) n a) Kf (a6 2 (by omega)).1, Option.bind_some, x_g (S := wI (wI S (r 0) n k) (r 1) n a) Kf (((nf 1 (by omega)).trans (nf 0 (by omega))).trans a4), Option.bind_some, x_b (S := wI (wI S (r 0) n k) (r 1) n a) (Kr 2 (by omega)).1 (l 2 (by omega)) (by omega), Option.bind_some,
    x_r (S := wI (wI (wI S (r 0) n k) (r 1) n a) (r 2) n b) Kf (a6 3 (by omega)).1, Option.bind_some, x_g (S := wI (wI (wI S (r 0) n k) (r 1) n a) (r 2) n b) Kf ((((nf 2 (by omega)).trans (nf 1 (by omega))).trans (nf 0 (by omega))).trans a4), Option.bind_some, x_b (S := wI (wI (wI S (r 0) n k) (r 1) n a) (r 2) n b) (Kr 3 (by omega)).1 (l 3 (by omega)) (by omega), Option.bind_some,
    x_r (S := wI (wI (wI (wI S (r 0) n k) (r 1) n a) (r 2) n b) (r 3) n y) Kf (a6 4 (by omega)).1, Option.bind_some, x_g (S := wI (wI (wI (wI S (r 0) n k) (r 1) n a) (r 2) n b) (r 3) n y) Kf (((((nf 3 (by omega)).trans (nf 2 (by omega))).trans (nf 1 (by omega))).trans (nf 0 (by omega))).trans a4), Option.bind_some, x_b (S := wI (wI (wI (wI S (r 0) n k) (r 1) n a) (r 2) n b) (r 3) n y) (Kr 4 (by omega)).1 (l 4 (by omega)) (by omega), Option.bind_some,
    x_g (S := wI (wI (wI (wI (wI S (r 0) n k) (r 1) n a) (r 2) n b) (r 3) n y) (r 4) n z) Kf ((((((nf 4 (by omega)).trans (nf 3 (by omega))).trans (nf 2 (by omega))).trans (nf 1 (by omega))).trans (nf 0 (by omega))).trans a4), Option.bind_some,
    ti_pI (S := wI (wI (wI (wI (wI S (r 0) n k) (r 1) n a) (r 2) n b) (r 3) n y) (r 4) n z) Kf, Option.bind_some, x_g (S := wI (wI (wI (wI (wI (wI S (r 0) n k) (r 1) n a) (r 2) n b) (r 3) n y) (r 4) n z) f 5 (Int32.ofNat n + 1)) Kf (ti_sI_eq _ f 5 _), Option.bind_some]
  have e1 : Int32.ofNat n + 1 = Int32.ofNat (n + 1) := by rw [Int32.ofNat_add]; rfl
  rw [Int32.add_sub_cancel, e1]
  rfl
theorem x_K_step {T : Nat → Nat} {S : AS} {f n : Nat} {r : Nat → Nat} (hT : TI T S) (h : DR T S f n r) (k a b y z : Int32) : Ho (f_K_step S (some 4) k a b y z) (fun q => (¬ OKS k a b y z ∧ q = (.inr "java/lang/IllegalArgumentException", wX S)) ∨ (OKS k a b y z ∧ 12 ≤ n ∧ q = (.inr "java/lang/IllegalStateException", wX S)) ∨ (OKS k a b y z ∧ n < 12 ∧ q = (.inl (Int32.ofNat n), KS S f n r k a b y z))) := by
  obtain ⟨K4, Kf, Kr, -⟩ := DR_K hT h
  have i1 := (gl2 n (by have := h.2.2.1; omega)).1
  unfold f_K_step
  refine r_b2 (t_isStep S k a b y z) (fun v S' p => ?_)
  obtain ⟨e, p⟩ := p
  have e : S' = S := e
  rw [e]
  rcases p with ⟨p, hok⟩ | ⟨p, hno⟩
  · have p : v = 1 := p
    rw [p, rA1, bx_l, ti_gR K4, Option.bind_some, h.1, x_g Kf h.2.2.2.1, Option.bind_some]
    refine r_if (fun c => ?_) (fun c => ?_)
    · have := Int32.le_iff_toInt_le.mp c
      rw [i1, show (12 : Int32).toInt = 12 from by decide] at this
      unfold f_K_step_B30
      rw [rS0, bx_r]
      exact r_some (Or.inr (Or.inl ⟨hok, by omega, rfl⟩))
    · have hn12 : n < 12 := by
        refine Nat.not_le.mp (fun q => c (Int32.le_iff_toInt_le.mpr ?_))
        rw [i1, show (12 : Int32).toInt = 12 from by decide]
        omega
      unfold f_K_step_B30
      rw [rS1, bx_l, ti_gR K4, Option.bind_some, h.1, ti_rv Kf, Option.bind_some, x_add hT h k a b y z hn12, b2_s]
      exact r_some (Or.inr (Or.inr ⟨hok, hn12, rfl⟩))
  · have p : v = 0 := p
    rw [p, rA0, bx_r]
    exact r_some (Or.inl ⟨hno, rfl⟩)
theorem x_W_step {T : Nat → Nat} {S : AS} {f n : Nat} {r : Nat → Nat} (hT : TI T S) (h : DR T S f n r) (k a b y z : Int32) : Ho (f_W_step S (some 4) k a b y z (some 126)) (fun q => (¬ OKS k a b y z ∧ q = (1, wX S)) ∨ (OKS k a b y z ∧ 12 ≤ n ∧ q = (2, wX S)) ∨ (OKS k a b y z ∧ n < 12 ∧ q = (0, wJ (KS S f n r k a b y z) 126 0 (Int32.ofNat n).toInt64))) := by
  have e := hT.t9.2.2.2.2.2
  have k6 : sK S 126 = 42 := Tx.K hT e (by decide)
  have l6 : sL S 126 = 1 := (hT.t1 126 (by rw [e]; decide)).2.2.2 1 (by rw [e]; rfl)
  obtain ⟨K4, -⟩ := DR_K hT h
  unfold f_W_step
  rw [ti_rv K4, Option.bind_some]
  obtain ⟨q, hq, p⟩ := x_K_step hT h k a b y z
  rw [hq]
  rcases p with ⟨p1, rfl⟩ | ⟨p1, p2, rfl⟩ | ⟨p1, p2, rfl⟩
  · rw [bh_r]
    exact r_ifT rfl (r_some (Or.inl ⟨p1, rfl⟩))
  · rw [bh_r]
    exact r_ifF (by decide +kernel) (r_ifT rfl (r_some (Or.inr (Or.inl ⟨p1, p2, rfl⟩))))
  · rw [bh_l, bJ_K (S := KS S f n r k a b y z) k6 l6, Option.bind_some]
    exact r_some (Or.inr (Or.inr ⟨p1, p2, rfl⟩))
theorem x_K_clear {T : Nat → Nat} {S : AS} {f n : Nat} {r : Nat → Nat} (hT : TI T S) (h : DR T S f n r) : f_K_clear S (some 4) = some (Int32.ofNat n, wI S f 5 0) := by
  obtain ⟨K4, Kf, -⟩ := DR_K hT h
  unfold f_K_clear
  rw [ti_gR K4, Option.bind_some, h.1, x_g Kf h.2.2.2.1, Option.bind_some, Option.bind_some, ti_pI Kf, Option.bind_some]
def vl (k a b y z : Int32) (j : Nat) : Int32 := if j = 0 then k else if j = 1 then a else if j = 2 then b else if j = 3 then y else z
theorem KS_f {S : AS} {f n : Nat} {r : Nat → Nat} {k a b y z : Int32} : sI (KS S f n r k a b y z) f 5 = Int32.ofNat (n + 1) := ti_sI_eq _ f 5 _
theorem KS_o {S : AS} {f n p : Nat} {r : Nat → Nat} {k a b y z : Int32} (h : p ≠ f) (hr : ∀ j, j < 5 → r j ≠ p) (i : Nat) : sI (KS S f n r k a b y z) p i = sI S p i := by
  unfold KS
  rw [ti_sI_ne (fun q => h q.1), ti_sI_ne (fun q => hr 4 (by decide) q.1.symm), ti_sI_ne (fun q => hr 3 (by decide) q.1.symm), ti_sI_ne (fun q => hr 2 (by decide) q.1.symm), ti_sI_ne (fun q => hr 1 (by decide) q.1.symm), ti_sI_ne (fun q => hr 0 (by decide) q.1.symm)]
theorem KS_r {S : AS} {f n j i : Nat} {r : Nat → Nat} {k a b y z : Int32} (hf : ∀ j, j < 5 → r j ≠ f) (hd : ∀ i j, i < 5 → j < 5 → r i = r j → i = j) (hj : j < 5) : sI (KS S f n r k a b y z) (r j) i = if i = n then vl k a b y z j else sI S (r j) i := by
  have ne : ∀ i', i' < 5 → i' ≠ j → ¬ (r j = r i' ∧ i = n) := fun i' h h' q => h' (hd i' j h hj q.1.symm)
  unfold KS
  rw [ti_sI_ne (fun q => hf j hj q.1)]
  by_cases c : i = n
  · subst c
    rw [if_pos rfl]
    have w : ∀ (S' : AS) (v : Int32), sI (wI S' (r j) i v) (r j) i = v := fun S' v => ti_sI_eq S' _ _ v
    match j, hj with
    | 0, _ => rw [ti_sI_ne (ne 4 (by decide) (by decide)), ti_sI_ne (ne 3 (by decide) (by decide)), ti_sI_ne (ne 2 (by decide) (by decide)), ti_sI_ne (ne 1 (by decide) (by decide)), w]; rfl
    | 1, _ => rw [ti_sI_ne (ne 4 (by decide) (by decide)), ti_sI_ne (ne 3 (by decide) (by decide)), ti_sI_ne (ne 2 (by decide) (by decide)), w]; rfl
    | 2, _ => rw [ti_sI_ne (ne 4 (by decide) (by decide)), ti_sI_ne (ne 3 (by decide) (by decide)), w]; rfl
    | 3, _ => rw [ti_sI_ne (ne 4 (by decide) (by decide)), w]; rfl
    | 4, _ => rw [w]; rfl
  · rw [if_neg c, ti_sI_ne (fun q => c q.2), ti_sI_ne (fun q => c q.2), ti_sI_ne (fun q => c q.2), ti_sI_ne (fun q => c q.2), ti_sI_ne (fun q => c q.2)]
theorem DR_T {T T' : Nat → Nat} {S : AS} {f n : Nat} {r : Nat → Nat} (h : DR T S f n r) (e : ∀ k, T k ≠ 0 → T' k = T k) : DR T' S f n r := by
  obtain ⟨a1, a2, a3, a4, a5, a6, a7, a8⟩ := h
  exact ⟨a1, (e f (by rw [a2]; decide)).trans a2, a3, a4, a5, fun j hj => ⟨(a6 j hj).1, (e _ (by rw [(a6 j hj).2]; decide)).trans (a6 j hj).2⟩, a7, a8⟩
def KST (S S1 : AS) (f n : Nat) (r : Nat → Nat) (k a b y z : Int32) : Prop := (∀ p j, sR S1 p j = sR S p j) ∧ sI S1 f 5 = Int32.ofNat (n + 1) ∧ (∀ p, p ≠ f → (∀ j, j < 5 → r j ≠ p) → ∀ i, sI S1 p i = sI S p i) ∧ (∀ j i, j < 5 → sI S1 (r j) i = if i = n then vl k a b y z j else sI S (r j) i)
theorem KST_of {S : AS} {f n : Nat} {r : Nat → Nat} {k a b y z : Int32} (hf : ∀ j, j < 5 → r j ≠ f) (hd : ∀ i j, i < 5 → j < 5 → r i = r j → i = j) (v : Int64) : KST S (wJ (KS S f n r k a b y z) 126 0 v) f n r k a b y z := by
  refine ⟨fun p j => ?_, ?_, fun p h1 h2 i => ?_, fun j i hj => ?_⟩
  · rw [sR_wJ]
    unfold KS
    rw [sR_wI, sR_wI, sR_wI, sR_wI, sR_wI, sR_wI]
  · rw [sI_wJ]
    exact KS_f
  · rw [sI_wJ]
    exact KS_o h1 h2 i
  · rw [sI_wJ]
    exact KS_r hf hd hj
theorem DR_step {T T1 : Nat → Nat} {w : List Nat} {S S1 S2 : AS} {f n c s : Nat} {r : Nat → Nat} {k a b y z : Int32} (hT : TI T S) (h : DR T S f n r) (hn : n < 12) (h1 : KST S S1 f n r k a b y z) (hty : ∀ k, T k ≠ 0 → T1 k = T k) (g : Rl T1 w S1 c s T1 S2) (hw : ∀ z ∈ w, z < 50000) (hs : STP S1 S2 n k a b y z) : DR T1 S2 f (n + 1) r := by
  obtain ⟨K4, Kf, Kr, f57, k6, r57⟩ := DR_K hT h
  obtain ⟨b1, b2, b3, b4⟩ := h1
  have h' := DR_T h hty
  obtain ⟨a1, a2, a3, a4, a5, a6, a7, a8⟩ := h'
  have nm : ∀ z, 50000 ≤ z → ¬ z ∈ w := fun z h q => by
    have := hw z q
    omega
  have hI : ∀ p i, p ≠ 57 → (∀ q, 66 ≤ q → q ≤ 71 → p ≠ q) → sI S2 p i = sI S1 p i := fun p i h1 h2 => by
    rw [hs p i, if_neg (fun q => h1 q.1), if_neg (fun q => h2 66 (by decide) (by decide) q.1), if_neg (fun q => h2 p (by omega) (by omega) rfl)]
  refine ⟨?_, a2, by omega, ?_, ?_, fun j hj => ⟨?_, (a6 j hj).2⟩, a7, fun j i hj hi => ?_⟩
  · rw [g.fR 4 5 (by rw [hty 4 (by rw [hT.t9.2.2.2.2.1]; decide), hT.t9.2.2.2.2.1]; decide) (nm _ (by unfold cr; omega)), b1]
    exact a1
  · rw [hI f 5 f57 (fun q h1 h2 e => (k6 q h1 h2).1 e.symm)]
    exact b2
  · rw [hs 66 8, if_neg (by decide), if_pos ⟨rfl, rfl⟩]
  · rw [g.fR f j (by rw [a2]; decide) (nm _ (by unfold cr; omega)), b1]
    exact (a6 j hj).1
  · have e := hs (67 + j) (96 + i)
    rw [if_neg (show ¬ (67 + j = 57 ∧ 96 + i = 82) by omega), if_neg (show ¬ (67 + j = 66 ∧ 96 + i = 8) by omega)] at e
    rw [hI (r j) i (r57 j hj) (fun q h1 h2 e => (k6 q h1 h2).2 j hj e), b4 j i hj]
    by_cases c : i = n
    · rw [if_pos (show (67 ≤ 67 + j ∧ 67 + j ≤ 71) ∧ 96 + i = 96 + n by omega)] at e
      rw [if_pos c, e]
      unfold vl
      match j, hj with
      | 0, _ => rfl
      | 1, _ => rfl
      | 2, _ => rfl
      | 3, _ => rfl
      | 4, _ => rfl
    · rw [if_neg (show ¬ ((67 ≤ 67 + j ∧ 67 + j ≤ 71) ∧ 96 + i = 96 + n) by omega)] at e
      rw [if_neg c, e, b3 (67 + j) (k6 (67 + j) (by omega) (by omega)).1 (k6 (67 + j) (by omega) (by omega)).2]
      exact a8 j i hj (by omega)
theorem DR_X {T : Nat → Nat} {S : AS} {f n : Nat} {r : Nat → Nat} (h : DR T S f n r) : DR T (wX S) f n r := h
theorem x_aI {S : AS} {k n : Nat} {v : Int32} (h : sK S k = 40) (hl : n < sL S k) (hn : n ≤ 300) (e : sI S k n = v) : aI S 40 (some k) (Int32.ofNat n) = some v := by
  obtain ⟨e1, e2⟩ := gl2 n (by omega)
  unfold aI
  rw [Option.bind_some, if_pos ⟨h, by rw [e1]; omega, by rw [e1]; omega⟩, e2, e]
theorem x_there {S : AS} {f n : Nat} (Kf : sK S f = 13) (a4 : sI S f 5 = Int32.ofNat n) (hn : n ≤ 12) (v : Int32) : f_Flow_isThere S (some f) v = some (if 0 ≤ v.toInt ∧ v.toInt < (n : Int) then 1 else 0, S) := by
  have i1 := (gl2 n (by omega)).1
  unfold f_Flow_isThere
  by_cases c : v < 0
  · have := lt0.mp c
    rw [if_pos c, if_neg (by omega)]
  · have c' : ¬ v.toInt < 0 := fun q => c (lt0.mpr q)
    rw [if_neg c, x_g Kf a4, Option.bind_some]
    by_cases d : Int32.ofNat n ≤ v
    · have := Int32.le_iff_toInt_le.mp d
      rw [i1] at this
      rw [if_pos d, if_neg (by omega)]
    · have d' := Int32.lt_iff_toInt_lt.mp (Int32.not_le.mp d)
      rw [i1] at d'
      rw [if_neg d, if_neg (fun q => by
        have := Int32.le_iff_toInt_le.mp q
        rw [show (12 : Int32).toInt = 12 from by decide] at this
        omega), if_pos ⟨by omega, d'⟩]
section
variable {T : Nat → Nat} {S : AS} {f n : Nat} {r : Nat → Nat}
theorem x_th1 (hT : TI T S) (h : DR T S f n r) {k : Nat} (hk : k < n) : f_Flow_isThere S (some f) (Int32.ofNat k) = some (1, S) := by
  have hn := h.2.2.1
  rw [x_there (DR_K hT h).2.1 h.2.2.2.1 hn, if_pos ⟨by rw [(gl2 k (by omega)).1]; omega, by rw [(gl2 k (by omega)).1]; omega⟩]
theorem x_row (hT : TI T S) (h : DR T S f n r) {j k : Nat} (hj : j < 5) (hk : k < n) : gR S 13 j (some f) = some (some (r j)) ∧ aI S 40 (some (r j)) (Int32.ofNat k) = some (sI S (67 + j) (96 + k)) := by
  obtain ⟨K4, Kf, Kr, -⟩ := DR_K hT h
  have hn := h.2.2.1
  exact ⟨x_r Kf (h.2.2.2.2.2.1 j hj).1, x_aI (Kr j hj).1 (by rw [(Kr j hj).2.1]; omega) (by omega) (h.2.2.2.2.2.2.2 j k hj hk)⟩
theorem x_kind (hT : TI T S) (h : DR T S f n r) {k : Nat} (hk : k < n) : f_Flow_kindOf S (some f) (Int32.ofNat k) = some (sI S 67 (96 + k), S) := by
  obtain ⟨e1, e2⟩ := x_row hT h (j := 0) (by decide) hk
  unfold f_Flow_kindOf
  rw [ti_rv (DR_K hT h).2.1, Option.bind_some, x_th1 hT h hk, b2_s, if_neg (by decide), e1, Option.bind_some, e2, Option.bind_some]
theorem x_nx1 (hT : TI T S) (h : DR T S f n r) {k : Nat} (hk : k < n) : f_Flow_nextOf S (some f) (Int32.ofNat k) 1 = some (sI S 70 (96 + k), S) := by
  obtain ⟨e1, e2⟩ := x_row hT h (j := 3) (by decide) hk
  unfold f_Flow_nextOf
  rw [ti_rv (DR_K hT h).2.1, Option.bind_some, x_th1 hT h hk, b2_s, if_neg (by decide), if_neg (by decide), e1, Option.bind_some, e2, Option.bind_some]
theorem x_nx0 (hT : TI T S) (h : DR T S f n r) {k : Nat} (hk : k < n) : f_Flow_nextOf S (some f) (Int32.ofNat k) 0 = some (sI S 71 (96 + k), S) := by
  obtain ⟨e1, e2⟩ := x_row hT h (j := 4) (by decide) hk
  unfold f_Flow_nextOf
  rw [ti_rv (DR_K hT h).2.1, Option.bind_some, x_th1 hT h hk, b2_s, if_neg (by decide), if_pos rfl, e1, Option.bind_some, e2, Option.bind_some]
theorem x_none (hT : TI T S) (h : DR T S f n r) {v : Int32} (hv : In (-1) 11 v) : f_Flow_isNoneOrThere S (some f) v = some (if v.toInt < (n : Int) then 1 else 0, S) := by
  have hn := h.2.2.1
  unfold f_Flow_isNoneOrThere f_Flow_isNoneOrThere_B13
  by_cases c : v = -1
  · rw [if_pos c, if_pos (by rw [c, show (-1 : Int32).toInt = -1 from by decide]; omega)]
  · have c' : 0 ≤ v.toInt := by
      have : v.toInt ≠ -1 := fun q => c (Int32.toInt_inj.mp (q.trans (by decide)))
      have := hv.1
      omega
    have e := x_there (DR_K hT h).2.1 h.2.2.2.1 hn v
    rw [if_neg c, ti_rv (DR_K hT h).2.1, Option.bind_some]
    by_cases d : v.toInt < (n : Int)
    · rw [if_pos ⟨c', d⟩] at e
      rw [e, b2_s, if_neg (by decide : ¬ (1 : Int32) = 0), if_pos d]
    · rw [if_neg (fun q => d q.2)] at e
      rw [e, b2_s, if_pos rfl, if_neg d]
theorem nat1 (j : Nat) : Int32.ofNat j + 1 = Int32.ofNat (j + 1) := by rw [Int32.ofNat_add]; rfl
theorem nat_le {a b : Nat} (ha : a ≤ 12) (hb : b ≤ 12) : Int32.ofNat a ≤ Int32.ofNat b ↔ a ≤ b := by
  rw [Int32.le_iff_toInt_le, (gl2 a (by omega)).1, (gl2 b (by omega)).1]
  omega
theorem x_all (hT : TI T S) (h : DR T S f n r) (hsr : SR S) : Ho (f_Flow_hasAllNextSteps S (some f)) (fun q => q.2 = S ∧ ((q.1 = 1 ∧ nxin S 96 n) ∨ (q.1 = 0 ∧ ¬ nxin S 96 n))) := by
  obtain ⟨K4, Kf, Kr, -⟩ := DR_K hT h
  have hn := h.2.2.1
  have key : ∀ m j fu, j + m = n → m < fu → (∀ k, k < j → (sI S 67 (96 + k)).toInt < 5 → (sI S 70 (96 + k)).toInt < (n : Int) ∧ (sI S 71 (96 + k)).toInt < (n : Int)) → Ho (f_Flow_hasAllNextSteps_L2 fu S (some f) (Int32.ofNat j)) (fun q => q.2 = S ∧ ((q.1 = 1 ∧ nxin S 96 n) ∨ (q.1 = 0 ∧ ¬ nxin S 96 n))) := by
    intro m
    induction m with
    | zero =>
      intro j fu h1 h2 hall
      obtain ⟨fu, rfl⟩ : ∃ g, fu = g + 1 := ⟨fu - 1, by omega⟩
      have hj : j = n := by omega
      subst hj
      unfold f_Flow_hasAllNextSteps_L2 f_Flow_hasAllNextSteps_C2
      rw [x_g Kf h.2.2.2.1, Option.bind_some, if_pos ((nat_le hn hn).mpr (Nat.le_refl _))]
      exact r_some ⟨rfl, Or.inl ⟨rfl, hall⟩⟩
    | succ m ih =>
      intro j fu h1 h2 hall
      obtain ⟨fu, rfl⟩ : ∃ g, fu = g + 1 := ⟨fu - 1, by omega⟩
      have hj : j < n := by omega
      unfold f_Flow_hasAllNextSteps_L2 f_Flow_hasAllNextSteps_C2
      rw [x_g Kf h.2.2.2.1, Option.bind_some, if_neg (fun q => by have := (nat_le hn (by omega)).mp q; omega), ti_rv Kf, Option.bind_some, x_kind hT h hj, b2_s]
      have go : ((sI S 67 (96 + j)).toInt < 5 → (sI S 70 (96 + j)).toInt < (n : Int) ∧ (sI S 71 (96 + j)).toInt < (n : Int)) → Ho (f_Flow_hasAllNextSteps_B47 (f_Flow_hasAllNextSteps_L2 fu) S (some f) (Int32.ofNat j)) (fun q => q.2 = S ∧ ((q.1 = 1 ∧ nxin S 96 n) ∨ (q.1 = 0 ∧ ¬ nxin S 96 n))) := fun hok => by
        unfold f_Flow_hasAllNextSteps_B47
        rw [Option.bind_some, nat1]
        refine ih (j + 1) fu (by omega) (by omega) (fun k hk => ?_)
        by_cases c : k = j
        · rw [c]; exact hok
        · exact hall k (by omega)
      refine r_if (fun c => go (fun q => ?_)) (fun c => ?_)
      · have := Int32.le_iff_toInt_le.mp c
        rw [show (5 : Int32).toInt = 5 from by decide] at this
        omega
      · have c5 : (sI S 67 (96 + j)).toInt < 5 := by
          have := Int32.lt_iff_toInt_lt.mp (Int32.not_le.mp c)
          rw [show (5 : Int32).toInt = 5 from by decide] at this
          exact this
        obtain ⟨y1, y2⟩ := (hsr (96 + j) (by omega)).2 c5
        have e1 := x_none hT h y1
        have e2 := x_none hT h y2
        rw [ti_rv Kf, Option.bind_some, x_nx1 hT h hj, b2_s, ti_rv Kf, Option.bind_some]
        by_cases d : (sI S 70 (96 + j)).toInt < (n : Int)
        · rw [if_pos d] at e1
          rw [e1, b2_s, if_neg (by decide : ¬ (1 : Int32) = 0), ti_rv Kf, Option.bind_some, x_nx0 hT h hj, b2_s, ti_rv Kf, Option.bind_some]
          by_cases d2 : (sI S 71 (96 + j)).toInt < (n : Int)
          · rw [if_pos d2] at e2
            rw [e2, b2_s, if_neg (by decide : ¬ (1 : Int32) = 0)]
            exact go (fun _ => ⟨d, d2⟩)
          · rw [if_neg d2] at e2
            rw [e2, b2_s, if_pos rfl]
            exact r_some ⟨rfl, Or.inr ⟨rfl, fun q => d2 (q j hj c5).2⟩⟩
        · rw [if_neg d] at e1
          rw [e1, b2_s, if_pos rfl]
          exact r_some ⟨rfl, Or.inr ⟨rfl, fun q => d (q j hj c5).1⟩⟩
  unfold f_Flow_hasAllNextSteps
  exact key n 0 kr_FU (by omega) (by show n < 2000; omega) (fun k hk => absurd hk (Nat.not_lt_zero _))
end
theorem r_Te {β : Type} {T : Nat → Nat} {S : AS} {f n k : Nat} {r : Nat → Nat} {F : Int32 → AS → Option β} {Q : β → Prop} (hT : TI T S) (h : DR T S f n r) (hk : k < n) (h1 : te S 96 k → Ho (F 1 S) Q) (h0 : ¬ te S 96 k → Ho (F 0 S) Q) : Ho (kr_b2 (f_Flow_isTest S (some f) (Int32.ofNat k)) F) Q := by
  obtain ⟨⟨v, S'⟩, e, h2⟩ : Ho (f_Flow_isTest S (some f) (Int32.ofNat k)) (fun q => q.2 = S ∧ ((q.1 = 1 ∧ te S 96 k) ∨ (q.1 = 0 ∧ ¬ te S 96 k))) := by
    unfold f_Flow_isTest
    rw [ti_rv (DR_K hT h).2.1, Option.bind_some, x_kind hT h hk, b2_s]
    exact r_KwX (fun p q => ⟨(1, S), rfl, rfl, Or.inl ⟨rfl, In_iff.mp ⟨p, q⟩⟩⟩) (fun p => ⟨(0, S), rfl, rfl, Or.inr ⟨rfl, fun q => p (In_iff.mpr q)⟩⟩)
  obtain ⟨e2, h2⟩ := h2
  cases e2
  rw [e, b2_s]
  rcases h2 with ⟨p, q⟩ | ⟨p, q⟩
  · cases p
    exact h1 q
  · cases p
    exact h0 q
theorem r_Lv {β : Type} {S : AS} {v x : Int32} {F : Int32 → AS → Option β} {Q : β → Prop} (hv : In (-1) 11 v) (h1 : (∀ t : Nat, v.toInt = (t : Int) → bt x t = true) → Ho (F 1 S) Q) (h0 : (∃ t : Nat, v.toInt = (t : Int) ∧ ¬ bt x t = true) → Ho (F 0 S) Q) : Ho (kr_b2 (f_Flow_leaves S v x) F) Q := by
  unfold f_Flow_leaves f_Flow_leaves_B13 f_K_isIn
  by_cases c : v = -1
  · rw [if_pos c, b2_s]
    refine h1 (fun t ht => ?_)
    rw [c, show (-1 : Int32).toInt = -1 from by decide] at ht
    omega
  · have c' : 0 ≤ v.toInt := by
      have : v.toInt ≠ -1 := fun q => c (Int32.toInt_inj.mp (q.trans (by decide)))
      have := hv.1
      omega
    obtain ⟨t, ht, e⟩ := ofNat_In (n := 11) (v := v) ⟨c', hv.2⟩
    have et : v.toInt = (t : Int) := by rw [e]; exact (gl2 t (by omega)).1
    have b := bt_test x (j := t) (by omega)
    rw [if_neg c, e]
    by_cases d : bt x t = true
    · rw [if_pos (b.mpr d), b2_s, if_neg (by decide : ¬ (1 : Int32) = 0), b2_s]
      refine h1 (fun t' ht' => ?_)
      have : t' = t := by omega
      rw [this]
      exact d
    · rw [if_neg (fun q => d (b.mp q)), b2_s, if_pos rfl, b2_s]
      exact h0 ⟨t, et, d⟩
def BI (S : AS) (n : Nat) (x : Int32) : Prop := (∀ i, bt x i = true → i < n) ∧ ∃ ρ : Nat → Nat, (∀ k, bt x k = true → ρ k < cb (bt x) 12) ∧ ∀ k, bt x k = true → te S 96 k → ∀ t, nx S 96 k t → bt x t = true ∧ ρ t < ρ k
theorem bt_set {x : Int32} {k : Nat} (hk : k < 12) (i : Nat) : bt (x ||| ((1 : Int32) <<< (Int32.ofNat k &&& 31))) i = (bt x i || decide (i = k)) := by rw [bt_or, bt_shl hk]
theorem BI_set {S : AS} {n k : Nat} {x : Int32} (hn : n ≤ 12) (h : BI S n x) (hk : k < n) (hs : ¬ te S 96 k ∨ ∀ t, nx S 96 k t → bt x t = true) : BI S n (x ||| ((1 : Int32) <<< (Int32.ofNat k &&& 31))) := by
  obtain ⟨h1, ρ, h2, h3⟩ := h
  have hb := fun i => bt_set (x := x) (k := k) (by omega) i
  by_cases c : bt x k = true
  · have e : bt (x ||| ((1 : Int32) <<< (Int32.ofNat k &&& 31))) = bt x := funext fun i => by
      rw [hb i]
      by_cases d : i = k
      · subst d
        rw [c]
        rfl
      · rw [decide_eq_false d, Bool.or_false]
    unfold BI
    rw [e]
    exact ⟨h1, ρ, h2, h3⟩
  · have up : ∀ i, bt x i = true → bt (x ||| ((1 : Int32) <<< (Int32.ofNat k &&& 31))) i = true := fun i hi => by rw [hb i, hi]; rfl
    have hk' : bt (x ||| ((1 : Int32) <<< (Int32.ofNat k &&& 31))) k = true := by rw [hb k, decide_eq_true rfl, Bool.or_true]
    have cl := cb_lt (f := bt x) (g := bt (x ||| ((1 : Int32) <<< (Int32.ofNat k &&& 31)))) up c hk' (n := 12) (by omega)
    have old : ∀ i, bt (x ||| ((1 : Int32) <<< (Int32.ofNat k &&& 31))) i = true → i = k ∨ bt x i = true := fun i hi => by
      rw [hb i] at hi
      by_cases d : i = k
      · exact Or.inl d
      · rw [decide_eq_false d, Bool.or_false] at hi
        exact Or.inr hi
    have nk : ∀ i, bt x i = true → i ≠ k := fun i hi e => c (by rw [← e]; exact hi)
    refine ⟨fun i hi => ?_, fun i => if i = k then cb (bt x) 12 else ρ i, fun i hi => ?_, fun i hi ht t hx => ?_⟩
    · rcases old i hi with e | e
      · omega
      · exact h1 i e
    · dsimp only
      rcases old i hi with e | e
      · rw [if_pos e]
        exact cl
      · rw [if_neg (nk i e)]
        have := h2 i e
        omega
    · dsimp only
      by_cases e : i = k
      · subst e
        rcases hs with hs | hs
        · exact absurd ht hs
        · have b := hs t hx
          refine ⟨up t b, ?_⟩
          rw [if_pos rfl, if_neg (nk t b)]
          exact h2 t b
      · rcases old i hi with e' | e'
        · exact absurd e' e
        · obtain ⟨b1, b2⟩ := h3 i e' ht t hx
          refine ⟨up t b1, ?_⟩
          rw [if_neg (nk t b1), if_neg e]
          exact b2
theorem x_round {T : Nat → Nat} {S : AS} {f n : Nat} {r : Nat → Nat} (hT : TI T S) (h : DR T S f n r) (hsr : SR S) {k4 : AS → Option Nat → Int32 → Int32 → Option (Int32 × AS)} {x0 x2 : Int32} {Q : Int32 × AS → Prop}
    (hk : ∀ x, (∀ i, bt x0 i = true → bt x i = true) → BI S n x → (∀ k, k < n → (¬ te S 96 k ∨ ∀ t, nx S 96 k t → bt x0 t = true) → bt x k = true) → Ho (k4 S (some f) x (x2 + 1)) Q) :
    ∀ m j fu, j + m = n → m < fu → ∀ x, (∀ i, bt x0 i = true → bt x i = true) → BI S n x → (∀ k, k < j → (¬ te S 96 k ∨ ∀ t, nx S 96 k t → bt x0 t = true) → bt x k = true) → Ho (f_Flow_hasLoopOfTests_L14 k4 fu S (some f) x x2 (Int32.ofNat j)) Q := by
  obtain ⟨K4, Kf, Kr, -⟩ := DR_K hT h
  have hn := h.2.2.1
  intro m
  induction m with
  | zero =>
    intro j fu h1 h2 x ha hb hc
    obtain ⟨fu, rfl⟩ : ∃ g, fu = g + 1 := ⟨fu - 1, by omega⟩
    have hj : j = n := by omega
    subst hj
    unfold f_Flow_hasLoopOfTests_L14 f_Flow_hasLoopOfTests_C14
    rw [x_g Kf h.2.2.2.1, Option.bind_some, if_pos ((nat_le hn hn).mpr (Nat.le_refl _)), Option.bind_some]
    exact hk x ha hb hc
  | succ m ih =>
    intro j fu h1 h2 x ha hb hc
    obtain ⟨fu, rfl⟩ : ∃ g, fu = g + 1 := ⟨fu - 1, by omega⟩
    have hj : j < n := by omega
    unfold f_Flow_hasLoopOfTests_L14 f_Flow_hasLoopOfTests_C14
    rw [x_g Kf h.2.2.2.1, Option.bind_some, if_neg (fun q => by have := (nat_le hn (by omega)).mp q; omega), ti_rv Kf, Option.bind_some]
    have put : (¬ te S 96 j ∨ ∀ t, nx S 96 j t → bt x t = true) → Ho (f_Flow_hasLoopOfTests_B56 k4 (f_Flow_hasLoopOfTests_L14 k4 fu) S (some f) x x2 (Int32.ofNat j)) Q := fun hs => by
      unfold f_Flow_hasLoopOfTests_B56 f_Flow_hasLoopOfTests_B62
      rw [Option.bind_some, Option.bind_some, nat1]
      have hb2 := fun i => bt_set (x := x) (k := j) (by omega) i
      refine ih (j + 1) fu (by omega) (by omega) _ (fun i hi => by rw [hb2 i, ha i hi]; rfl) (BI_set hn hb hj hs) (fun k hk hs' => ?_)
      rw [hb2 k]
      by_cases c : k = j
      · rw [decide_eq_true c, Bool.or_true]
      · rw [hc k (by omega) hs']
        rfl
    have skip : (te S 96 j ∧ ∃ t, nx S 96 j t ∧ ¬ bt x t = true) → Ho (f_Flow_hasLoopOfTests_B62 k4 (f_Flow_hasLoopOfTests_L14 k4 fu) S (some f) x x2 (Int32.ofNat j)) Q := fun hs => by
      unfold f_Flow_hasLoopOfTests_B62
      rw [Option.bind_some, nat1]
      refine ih (j + 1) fu (by omega) (by omega) _ ha hb (fun k hk hs' => ?_)
      by_cases c : k = j
      · subst c
        obtain ⟨h5, t, h6, h7⟩ := hs
        rcases hs' with q | q
        · exact absurd h5 q
        · exact absurd (ha t (q t h6)) h7
      · exact hc k (by omega) hs'
    refine r_Te hT h hj (fun ht => ?_) (fun ht => ?_)
    · obtain ⟨y1, y2⟩ := (hsr (96 + j) (by omega)).2 (by have := ht.2; omega)
      rw [if_neg (by decide : ¬ (1 : Int32) = 0), ti_rv Kf, Option.bind_some, x_nx1 hT h hj, b2_s]
      refine r_Lv y1 (fun l1 => ?_) (fun l1 => ?_)
      · rw [if_neg (by decide : ¬ (1 : Int32) = 0), ti_rv Kf, Option.bind_some, x_nx0 hT h hj, b2_s]
        refine r_Lv y2 (fun l2 => ?_) (fun l2 => ?_)
        · rw [if_neg (by decide : ¬ (1 : Int32) = 0)]
          exact put (Or.inr (fun t q => q.elim (l1 t) (l2 t)))
        · rw [if_pos rfl]
          obtain ⟨t, q1, q2⟩ := l2
          exact skip ⟨ht, t, Or.inr q1, q2⟩
      · rw [if_pos rfl]
        obtain ⟨t, q1, q2⟩ := l1
        exact skip ⟨ht, t, Or.inl q1, q2⟩
    · rw [if_pos rfl]
      exact put (Or.inl ht)
theorem some_good {S : AS} {n : Nat} {x : Int32} {ρ : Nat → Nat} (hx : nxin S 96 n) (hr : rnk S 96 n ρ) : ∀ m k, ρ k < m → k < n → ¬ bt x k = true → ∃ k', k' < n ∧ ¬ bt x k' = true ∧ (¬ te S 96 k' ∨ ∀ t, nx S 96 k' t → bt x t = true)
  | 0, k, h, _, _ => absurd h (Nat.not_lt_zero _)
  | m + 1, k, h, hk, hb => by
    by_cases c : te S 96 k
    · by_cases d : ∀ t, nx S 96 k t → bt x t = true
      · exact ⟨k, hk, hb, Or.inr d⟩
      · obtain ⟨t, d⟩ := Classical.not_forall.mp d
        have d1 : nx S 96 k t := Classical.byContradiction fun q => d (fun z => absurd z q)
        have d2 : ¬ bt x t = true := fun q => d (fun _ => q)
        have ht := nxin_t hx hk (by have := c.2; omega) d1
        by_cases e : te S 96 t
        · have := hr.2 k hk c t d1 e
          exact some_good hx hr m t (by omega) ht d2
        · exact ⟨t, ht, d2, Or.inl e⟩
    · exact ⟨k, hk, hb, Or.inl c⟩
theorem msk : ∀ n, n ≤ 12 → ∀ j, j < 32 → bt (((1 : Int32) <<< (Int32.ofNat n &&& 31)) - 1) j = decide (j < n) := by decide +kernel
theorem cb_dec : ∀ n, n ≤ 12 → cb (fun i => decide (i < n)) 12 = n := by decide +kernel
theorem x_loop {T : Nat → Nat} {S : AS} {f n : Nat} {r : Nat → Nat} (hT : TI T S) (h : DR T S f n r) (hsr : SR S) (hx : nxin S 96 n) : Ho (f_Flow_hasLoopOfTests S (some f)) (fun q => q.2 = S ∧ ((q.1 = 0 ∧ ∃ ρ, rnk S 96 n ρ) ∨ (q.1 = 1 ∧ ¬ ∃ ρ, rnk S 96 n ρ))) := by
  obtain ⟨K4, Kf, Kr, -⟩ := DR_K hT h
  have hn := h.2.2.1
  have key : ∀ m i fu, i + m = n → m < fu → ∀ x, BI S n x → ((∃ ρ, rnk S 96 n ρ) → i ≤ cb (bt x) 12 ∨ ∀ k, k < n → bt x k = true) → Ho (f_Flow_hasLoopOfTests_L4 fu S (some f) x (Int32.ofNat i)) (fun q => q.2 = S ∧ ((q.1 = 0 ∧ ∃ ρ, rnk S 96 n ρ) ∨ (q.1 = 1 ∧ ¬ ∃ ρ, rnk S 96 n ρ))) := by
    intro m
    induction m with
    | zero =>
      intro i fu h1 h2 x hb hr
      obtain ⟨fu, rfl⟩ : ∃ g, fu = g + 1 := ⟨fu - 1, by omega⟩
      have hj : i = n := by omega
      subst hj
      unfold f_Flow_hasLoopOfTests_L4 f_Flow_hasLoopOfTests_C4
      rw [x_g Kf h.2.2.2.1, Option.bind_some, if_pos ((nat_le hn hn).mpr (Nat.le_refl _)), Option.bind_some]
      obtain ⟨b1, ρ, b2, b3⟩ := hb
      refine r_if (fun c => r_some ⟨rfl, Or.inl ⟨rfl, ?_⟩⟩) (fun c => r_some ⟨rfl, Or.inr ⟨rfl, fun q => c ?_⟩⟩)
      · have full : ∀ k, k < i → bt x k = true := fun k hk => by
          rw [c, msk i hn k (by omega), decide_eq_true hk]
        have le := cb_le (bt x) 12
        refine ⟨fun k => min (ρ k) 12, fun k => Nat.min_le_right _ _, fun k hk ht t hx' htt => ?_⟩
        obtain ⟨z1, z2⟩ := b3 k (full k hk) ht t hx'
        have := b2 k (full k hk)
        dsimp only
        omega
      · have full : ∀ k, k < i → bt x k = true := by
          rcases hr q with q | q
          · intro k hk
            refine Classical.byContradiction fun d => ?_
            have := cb_lt (f := bt x) (g := fun j => decide (j < i)) (fun j hj => decide_eq_true (b1 j hj)) d (decide_eq_true hk) (n := 12) (by omega)
            rw [cb_dec i hn] at this
            omega
          · exact q
        refine bt_ext (fun j hj => ?_)
        rw [msk i hn j hj]
        by_cases d : j < i
        · rw [full j d, decide_eq_true d]
        · rw [decide_eq_false d]
          cases e : bt x j with
          | false => rfl
          | true => exact absurd (b1 j e) d
    | succ m ih =>
      intro i fu h1 h2 x hb hr
      obtain ⟨fu, rfl⟩ : ∃ g, fu = g + 1 := ⟨fu - 1, by omega⟩
      have hj : i < n := by omega
      unfold f_Flow_hasLoopOfTests_L4 f_Flow_hasLoopOfTests_C4
      rw [x_g Kf h.2.2.2.1, Option.bind_some, if_neg (fun q => by have := (nat_le hn (by omega)).mp q; omega)]
      refine x_round hT h hsr (x0 := x) (fun x' m1 m2 m3 => ?_) n 0 kr_FU (by omega) (by show n < 2000; omega) x (fun _ q => q) hb (fun k hk => absurd hk (Nat.not_lt_zero _))
      rw [nat1]
      refine ih (i + 1) fu (by omega) (by omega) x' m2 (fun q => ?_)
      by_cases full : ∀ k, k < n → bt x' k = true
      · exact Or.inr full
      · have nf : ∃ k, k < n ∧ ¬ bt x k = true := by
          obtain ⟨k, hk⟩ := Classical.not_forall.mp full
          exact ⟨k, Classical.byContradiction fun z => hk (fun y => absurd y z), fun z => hk (fun _ => m1 k z)⟩
        obtain ⟨k0, hk0, hb0⟩ := nf
        obtain ⟨ρ, hρ⟩ := q
        obtain ⟨k', g1, g2, g3⟩ := some_good hx hρ (ρ k0 + 1) k0 (Nat.lt_succ_self _) hk0 hb0
        have := cb_lt (f := bt x) (g := bt x') m1 g2 (m3 k' g1 g3) (n := 12) (by omega)
        rcases hr ⟨ρ, hρ⟩ with z | z
        · exact Or.inl (by omega)
        · exact absurd (z k' g1) g2
  unfold f_Flow_hasLoopOfTests
  exact key n 0 kr_FU (by omega) (by show n < 2000; omega) 0 ⟨fun i hi => (by rw [bt_0] at hi; cases hi), fun _ => 0, fun k hk => (by rw [bt_0] at hk; cases hk), fun k hk => (by rw [bt_0] at hk; cases hk)⟩ (fun _ => Or.inl (Nat.zero_le _))
def FL (S : AS) (k j : Nat) (S' : AS) : Prop := sN S' = sN S + 1 ∧ sR S' k j = some (sN S) ∧ (∀ p, p < sN S → sI S' p = sI S p ∧ sK S' p = sK S p) ∧ (∀ p i, p < sN S → ¬ (p = k ∧ i = j) → sR S' p i = sR S p i)
theorem x_one {β : Type} {S : AS} {k j : Nat} {F : AS → Option β} {Q : β → Prop} (hk : k < sN S) (hK : sK S k = 13) (h : ∀ S', FL S k j S' → Ho (F S') Q) : Ho ((nA S 40 (12 : Int32)).bind fun S2 => (pR S2 13 j (some k) (some (sN S))).bind F) Q := by
  rw [nA_s (12 : Int32) 12 tv12 (by decide), Option.bind_some, ti_pR (by rw [(ti_wN (by omega)).1]; exact hK) (pb_k (by rw [(ti_wN0 S 40 12 12).1]; decide)), Option.bind_some]
  refine h _ ⟨rfl, ti_sR_eq _ k j _, fun p hp => ?_, fun p i hp hn => ?_⟩
  · have e := ti_wN (S := S) (κ := 40) (l := 12) (s := 12) (k := p) (by omega)
    exact ⟨e.2.2.1, e.1⟩
  · have e := ti_wN (S := S) (κ := 40) (l := 12) (s := 12) (k := p) (by omega)
    rw [ti_sR_ne hn, e.2.2.2.1]
def NEW (S S' : AS) : Prop := sI S' 17 2 = sI S 17 2 + 1 ∧ ∃ (f : Nat) (r : Nat → Nat), sR S' 4 5 = some f ∧ sI S' f 5 = 0 ∧ (∀ j : Nat, j < 5 → sR S' f j = some (r j)) ∧ (∀ i j : Nat, i < 5 → j < 5 → r i = r j → i = j)
theorem x_Flow {S : AS} {k : Nat} (hk : k < sN S) (hK : sK S k = 13) : Ho (f_Flow_init S (some k)) (fun S' => sN S ≤ sN S' ∧ (∀ p, p < sN S → sI S' p = sI S p ∧ sK S' p = sK S p) ∧ (∀ p i, p < sN S → p ≠ k → sR S' p i = sR S p i) ∧ ∃ r : Nat → Nat, (∀ j, j < 5 → sR S' k j = some (r j)) ∧ (∀ i j, i < 5 → j < 5 → r i = r j → i = j)) := by
  unfold f_Flow_init
  rw [Option.bind_some]
  refine x_one hk hK (fun S1 h1 => ?_)
  obtain ⟨a1, b1, c1, d1⟩ := h1
  refine x_one (by omega) ((c1 k (by omega)).2.trans hK) (fun S2 h2 => ?_)
  obtain ⟨a2, b2, c2, d2⟩ := h2
  refine x_one (by omega) ((c2 k (by omega)).2.trans ((c1 k (by omega)).2.trans hK)) (fun S3 h3 => ?_)
  obtain ⟨a3, b3, c3, d3⟩ := h3
  refine x_one (by omega) ((c3 k (by omega)).2.trans ((c2 k (by omega)).2.trans ((c1 k (by omega)).2.trans hK))) (fun S4 h4 => ?_)
  obtain ⟨a4, b4, c4, d4⟩ := h4
  refine x_one (by omega) ((c4 k (by omega)).2.trans ((c3 k (by omega)).2.trans ((c2 k (by omega)).2.trans ((c1 k (by omega)).2.trans hK)))) (fun S5 h5 => ?_)
  obtain ⟨a5, b5, c5, d5⟩ := h5
  refine r_some ⟨by omega, fun p hp => ⟨?_, ?_⟩, fun p i hp hn => ?_, fun j => sN S + j, fun j hj => ?_, fun i j _ _ e => by dsimp only at e; omega⟩
  · rw [(c5 p (by omega)).1, (c4 p (by omega)).1, (c3 p (by omega)).1, (c2 p (by omega)).1, (c1 p (by omega)).1]
  · rw [(c5 p (by omega)).2, (c4 p (by omega)).2, (c3 p (by omega)).2, (c2 p (by omega)).2, (c1 p (by omega)).2]
  · rw [d5 p i (by omega) (fun q => hn q.1), d4 p i (by omega) (fun q => hn q.1), d3 p i (by omega) (fun q => hn q.1), d2 p i (by omega) (fun q => hn q.1), d1 p i (by omega) (fun q => hn q.1)]
  · match j, hj with
    | 0, _ => rw [d5 k 0 (by omega) (fun q => absurd q.2 (by decide)), d4 k 0 (by omega) (fun q => absurd q.2 (by decide)), d3 k 0 (by omega) (fun q => absurd q.2 (by decide)), d2 k 0 (by omega) (fun q => absurd q.2 (by decide)), b1]; rfl
    | 1, _ => rw [d5 k 1 (by omega) (fun q => absurd q.2 (by decide)), d4 k 1 (by omega) (fun q => absurd q.2 (by decide)), d3 k 1 (by omega) (fun q => absurd q.2 (by decide)), b2, show sN S1 = sN S + 1 by omega]
    | 2, _ => rw [d5 k 2 (by omega) (fun q => absurd q.2 (by decide)), d4 k 2 (by omega) (fun q => absurd q.2 (by decide)), b3, show sN S2 = sN S + 2 by omega]
    | 3, _ => rw [d5 k 3 (by omega) (fun q => absurd q.2 (by decide)), b4, show sN S3 = sN S + 3 by omega]
    | 4, _ => rw [b5, show sN S4 = sN S + 4 by omega]
theorem x_B55 {T : Nat → Nat} {S : AS} (hT : TI T S) (hx : Tx T 1 (some 4)) (h8 : (sI S 17 2).toInt < 8) : Ho (f_K_publish_B55 S (some 4) 1) (fun q => q.1 = .inl (sI S 17 2) ∧ NEW S q.2) := by
  have g := Rlrf hT
  have K4 : sK S 4 = 22 := Tx.K hT hT.t9.2.2.2.2.1 (by decide)
  unfold f_K_publish_B55
  rw [rS1, bx_l]
  refine r_gR g.1 hx rfl rfl (fun v3 h2 => ?_)
  refine r_gR g.1 hx rfl rfl (fun v4 h3 => ?_)
  refine r_rv g.1 h2 rfl ?_
  refine r_b2 (ho_add (w' := kw_K43) 0 g h2 (by decide) h3 rfl h8 (by decide) (by decide +kernel)) (fun v7 S6 hh => ?_)
  obtain ⟨T5, g6, e7, e7s⟩ := hh
  have g6 : Rl T kw_K43 S 1 300 T5 S6 := g6
  have e7s : sI S6 17 2 = sI S 17 2 + 1 := e7s
  have h4 : T5 4 = 1 := g6.1.t9.2.2.2.2.1
  have n4 : 4 < sN S6 := (g6.1.t1 4 (by rw [h4]; decide)).1
  have n17 : 17 < sN S6 := (g6.1.t1 17 (by have := (g6.1.t6 0 (by decide)).1; rw [show lp 0 = 17 from rfl] at this; rw [this]; decide)).1
  have K46 : sK S6 4 = 22 := Tx.K g6.1 h4 (by decide)
  have r46 := g6.1.t2 4 6 20 (by rw [h4]; rfl)
  rw [Option.bind_some]
  have e13 : sK (nO S6 13) (sN S6) = 13 := (ti_wN0 S6 13 0 (kr_cN (13 - 10))).1
  have old : ∀ p, p < sN S6 → sI (nO S6 13) p = sI S6 p ∧ sK (nO S6 13) p = sK S6 p ∧ sR (nO S6 13) p = sR S6 p := fun p hp => by
    have e := ti_wN (S := S6) (κ := 13) (l := 0) (s := kr_cN (13 - 10)) (k := p) (by omega)
    exact ⟨e.2.2.1, e.1, e.2.2.2.1⟩
  have nw : sI (nO S6 13) (sN S6) = fun _ => 0 := (ti_wN0 S6 13 0 (kr_cN (13 - 10))).2.2.1
  have nn : sN (nO S6 13) = sN S6 + 1 := rfl
  generalize nO S6 13 = S8 at *
  refine r_bind (x_Flow (S := S8) (k := sN S6) (by omega) e13) (fun S9 h9 => ?_)
  obtain ⟨a1, a2, a3, r, a4, a5⟩ := h9
  have k9 : sK S9 4 = 22 := by rw [(a2 4 (by omega)).2, (old 4 n4).2.1, K46]
  rw [ti_pR k9 (pb_k (by rw [(a2 (sN S6) (by omega)).2, e13]; decide)), Option.bind_some]
  have k10 : sK (wR S9 4 5 (some (sN S6))) 4 = 22 := k9
  obtain ⟨d, hd, hd2, -⟩ := r46
  have hd17 : d = 17 := g6.1.t7 d 17 (by rw [hd2]; rfl)
  have k20 : sK S6 d = 10 := (Tx.K g6.1 hd2 (by decide)).trans rfl
  have nd : d < sN S6 := (g6.1.t1 d (by rw [hd2]; decide)).1
  have r10 : sR (wR S9 4 5 (some (sN S6))) 4 6 = some d := by
    rw [ti_sR_ne (by omega), a3 4 6 (by omega) (by omega), (old 4 n4).2.2]
    exact hd
  have k10d : sK (wR S9 4 5 (some (sN S6))) d = 10 := by
    show sK S9 d = 10
    rw [(a2 d (by omega)).2, (old d nd).2.1, k20]
  have new : NEW S (wR S9 4 5 (some (sN S6))) := by
    refine ⟨?_, sN S6, r, ti_sR_eq S9 4 5 _, ?_, fun j hj => ?_, a5⟩
    · show sI S9 17 2 = _
      rw [(a2 17 (by omega)).1, (old 17 n17).1]
      exact e7s
    · show sI S9 (sN S6) 5 = 0
      rw [(a2 (sN S6) (by omega)).1, nw]
    · rw [ti_sR_ne (by omega)]
      exact a4 j hj
  generalize wR S9 4 5 (some (sN S6)) = S10 at *
  rw [ti_gR k10, Option.bind_some, r10, ti_rv k10d, Option.bind_some]
  unfold f_AL_size
  rw [ti_gI k10d, Option.bind_some, b2_s, hd17, new.1, Int32.add_sub_cancel]
  exact r_some ⟨rfl, new⟩
def PK (S : AS) (n : Nat) : Prop := 0 < n ∧ (sI S 17 2).toInt < 8 ∧ nxin S 96 n ∧ ∃ ρ, rnk S 96 n ρ
theorem x_K_publish {T : Nat → Nat} {S : AS} {f n : Nat} {r : Nat → Nat} (hT : TI T S) (hx : Tx T 1 (some 4)) (h : DR T S f n r) (hsr : SR S) : Ho (f_K_publish S (some 4)) (fun q => (¬ PK S n ∧ q = (.inr "java/lang/IllegalStateException", wX S)) ∨ (PK S n ∧ q.1 = .inl (sI S 17 2) ∧ NEW S q.2)) := by
  obtain ⟨K4, Kf, Kr, -⟩ := DR_K hT h
  have hn := h.2.2.1
  have i1 := (gl2 n (by omega)).1
  have no : ∀ {S' : AS}, S' = S → ¬ PK S n → Ho (f_K_publish_B54 S' (some 4)) (fun q => (¬ PK S n ∧ q = (.inr "java/lang/IllegalStateException", wX S)) ∨ (PK S n ∧ q.1 = .inl (sI S 17 2) ∧ NEW S q.2)) := fun e hp => by
    rw [e]
    unfold f_K_publish_B54 f_K_publish_B55
    rw [rS0, bx_r]
    exact r_some (Or.inl ⟨hp, rfl⟩)
  unfold f_K_publish
  refine r_gR hT hx rfl rfl (fun v27 h1 => ?_)
  refine r_rv hT h1 rfl ?_
  refine r_size 0 hT h1 (by decide) (fun v30 e2 => ?_)
  have e2 : v30 = sI S 17 2 := e2
  refine r_if (fun c => ?_) (fun c => ?_)
  · have := Int32.le_iff_toInt_le.mp c
    rw [show (8 : Int32).toInt = 8 from by decide, e2] at this
    unfold f_K_publish_B17
    rw [rS0, bx_r]
    exact r_some (Or.inl ⟨fun q => by have := q.2.1; omega, rfl⟩)
  · have h8 := Int32.lt_iff_toInt_lt.mp (Int32.not_le.mp c)
    rw [show (8 : Int32).toInt = 8 from by decide, e2] at h8
    unfold f_K_publish_B17
    rw [rS1, bx_l, ti_gR K4, Option.bind_some, h.1, x_g Kf h.2.2.2.1, Option.bind_some]
    refine r_if (fun c2 => no rfl (fun q => ?_)) (fun c2 => ?_)
    · have := Int32.le_iff_toInt_le.mp c2
      rw [i1, show (0 : Int32).toInt = 0 from by decide] at this
      have := q.1
      omega
    · have n0 : 0 < n := by
        have := Int32.lt_iff_toInt_lt.mp (Int32.not_le.mp c2)
        rw [i1, show (0 : Int32).toInt = 0 from by decide] at this
        omega
      rw [Option.bind_some, ti_rv Kf, Option.bind_some]
      refine r_b2 (x_all hT h hsr) (fun v22 S21 p => ?_)
      obtain ⟨e, p⟩ := p
      have e : S21 = S := e
      rw [e]
      rcases p with ⟨p, hx1⟩ | ⟨p, hx1⟩
      · have p : v22 = 1 := p
        rw [p, if_neg (by decide : ¬ (1 : Int32) = 0), ti_gR K4, Option.bind_some, h.1, ti_rv Kf, Option.bind_some]
        refine r_b2 (x_loop hT h hsr hx1) (fun v26 S25 p2 => ?_)
        obtain ⟨e', p2⟩ := p2
        have e' : S25 = S := e'
        rw [e']
        rcases p2 with ⟨p2, hr⟩ | ⟨p2, hr⟩
        · have p2 : v26 = 0 := p2
          rw [p2, if_pos rfl]
          obtain ⟨q, hq, hq2⟩ := x_B55 hT hx h8
          exact ⟨q, hq, Or.inr ⟨⟨n0, h8, hx1, hr⟩, hq2⟩⟩
        · have p2 : v26 = 1 := p2
          rw [p2, if_neg (by decide : ¬ (1 : Int32) = 0)]
          exact no rfl (fun q => hr q.2.2.2)
      · have p : v22 = 0 := p
        rw [p, if_pos rfl]
        exact no rfl (fun q => hx1 q.2.2.1)
theorem x_W_publish {T : Nat → Nat} {S : AS} {f n : Nat} {r : Nat → Nat} (hT : TI T S) (hx : Tx T 1 (some 4)) (h : DR T S f n r) (hsr : SR S) : Ho (f_W_publish S (some 4) (some 126)) (fun q => (¬ PK S n ∧ q = (1, wX S)) ∨ (PK S n ∧ q.1 = 0 ∧ NEW S q.2 ∧ sJ q.2 126 0 = (sI S 17 2).toInt64)) := by
  obtain ⟨K4, -⟩ := DR_K hT h
  unfold f_W_publish
  rw [ti_rv K4, Option.bind_some]
  obtain ⟨⟨v, S2⟩, hq, p, T', g, -⟩ := ho_and (x_K_publish hT hx h hsr) (t_K_publish hT hx)
  have g : Rl T kw_K44 S 7 380 T' S2 := g
  rw [hq]
  rcases p with ⟨np, e⟩ | ⟨yp, e, new⟩
  · obtain ⟨e1, e2⟩ := Prod.mk.inj e
    rw [e1, e2, bh_r]
    exact r_ifT rfl (r_some (Or.inl ⟨np, rfl⟩))
  · have e : v = .inl (sI S 17 2) := e
    have e6 := g.1.t9.2.2.2.2.2
    rw [e, bh_l, bJ_K (Tx.K g.1 e6 (by decide)) ((g.1.t1 126 (by rw [e6]; decide)).2.2.2 1 (by rw [e6]; rfl)), Option.bind_some]
    have new : NEW S S2 := new
    exact r_some (Or.inr ⟨yp, rfl, new, sJ_wJ S2 _⟩)
end
section
/-! ===== the whole relation between the law's calls; step, clear ===== -/
def ka_STP : List Nat := [100, 109, 202, 300, 600, 700, 800, 1000, 1001, 1002, 1003, 1004, 1100, 1200, 1300, 1303, 1304, 1305, 1306, 1307, 1308, 1310, 1311, 1400, 1500, 1600, 1700, 1701, 1702, 1703, 2002, 2102, 2202, 2302, 2402, 2502, 2602, 4201, 4202, 4300, 4304, 4305, 4306, 4401, 4402, 4403, 4404, 4405, 4406, 4407, 4408, 4409, 4410, 4411, 4501, 4502, 4503, 4504, 4505, 4506, 4601, 4602, 4603, 4604, 4800, 5200, 5201, 5202, 50500, 50900, 51301, 51302, 51309, 52001, 52101, 52201, 52301, 52401, 52501, 52601, 53000, 53100, 53200, 53300, 53400, 53500, 53600, 54200, 54203, 54204, 54301, 54302, 54303, 54400, 54500, 54600, 54700]
def ma_STP : List Nat := [10000, 10009, 10019, 10030, 10039, 10046, 10052, 10060, 10061, 10062, 10063, 10070, 10077, 10100, 10200, 10300, 10400, 10500, 10600, 10700, 10800, 11700, 11800, 12000, 12100, 12200, 12300, 12900, 13100, 13200, 13300, 13400, 13500, 13600, 13700, 13800, 14000, 14100, 14200, 14300, 14400, 14500, 14700, 14800, 14900, 15000, 15100, 15300, 15400, 15500, 15600, 15700, 15800, 15900, 16400, 16500, 16600, 16700, 16800, 16900, 17100, 17200, 17300, 17400, 17500, 17600, 17800, 17900]
theorem FA_STP {T T' Tm Tm' : Nat → Nat} {S S' m m' : AS} (hT : TV T S) (hm : TI Tm m) (h : FR S m) (k : Kp T T' ka_STP S S') (q : Kp Tm Tm' ma_STP m m') (xcVer : cVer S' m') (xcDrB : cDrB S' m') (xcAst : cAst S' m') : FR S' m' := by
  have b := FR_BB hT hm h
  have K : ∀ {ds : List Nat}, ds.all (fun z => ka_STP.contains z) = true → Kp T T' ds S S' := fun hs => Kp_sub k (fun z hz => List.contains_iff_mem.mp (List.all_eq_true.mp hs z hz))
  have Q : ∀ {ds : List Nat}, ds.all (fun z => ma_STP.contains z) = true → Kp Tm Tm' ds m m' := fun hs => Kp_sub q (fun z hz => List.contains_iff_mem.mp (List.all_eq_true.mp hs z hz))
  exact ⟨cNW_fr b h.NW (K (by decide +kernel)) (Q (by decide +kernel)), cPF_fr b h.PF (K (by decide +kernel)) (Q (by decide +kernel)), cWgt_fr b h.Wgt (K (by decide +kernel)) (Q (by decide +kernel)), cFac_fr b h.Fac (K (by decide +kernel)) (Q (by decide +kernel)), cWrg_fr b h.Wrg (K (by decide +kernel)) (Q (by decide +kernel)), cKn_fr b h.Kn (K (by decide +kernel)) (Q (by decide +kernel)), cCon_fr b h.Con (K (by decide +kernel)) (Q (by decide +kernel)), cHlp_fr b h.Hlp (K (by decide +kernel)) (Q (by decide +kernel)), cAwy_fr b h.Awy (K (by decide +kernel)) (Q (by decide +kernel)), cPts_fr b h.Pts (K (by decide +kernel)) (Q (by decide +kernel)), cLnk_fr b h.Lnk (K (by decide +kernel)) (Q (by decide +kernel)), xcVer, xcDrB, cAtt_fr b h.Att (K (by decide +kernel)) (Q (by decide +kernel)), xcAst, cAsh_fr b h.Ash (K (by decide +kernel)) (Q (by decide +kernel)), cSes_fr b h.Ses (K (by decide +kernel)) (Q (by decide +kernel)), cUsd_fr b h.Usd (K (by decide +kernel)) (Q (by decide +kernel)), cLiv_fr b h.Liv (K (by decide +kernel)) (Q (by decide +kernel)), cSsh_fr b h.Ssh (K (by decide +kernel)) (Q (by decide +kernel)), cMin_fr b h.Min (K (by decide +kernel)) (Q (by decide +kernel)), cCod_fr b h.Cod (K (by decide +kernel)) (Q (by decide +kernel)), cFre_fr b h.Fre (K (by decide +kernel)) (Q (by decide +kernel)), cFam_fr b h.Fam (K (by decide +kernel)) (Q (by decide +kernel)), cNum_fr b h.Num (K (by decide +kernel)) (Q (by decide +kernel)), cGod_fr b h.God (K (by decide +kernel)) (Q (by decide +kernel)), cTok_fr b h.Tok (K (by decide +kernel)) (Q (by decide +kernel)), cAud_fr b h.Aud (K (by decide +kernel)) (Q (by decide +kernel)), cSrv_fr b h.Srv (K (by decide +kernel)) (Q (by decide +kernel)), cNed_fr b h.Ned (K (by decide +kernel)) (Q (by decide +kernel)), cChe_fr b h.Che (K (by decide +kernel)) (Q (by decide +kernel)), cKey_fr b h.Key (K (by decide +kernel)) (Q (by decide +kernel)), cRec_fr b h.Rec (K (by decide +kernel)) (Q (by decide +kernel)), cAU_fr b h.AU (K (by decide +kernel)) (Q (by decide +kernel))⟩
def RPF (T : Nat → Nat) (S : AS) : Prop := (∃ f n r, DR T S f n r) ∧ T 1 = 52 ∧ FR S S
theorem z_RPF : RPF kr_T0 kr_Z := by
  refine ⟨⟨11, 0, z_r, by decide +kernel, by decide +kernel, by decide, by decide +kernel, by decide +kernel, ?_, fun i j _ _ e => by unfold z_r at e; omega, fun j k _ h => absurd h (Nat.not_lt_zero _)⟩, by decide +kernel, z_FR⟩
  intro j hj
  match j, hj with
  | 0, _ => exact ⟨by decide +kernel, by decide +kernel⟩
  | 1, _ => exact ⟨by decide +kernel, by decide +kernel⟩
  | 2, _ => exact ⟨by decide +kernel, by decide +kernel⟩
  | 3, _ => exact ⟨by decide +kernel, by decide +kernel⟩
  | 4, _ => exact ⟨by decide +kernel, by decide +kernel⟩
theorem k_FR_82 : ¬ cl 100 82 ∈ k_FR := by decide +kernel
theorem m_FR_82' : ¬ cl 100 82 ∈ m_FR := by decide +kernel
/-- a refused call -/
theorem FR_no {T : Nat → Nat} {S : AS} (hT : TV T S) (h : FR S S) (v : Int32) : FR (wI (wX S) 57 82 v) (wI (wX S) 57 82 v) := by
  have k : ∀ {cs : List Nat}, ¬ cl 100 82 ∈ cs → Kp T T cs S (wI (wX S) 57 82 v) := fun q => Kp_tr (S' := wX S) ⟨fun _ _ => rfl, fun _ _ _ _ => rfl, fun _ _ _ _ => rfl⟩ (Kp_wI v hT.1.t9.1 q)
  exact FR_fr hT hT.1 h (k k_FR_82) (k m_FR_82')
theorem DR_no {T T1 : Nat → Nat} {S : AS} {f n : Nat} {r : Nat → Nat} (dr : DR T S f n r) (ty : ∀ k, T k ≠ 0 → T1 k = T k) (hT1 : TI T1 (wX S)) (v : Int32) : DR T1 (wI (wX S) 57 82 v) f n r := DR_fr (DR_X (DR_T dr ty)) (thr_Rl hT1 (x := some 57) ⟨_, rfl, hT1.t9.1, by decide⟩ v) (by decide +kernel)
theorem ver_same {T : Nat → Nat} {S S2 : AS} (h : cVer S S) (sz : SZ 17 9 8 S2 S2) (en : nV S2 = nV S) (el : ∀ v, v < nV S → lel S2 17 v = lel S 17 v) (ed : fa S2 4 5 = fa S 4 5) (ef : ∀ v j, v < nV S → j < 5 → fa S2 (lel S 17 v) j = fa S (lel S 17 v) j) (edf : ∀ j, j < 5 → fa S2 (fa S 4 5) j = fa S (fa S 4 5) j)
    (i1 : ∀ v, v < nV S → sI S2 (lel S 17 v) 5 = sI S (lel S 17 v) 5) (i2 : ∀ v j k, v < nV S → j < 5 → sI S2 (fa S (lel S 17 v) j) k = sI S (fa S (lel S 17 v) j) k) (m6 : ∀ v, v < 8 → sI S2 66 v = sI S 66 v) (mr : ∀ j i, j < 5 → i < 96 → sI S2 (67 + j) i = sI S (67 + j) i) : cVer S2 S2 := by
  have n8 : nV S ≤ 8 := h.1.1
  refine ⟨sz, fun v hv => ?_⟩
  rw [en] at hv
  obtain ⟨⟨n, g1, g2, g3, g4, g5⟩, h2, h3, h4, h5⟩ := h.2 v hv
  rw [el v hv, ed]
  refine ⟨⟨n, g1, g2, (i1 v hv).trans g3, (m6 v (by omega)).trans g4, fun j k hj hk => ?_⟩, fun k hk hz => ?_, h3, fun j i hj hi => ?_, fun u hu e => ?_⟩
  · rw [ef v j hv hj, i2 v j k hv hj, mr j _ hj (by omega)]
    exact g5 j k hj hk
  · rw [m6 v (by omega), g4, oi (by omega)] at hk
    have e0 := mr 0 (12 * v + k) (by omega) (by omega)
    have e2 := mr 2 (12 * v + k) (by omega) (by omega)
    have e0 : sI S2 67 (12 * v + k) = sI S 67 (12 * v + k) := e0
    have e2 : sI S2 69 (12 * v + k) = sI S 69 (12 * v + k) := e2
    rw [e0] at hz
    rw [e2]
    exact h2 k (by rw [g4, oi (by omega)]; exact hk) hz
  · rw [ef v j hv hj, edf i hi]
    exact h4 j i hj hi
  · rw [en] at hu
    rw [el u hu] at e
    exact h5 u hu e
/-- attempts stand below the draft's row -/
theorem ast_idx {T : Nat → Nat} {S : AS} (hT : TI T S) (h : FR S S) {a : Nat} (ha : a < uA S) : 12 * nn (sI S 78 a) + nn (sI S 79 a) < 96 := by
  obtain ⟨-, -, -, -, ⟨v, v1, -, v3⟩, -⟩ := h.Att.2 a ha
  have n8 : nV S ≤ 8 := h.Ver.1.1
  have a60 : a < 60 := by
    have := h.Att.1.1
    unfold uA at ha
    omega
  obtain ⟨-, t79, -⟩ := md_at hT (j := 24) (p := 79) rfl rfl
  obtain ⟨g1, g2⟩ := hT.t5 79 a 60 (-1) 11 (by rw [t79]; rfl) a60
  rw [v3, nn_o (by omega)]
  have : nn (sI S 79 a) ≤ 11 := by
    unfold nn
    by_cases c : 0 ≤ (sI S 79 a).toInt
    · have := natI c
      omega
    · have e : (sI S 79 a).toInt = -1 := by omega
      have : sI S 79 a = -1 := Int32.toInt_inj.mp (by rw [e]; decide)
      rw [this]
      decide
  omega
theorem pr_step {n : Nat} {T T1 : Nat → Nat} {S S1 S2 : AS} {k v a b c y z : Int32} (hI : IV n T S) (hr : RPF T S) (e1 : f_W_step S (some 4) a b c y z (some 126) = some (k, S1)) (g1 : Rl T (99999 :: kw_K13) S 10 700 T1 S1) (e2 : f_M_step S1 (some 57) a b c y z = some (v, S2)) (g2 : Rl T1 kw_st S1 1 0 T1 S2) : sI S2 57 82 = k ∧ (k = 0 → sJ S1 126 0 = v.toInt64) ∧ RPF T1 S2 := by
  obtain ⟨⟨f, m, r, dr⟩, t1, h⟩ := hr
  have hT : TV T S := ⟨hI.1, t1⟩
  have t57 : Tx T 100 (some 57) := ⟨_, rfl, hI.1.t9.1, by decide⟩
  have t57' : Tx T1 100 (some 57) := ⟨_, rfl, g1.1.t9.1, by decide⟩
  have t1' : T1 1 = 52 := (g1.ty 1 (by rw [t1]; decide)).trans t1
  obtain ⟨K4, Kf, Kr, f57, k6, r57⟩ := DR_K hI.1 dr
  have m12 := dr.2.2.1
  obtain ⟨k57, kk⟩ := k_keeps hI.1 g1 t57 (by decide +kernel)
  have hs8 : (sI S1 66 8).toInt = (m : Int) := by
    rw [kk 10 110 66 rfl rfl (by decide) (by decide) (by decide) 8, dr.2.2.2.2.1]
    exact oi (by omega)
  obtain ⟨q, hq, p⟩ := x_W_step hI.1 dr a b c y z
  rw [e1] at hq
  cases hq
  obtain ⟨q2, hq2, -, p2⟩ := t_M_stepX (k := a) (a := b) (b := c) (y := y) (z := z) g1.1 t57' m12 hs8
  rw [e2] at hq2
  cases hq2
  rcases p with ⟨no, p⟩ | ⟨ok, m13, p⟩ | ⟨ok, m13, p⟩
  · obtain ⟨rfl, rfl⟩ := Prod.mk.inj p
    rcases p2 with ⟨-, p2⟩ | ⟨ok2, -⟩ | ⟨ok2, -⟩
    · obtain ⟨rfl, rfl⟩ := Prod.mk.inj p2
      exact ⟨ti_sI_eq _ _ _ _, fun q => absurd q (by decide), ⟨f, m, r, DR_no dr g1.ty g1.1 1⟩, t1', FR_no hT h 1⟩
    · exact absurd ok2 no
    · exact absurd ok2 no
  · obtain ⟨rfl, rfl⟩ := Prod.mk.inj p
    rcases p2 with ⟨no, p2⟩ | ⟨-, -, p2⟩ | ⟨-, m2, -⟩
    · exact absurd ok no
    · obtain ⟨rfl, rfl⟩ := Prod.mk.inj p2
      exact ⟨ti_sI_eq _ _ _ _, fun q => absurd q (by decide), ⟨f, m, r, DR_no dr g1.ty g1.1 2⟩, t1', FR_no hT h 2⟩
    · omega
  · obtain ⟨ek, eS⟩ := Prod.mk.inj p
    rcases p2 with ⟨no, -⟩ | ⟨-, m2, -⟩ | ⟨-, -, ev, st⟩
    · exact absurd ok no
    · omega
    · have ev : v = Int32.ofNat m := ev
      have st : STP S1 S2 m a b c y z := st
      have kst : KST S S1 f m r a b c y z := by
        rw [eS]
        exact KST_of (fun j hj => (Kr j hj).2.2) dr.2.2.2.2.2.2.1 _
      obtain ⟨b1, b2, b3, b4⟩ := kst
      have o2 : ∀ p i, p ≠ 57 → (∀ q, 66 ≤ q → q ≤ 71 → p ≠ q) → sI S2 p i = sI S1 p i := fun p i h1 h2 => by
        rw [st p i, if_neg (fun q => h1 q.1), if_neg (fun q => h2 66 (by decide) (by decide) q.1), if_neg (fun q => h2 p (by omega) (by omega) rfl)]
      have bb := FR_BB hT hI.1 h
      have kS : ∀ {cs : List Nat}, cs.all (fun z => !(99999 :: kw_K13).contains z) = true → cs.all (fun z => !kw_st.contains z) = true → Kp T T1 cs S S2 := fun h1 h2 => Kp_tr (Kp_of g1 h1) (Kp_of g2 h2)
      have kA := kS (cs := ka_STP) (by decide +kernel) (by decide +kernel)
      have mA := kS (cs := ma_STP) (by decide +kernel) (by decide +kernel)
      have kR := kS (cs := [52001, 53000, 50105, 54000, 54001, 54002, 54003, 54004, 10009, 2002, 52101, 53100, 10019]) (by decide +kernel) (by decide +kernel)
      have fD : fa S 4 5 = f := by
        unfold fa
        rw [dr.1]
        rfl
      have rD : ∀ j, j < 5 → fa S f j = r j := fun j hj => by
        unfold fa
        rw [(dr.2.2.2.2.2.1 j hj).1]
        rfl
      have eV : nV S2 = nV S := enV bb kR (by decide)
      have eA' : uA S2 = uA S := enA bb kR (by decide)
      have nV8 : nV S ≤ 8 := h.Ver.1.1
      have m67 : ∀ j i, j < 6 → (i < 96 ∧ ¬ (j = 0 ∧ i = 8)) → sI S2 (66 + j) i = sI S (66 + j) i := fun j i hj hi => by
        rw [st (66 + j) i, if_neg (by omega), if_neg (by omega), if_neg (by omega)]
        exact b3 (66 + j) (k6 (66 + j) (by omega) (by omega)).1 (k6 (66 + j) (by omega) (by omega)).2 i
      refine ⟨?_, fun _ => ?_, ⟨f, m + 1, r, DR_step hI.1 dr m13 ⟨b1, b2, b3, b4⟩ g1.ty g2 (by decide +kernel) st⟩, t1', FA_STP hT hI.1 h kA mA ?_ (fun i hi hz => ?_) ?_⟩
      · rw [st 57 82, if_pos ⟨rfl, rfl⟩, ek]
      · rw [eS, sJ_wJ, ev]
      · refine ver_same (T := T) h.Ver (fzV bb kR kR (by decide) (by decide)) eV (fun w hw => lV bb kR (by decide) (by decide) hw) (faD_k hI.1 kR (by decide)) (fun w j hw hj => fa_k (tyV bb hw) hj kR (by decide)) (fun j hj => fa_k (tyD hI.1).2 hj kR (by decide)) (fun w hw => ?_) (fun w j i hw hj => ?_) (fun w hw => m67 0 w (by omega) (by omega)) (fun j i hj hi => ?_)
        · have tw := tyV bb hw
          have ne : lel S 17 w ≠ f := by
            rw [← fD]
            exact (h.Ver.2 w hw).2.2.1
          rw [o2 _ 5 (fun q => by
            rw [q, hI.1.t9.1] at tw
            exact absurd tw (by decide)) (fun q h1 h2 e => by
            have : T q = 44 + q := by
              have : q = 66 ∨ q = 67 ∨ q = 68 ∨ q = 69 ∨ q = 70 ∨ q = 71 := by omega
              rcases this with rfl | rfl | rfl | rfl | rfl | rfl
              · exact (md_ty hI.1 (j := 10) rfl rfl).1
              · exact (md_ty hI.1 (j := 11) rfl rfl).1
              · exact (md_ty hI.1 (j := 12) rfl rfl).1
              · exact (md_ty hI.1 (j := 13) rfl rfl).1
              · exact (md_ty hI.1 (j := 14) rfl rfl).1
              · exact (md_ty hI.1 (j := 15) rfl rfl).1
            rw [← e, tw] at this
            omega)]
          exact b3 _ ne (fun j hj q => by
            have := (dr.2.2.2.2.2.1 j hj).2
            rw [q, tw] at this
            exact absurd this (by decide)) 5
        · have tw := (tyW hI.1 (tyV bb hw) hj).2
          have ne : fa S (lel S 17 w) j ≠ f := fun q => by
            rw [q, dr.2.1] at tw
            exact absurd tw (by decide)
          rw [o2 _ i (fun q => by
            rw [q, hI.1.t9.1] at tw
            exact absurd tw (by decide)) (fun q h1 h2 e => by
            have : T q = 44 + q := by
              have : q = 66 ∨ q = 67 ∨ q = 68 ∨ q = 69 ∨ q = 70 ∨ q = 71 := by omega
              rcases this with rfl | rfl | rfl | rfl | rfl | rfl
              · exact (md_ty hI.1 (j := 10) rfl rfl).1
              · exact (md_ty hI.1 (j := 11) rfl rfl).1
              · exact (md_ty hI.1 (j := 12) rfl rfl).1
              · exact (md_ty hI.1 (j := 13) rfl rfl).1
              · exact (md_ty hI.1 (j := 14) rfl rfl).1
              · exact (md_ty hI.1 (j := 15) rfl rfl).1
            rw [← e, tw] at this
            omega)]
          refine b3 _ ne (fun i' hi' q => ?_) i
          have := (h.Ver.2 w hw).2.2.2.1 j i' hj hi'
          rw [fD, rD i' hi'] at this
          exact this q.symm
        · have := m67 (j + 1) i (by omega) (by omega)
          rw [show 66 + (j + 1) = 67 + j by omega] at this
          exact this
      · have c66 : (sI S2 66 8).toInt = (m + 1 : Int) := by
          rw [st 66 8, if_neg (by decide), if_pos ⟨rfl, rfl⟩, oi (by omega)]
          omega
        rw [c66] at hi
        rw [st 67 (96 + i), if_neg (by omega), if_neg (by omega)] at hz
        rw [st 69 (96 + i), if_neg (by omega), if_neg (by omega)]
        by_cases ci : i = m
        · rw [if_pos (by omega)] at hz ⊢
          have hz : a = 0 := hz
          obtain ⟨-, -, o3, -⟩ := ok
          rw [if_pos hz] at o3
          exact o3.1
        · rw [if_neg (by omega)] at hz ⊢
          rw [b3 67 (k6 67 (by omega) (by omega)).1 (k6 67 (by omega) (by omega)).2] at hz
          rw [b3 69 (k6 69 (by omega) (by omega)).1 (k6 69 (by omega) (by omega)).2]
          exact h.DrB i (by rw [dr.2.2.2.2.1, oi (by omega)]; omega) hz
      · have kT := kS (cs := [4205, 4206, 4207, 4208, 4209, 12300, 12400, 12500, 12600, 12700, 12800]) (by decide +kernel) (by decide +kernel)
        refine ⟨fun w hw hw2 => ?_, fun w hw => ?_⟩
        · rw [eA'] at hw
          rw [kT.M hI.1 (j := 27) (p := 82) rfl (by decide) (by decide)]
          exact h.Ast.1 w hw hw2
        · rw [eA'] at hw
          have tw := tyA bb hw
          have i69 : sI S2 69 (12 * nn (sI S 78 w) + nn (sI S 79 w)) = sI S 69 (12 * nn (sI S 78 w) + nn (sI S 79 w)) := m67 3 _ (by omega) ⟨ast_idx hI.1 h hw, by omega⟩
          rw [lA bb kR (by decide) (by decide) hw, kT.O (j := 5) tw (by decide) (by decide), kT.O (j := 6) tw (by decide) (by decide), kT.O (j := 7) tw (by decide) (by decide), kT.O (j := 8) tw (by decide) (by decide), kT.O (j := 9) tw (by decide) (by decide), kT.M hI.1 (j := 23) (p := 78) rfl (by decide) (by decide), kT.M hI.1 (j := 24) (p := 79) rfl (by decide) (by decide), kT.M hI.1 (j := 25) (p := 80) rfl (by decide) (by decide), kT.M hI.1 (j := 26) (p := 81) rfl (by decide) (by decide), kT.M hI.1 (j := 27) (p := 82) rfl (by decide) (by decide), kT.M hI.1 (j := 28) (p := 83) rfl (by decide) (by decide), i69]
          exact h.Ast.2 w hw
theorem pr_clear {n : Nat} {T T1 : Nat → Nat} {S S1 S2 : AS} {k v : Int32} (hI : IV n T S) (hr : RPF T S) (e1 : f_K_clear S (some 4) = some (k, S1)) (g1 : Rl T (99999 :: kw_K42) S 10 700 T1 S1) (e2 : f_M_clear S1 (some 57) = some (v, S2)) (g2 : Rl T1 kw_st S1 1 0 T1 S2) : k = v ∧ RPF T1 S2 := by
  obtain ⟨⟨f, m, r, dr⟩, t1, h⟩ := hr
  have hT : TV T S := ⟨hI.1, t1⟩
  have t57 : Tx T 100 (some 57) := ⟨_, rfl, hI.1.t9.1, by decide⟩
  have t57' : Tx T1 100 (some 57) := ⟨_, rfl, g1.1.t9.1, by decide⟩
  have t1' : T1 1 = 52 := (g1.ty 1 (by rw [t1]; decide)).trans t1
  obtain ⟨K4, Kf, Kr, f57, k6, r57⟩ := DR_K hI.1 dr
  have m12 := dr.2.2.1
  obtain ⟨k57, kk⟩ := k_keeps hI.1 g1 t57 (by decide +kernel)
  have hs8 : (sI S1 66 8).toInt = (m : Int) := by
    rw [kk 10 110 66 rfl rfl (by decide) (by decide) (by decide) 8, dr.2.2.2.2.1]
    exact oi (by omega)
  rw [x_K_clear hI.1 dr] at e1
  obtain ⟨ek, eS⟩ := Prod.mk.inj (Option.some.inj e1)
  obtain ⟨q2, hq2, -, p2⟩ := t_M_clearX g1.1 t57' m12 hs8
  rw [e2] at hq2
  cases hq2
  obtain ⟨ev, eS2⟩ := Prod.mk.inj p2
  have r2 : sR S2 = sR S := by rw [eS2, ← eS]; rfl
  have oS : ∀ {p i : Nat}, ¬ (p = f ∧ i = 5) → ¬ (p = 57 ∧ i = 82) → ¬ (p = 66 ∧ i = 8) → sI S2 p i = sI S p i := fun z1 z2 z3 => by
    rw [eS2, ti_sI_ne z3, ti_sI_ne z2, ← eS, ti_sI_ne z1]
  have bb := FR_BB hT hI.1 h
  have t66 := (md_ty hI.1 (j := 10) (p := 66) rfl rfl).1
  have kS : ∀ {cs : List Nat}, ¬ 4005 ∈ cs → ¬ 10082 ∈ cs → ¬ 11000 ∈ cs → Kp T T cs S S2 := fun h1 h2 h3 => by
    rw [eS2, ← eS]
    exact Kp_tr (Kp_wI _ dr.2.1 (by rw [show cl 40 5 = 4005 by decide]; exact h1)) (Kp_tr (Kp_wI _ hI.1.t9.1 (by rw [show cl 100 82 = 10082 by decide]; exact h2)) (Kp_wA _ t66 (by decide) h3))
  have fD : fa S 4 5 = f := by
    unfold fa
    rw [dr.1]
    rfl
  have el : ∀ l i, lel S2 l i = lel S l i := fun l i => by
    unfold lel
    rw [r2]
  have ef : ∀ p i, fa S2 p i = fa S p i := fun p i => by
    unfold fa
    rw [r2]
  have eV : nV S2 = nV S := by
    unfold nV
    rw [oS (by omega) (by omega) (by omega)]
  have t17 : T 17 = 20 := (hI.1.t6 0 (by decide)).1
  have s8 : sI S2 66 8 = 0 := by rw [eS2, ti_sI_eq]
  refine ⟨?_, ⟨f, 0, r, ?_, (g1.ty f (by rw [dr.2.1]; decide)).trans dr.2.1, by omega, ?_, s8, fun j hj => ⟨?_, (g1.ty _ (by rw [(dr.2.2.2.2.2.1 j hj).2]; decide)).trans (dr.2.2.2.2.2.1 j hj).2⟩, dr.2.2.2.2.2.2.1, fun j i _ hi => absurd hi (Nat.not_lt_zero _)⟩, t1', FA_STP hT hI.1 h (kS (by decide) (by decide) (by decide)) (kS (by decide) (by decide) (by decide)) ?_ (fun i hi => ?_) ?_⟩
  · rw [← ek, ev]
  · rw [r2]
    exact dr.1
  · rw [eS2, ti_sI_ne (fun q => (k6 66 (by decide) (by decide)).1 q.1.symm), ti_sI_ne (fun q => f57 q.1), ← eS, ti_sI_eq]
    rfl
  · rw [r2]
    exact (dr.2.2.2.2.2.1 j hj).1
  · refine ver_same (T := T) h.Ver ?_ eV (fun w _ => el 17 w) (ef 4 5) (fun w j _ _ => ef _ j) (fun j _ => ef _ j) (fun w hw => oS (fun q => (h.Ver.2 w hw).2.2.1 (by rw [fD]; exact q.1)) (by omega) (by omega)) (fun w j i hw hj => ?_) (fun w hw => oS (fun q => (k6 66 (by decide) (by decide)).1 q.1) (by omega) (by omega)) (fun j i hj hi => oS (fun q => (k6 (67 + j) (by omega) (by omega)).1 q.1) (by omega) (by omega))
    · obtain ⟨z1, z2, z3⟩ := h.Ver.1
      refine ⟨?_, ?_, ?_⟩
      · rw [oS (by omega) (by omega) (by omega)]
        exact z1
      · rw [oS (by omega) (by omega) (by omega)]
        exact z2
      · rw [oS (by omega) (by omega) (by omega), oS (by omega) (by omega) (by omega)]
        exact z3
    · have tw := (tyW hI.1 (tyV bb hw) hj).2
      exact oS (fun q => by
        rw [q.1, dr.2.1] at tw
        exact absurd tw (by decide)) (fun q => by
        rw [q.1, hI.1.t9.1] at tw
        exact absurd tw (by decide)) (fun q => by
        rw [q.1, t66] at tw
        exact absurd tw (by decide))
  · rw [s8] at hi
    exact absurd hi (by
      rw [show (0 : Int32).toInt = 0 from by decide]
      omega)
  · have eA' : uA S2 = uA S := by
      unfold uA
      rw [oS (by omega) (by omega) (by omega)]
    refine ast_same h.Ast eA' (fun w _ => el 18 w) (fun w j hw => ?_) (fun q j hq => oS (fun z => ?_) (by omega) (by omega))
    · have tw := tyA bb hw
      exact oS (fun q => by
        rw [q.1, dr.2.1] at tw
        exact absurd tw (by decide)) (fun q => by
        rw [q.1, hI.1.t9.1] at tw
        exact absurd tw (by decide)) (fun q => by
        rw [q.1, t66] at tw
        exact absurd tw (by decide))
    · have tq : ∃ τ, T q = τ ∧ τ ≠ 40 := by
        rcases hq with rfl | rfl | rfl | rfl | rfl | rfl | rfl
        · exact ⟨_, (md_ty hI.1 (j := 24) rfl rfl).1, by decide⟩
        · exact ⟨_, (md_ty hI.1 (j := 25) rfl rfl).1, by decide⟩
        · exact ⟨_, (md_ty hI.1 (j := 26) rfl rfl).1, by decide⟩
        · exact ⟨_, (md_ty hI.1 (j := 27) rfl rfl).1, by decide⟩
        · exact ⟨_, (md_ty hI.1 (j := 28) rfl rfl).1, by decide⟩
        · exact ⟨_, (md_ty hI.1 (j := 23) rfl rfl).1, by decide⟩
        · exact ⟨_, (md_ty hI.1 (j := 13) rfl rfl).1, by decide⟩
      obtain ⟨τ, h1, h2⟩ := tq
      rw [z.1, dr.2.1] at h1
      exact h2 h1.symm
end
section
/-! ===== publish ===== -/
def ka_PUB : List Nat := [100, 109, 202, 300, 600, 700, 800, 1000, 1001, 1002, 1003, 1004, 1100, 1200, 1300, 1303, 1304, 1305, 1306, 1307, 1308, 1310, 1311, 1400, 1500, 1600, 1700, 1701, 1702, 1703, 2202, 2302, 2402, 2502, 2602, 4300, 4304, 4305, 4306, 4401, 4402, 4403, 4404, 4405, 4406, 4407, 4408, 4409, 4410, 4411, 4501, 4502, 4503, 4504, 4505, 4506, 4601, 4602, 4603, 4604, 4800, 5200, 5201, 5202, 50500, 50900, 51301, 51302, 51309, 52101, 52201, 52301, 52401, 52501, 52601, 53100, 53200, 53300, 53400, 53500, 53600, 54204, 54301, 54302, 54303, 54400, 54500, 54600, 54700]
def ma_PUB : List Nat := [10000, 10019, 10030, 10039, 10046, 10052, 10060, 10061, 10062, 10063, 10070, 10077, 10100, 10200, 10300, 10400, 10500, 10600, 10700, 10800, 11700, 11800, 12900, 13100, 13200, 13300, 13400, 13500, 13600, 13700, 13800, 14000, 14100, 14200, 14300, 14400, 14500, 14700, 14800, 14900, 15000, 15100, 15300, 15400, 15500, 15600, 15700, 15800, 15900, 16400, 16500, 16600, 16700, 16800, 16900, 17100, 17200, 17300, 17400, 17500, 17600, 17800, 17900]
theorem FA_PUB {T T' Tm Tm' : Nat → Nat} {S S' m m' : AS} (hT : TV T S) (hm : TI Tm m) (h : FR S m) (k : Kp T T' ka_PUB S S') (q : Kp Tm Tm' ma_PUB m m') (xcVer : cVer S' m') (xcDrB : cDrB S' m') (xcAtt : cAtt S' m') (xcAst : cAst S' m') : FR S' m' := by
  have b := FR_BB hT hm h
  have K : ∀ {ds : List Nat}, ds.all (fun z => ka_PUB.contains z) = true → Kp T T' ds S S' := fun hs => Kp_sub k (fun z hz => List.contains_iff_mem.mp (List.all_eq_true.mp hs z hz))
  have Q : ∀ {ds : List Nat}, ds.all (fun z => ma_PUB.contains z) = true → Kp Tm Tm' ds m m' := fun hs => Kp_sub q (fun z hz => List.contains_iff_mem.mp (List.all_eq_true.mp hs z hz))
  exact ⟨cNW_fr b h.NW (K (by decide +kernel)) (Q (by decide +kernel)), cPF_fr b h.PF (K (by decide +kernel)) (Q (by decide +kernel)), cWgt_fr b h.Wgt (K (by decide +kernel)) (Q (by decide +kernel)), cFac_fr b h.Fac (K (by decide +kernel)) (Q (by decide +kernel)), cWrg_fr b h.Wrg (K (by decide +kernel)) (Q (by decide +kernel)), cKn_fr b h.Kn (K (by decide +kernel)) (Q (by decide +kernel)), cCon_fr b h.Con (K (by decide +kernel)) (Q (by decide +kernel)), cHlp_fr b h.Hlp (K (by decide +kernel)) (Q (by decide +kernel)), cAwy_fr b h.Awy (K (by decide +kernel)) (Q (by decide +kernel)), cPts_fr b h.Pts (K (by decide +kernel)) (Q (by decide +kernel)), cLnk_fr b h.Lnk (K (by decide +kernel)) (Q (by decide +kernel)), xcVer, xcDrB, xcAtt, xcAst, cAsh_fr b h.Ash (K (by decide +kernel)) (Q (by decide +kernel)), cSes_fr b h.Ses (K (by decide +kernel)) (Q (by decide +kernel)), cUsd_fr b h.Usd (K (by decide +kernel)) (Q (by decide +kernel)), cLiv_fr b h.Liv (K (by decide +kernel)) (Q (by decide +kernel)), cSsh_fr b h.Ssh (K (by decide +kernel)) (Q (by decide +kernel)), cMin_fr b h.Min (K (by decide +kernel)) (Q (by decide +kernel)), cCod_fr b h.Cod (K (by decide +kernel)) (Q (by decide +kernel)), cFre_fr b h.Fre (K (by decide +kernel)) (Q (by decide +kernel)), cFam_fr b h.Fam (K (by decide +kernel)) (Q (by decide +kernel)), cNum_fr b h.Num (K (by decide +kernel)) (Q (by decide +kernel)), cGod_fr b h.God (K (by decide +kernel)) (Q (by decide +kernel)), cTok_fr b h.Tok (K (by decide +kernel)) (Q (by decide +kernel)), cAud_fr b h.Aud (K (by decide +kernel)) (Q (by decide +kernel)), cSrv_fr b h.Srv (K (by decide +kernel)) (Q (by decide +kernel)), cNed_fr b h.Ned (K (by decide +kernel)) (Q (by decide +kernel)), cChe_fr b h.Che (K (by decide +kernel)) (Q (by decide +kernel)), cKey_fr b h.Key (K (by decide +kernel)) (Q (by decide +kernel)), cRec_fr b h.Rec (K (by decide +kernel)) (Q (by decide +kernel)), cAU_fr b h.AU (K (by decide +kernel)) (Q (by decide +kernel))⟩
theorem p_ho {α : Type} {x : Option α} {P : α → Prop} (h : Ho x P) : Hp x P := fun a ha => by
  obtain ⟨b, hb, p⟩ := h
  rw [ha] at hb
  cases hb
  exact p
def FL2 (S : AS) (k j : Nat) (S' : AS) : Prop := sN S' = sN S + 1 ∧ sR S' k j = some (sN S) ∧ (∀ p, p < sN S → sI S' p = sI S p) ∧ (∀ p i, p < sN S → ¬ (p = k ∧ i = j) → sR S' p i = sR S p i)
theorem p_one {β : Type} {S : AS} {k j : Nat} {F : AS → Option β} {Q : β → Prop} (H : ∀ S', FL2 S k j S' → Hp (F S') Q) : Hp ((nA S 40 (12 : Int32)).bind fun S2 => (pR S2 13 j (some k) (some (sN S))).bind F) Q := by
  refine p_of st_nA (p_of st_pR ?_)
  generalize (12 : Int32).toNatClampNeg = l
  refine H _ ⟨rfl, ti_sR_eq _ k j _, fun p hp => ?_, fun p i hp hn => ?_⟩
  · have e := ti_wN (S := S) (κ := 40) (l := l) (s := l) (k := p) (by omega)
    exact e.2.2.1
  · have e := ti_wN (S := S) (κ := 40) (l := l) (s := l) (k := p) (by omega)
    rw [ti_sR_ne hn, e.2.2.2.1]
theorem p_flI {S : AS} {k : Nat} (hk : k < sN S) : Hp (f_Flow_init S (some k)) (fun S' => (∀ p, p < sN S → sI S' p = sI S p) ∧ (∀ p i, p < sN S → p ≠ k → sR S' p i = sR S p i) ∧ ∀ j, j < 5 → sR S' k j = some (sN S + j)) := by
  unfold f_Flow_init
  refine p_of st_val (p_one (fun S1 h1 => p_one (fun S2 h2 => p_one (fun S3 h3 => p_one (fun S4 h4 => p_one (fun S5 h5 => p_ret ?_))))))
  obtain ⟨a1, b1, c1, d1⟩ := h1
  obtain ⟨a2, b2, c2, d2⟩ := h2
  obtain ⟨a3, b3, c3, d3⟩ := h3
  obtain ⟨a4, b4, c4, d4⟩ := h4
  obtain ⟨a5, b5, c5, d5⟩ := h5
  refine ⟨fun p hp => ?_, fun p i hp hn => ?_, fun j hj => ?_⟩
  · rw [c5 p (by omega), c4 p (by omega), c3 p (by omega), c2 p (by omega), c1 p (by omega)]
  · rw [d5 p i (by omega) (fun q => hn q.1), d4 p i (by omega) (fun q => hn q.1), d3 p i (by omega) (fun q => hn q.1), d2 p i (by omega) (fun q => hn q.1), d1 p i (by omega) (fun q => hn q.1)]
  · match j, hj with
    | 0, _ => rw [d5 k 0 (by omega) (fun q => absurd q.2 (by decide)), d4 k 0 (by omega) (fun q => absurd q.2 (by decide)), d3 k 0 (by omega) (fun q => absurd q.2 (by decide)), d2 k 0 (by omega) (fun q => absurd q.2 (by decide)), b1]; rfl
    | 1, _ => rw [d5 k 1 (by omega) (fun q => absurd q.2 (by decide)), d4 k 1 (by omega) (fun q => absurd q.2 (by decide)), d3 k 1 (by omega) (fun q => absurd q.2 (by decide)), b2, show sN S1 = sN S + 1 by omega]
    | 2, _ => rw [d5 k 2 (by omega) (fun q => absurd q.2 (by decide)), d4 k 2 (by omega) (fun q => absurd q.2 (by decide)), b3, show sN S2 = sN S + 2 by omega]
    | 3, _ => rw [d5 k 3 (by omega) (fun q => absurd q.2 (by decide)), b4, show sN S3 = sN S + 3 by omega]
    | 4, _ => rw [b5, show sN S4 = sN S + 4 by omega]
/-- what the class's publish leaves, place by place -/
def PBK (S S' : AS) (f d n : Nat) : Prop := ∃ z, sN S ≤ z ∧ (∀ p i, p < sN S → ¬ (p = 17 ∧ (i = 0 ∨ i = 2)) → sI S' p i = sI S p i) ∧ (∀ p i, p < sN S → ¬ (p = 17 ∧ i = 1) → ¬ (p = d ∧ i = n) → ¬ (p = 4 ∧ i = 5) → sR S' p i = sR S p i) ∧
  sI S' 17 2 = Int32.ofNat (n + 1) ∧ sR S' 4 5 = some z ∧ (∀ j, j < 5 → sR S' z j = some (z + 1 + j)) ∧ (∀ i, i < n → lel S' 17 i = lel S 17 i) ∧ lel S' 17 n = f
theorem p_pub55 {S : AS} {f d n : Nat} (k4 : K4F S) (hd : sR S 4 5 = some f) (hs : sI S 17 2 = Int32.ofNat n) (hr : sR S 17 1 = some d) (hn : n < 201) (hL : sL S d ≤ 400) (n4 : 4 < sN S) (n17 : 17 < sN S) (dn : d < sN S) (d17 : d ≠ 17) (d4 : d ≠ 4) : Hp (f_K_publish_B55 S (some 4) 1) (fun q => PBK S q.2 f d n) := by
  unfold f_K_publish_B55
  rw [rS1, bx_l]
  refine p_of (st_gRe (k4.1 6 17 rfl)) (p_of (st_gRe hd) (p_of st_rv (p_b2 (p_and (p_add (S := S) (l := 17) (d := d) (x := f) (n := n) hr hs hn hL n17 dn d17) (p_addL (S := S) (l := 17) (d := d) (x := f) (n := n) hr hs hn hL dn n17 d17)) (fun v S6 p => ?_))))
  obtain ⟨⟨p1, p2, p3, p4, p5⟩, q1, -, d', q3, q4, q5⟩ := p
  have p2 : sI S6 17 2 = Int32.ofNat (n + 1) := p2
  have q1 : sN S ≤ sN S6 := q1
  have q3 : sR S6 17 1 = some d' := q3
  have q5 : d' < sN S6 := q5
  have o8 : ∀ p, p < sN S6 → sI (nO S6 13) p = sI S6 p ∧ sR (nO S6 13) p = sR S6 p := fun p hp => by
    obtain ⟨a, b, -⟩ := nO_f S6 13 (k := p) (by omega)
    exact ⟨a, b⟩
  refine p_of st_nO (p_bd (p_flI (S := nO S6 13) (k := sN S6) (by rw [nO_N]; omega)) (fun S9 h9 => ?_))
  obtain ⟨a2, a3, a4⟩ := h9
  rw [nO_N] at a2 a3 a4
  refine p_of st_pR ?_
  obtain ⟨S10, e10⟩ : ∃ S10, S10 = wR S9 4 5 (some (sN S6)) := ⟨_, rfl⟩
  rw [← e10]
  have i10 : ∀ p, p < sN S6 → sI S10 p = sI S6 p := fun p hp => by
    rw [e10, sI_wR', a2 p (by omega), (o8 p hp).1]
  have r10 : ∀ p i, p < sN S6 → ¬ (p = 4 ∧ i = 5) → sR S10 p i = sR S6 p i := fun p i hp hn => by
    rw [e10, ti_sR_ne hn, a3 p i (by omega) (by omega), (o8 p hp).2]
  have z10 : ∀ j, j < 5 → sR S10 (sN S6) j = some (sN S6 + 1 + j) := fun j hj => by
    rw [e10, ti_sR_ne (by omega)]
    exact a4 j hj
  have d'4 : d' ≠ 4 := by
    rcases q4 with ⟨x, -⟩ | x
    · rw [x]
      exact d4
    · omega
  refine p_of (st_gRe (v := some 17) ((r10 4 6 (by omega) (by omega)).trans ((p3 4 6 n4 (by omega) (by omega)).trans (k4.1 6 17 rfl)))) (p_of st_rv (p_of st_size (p_ret ⟨sN S6, q1, fun p i hp hn => ?_, fun p i hp h1 h2 h3 => ?_, ?_, ?_, z10, fun i hi => ?_, ?_⟩)))
  · show sI S10 p i = _
    rw [i10 p (by omega)]
    exact p1 p i hp hn
  · show sR S10 p i = _
    rw [r10 p i (by omega) h3]
    exact p3 p i hp h1 h2
  · show sI S10 17 2 = _
    rw [i10 17 (by omega)]
    exact p2
  · show sR S10 4 5 = _
    rw [e10, ti_sR_eq]
  · have e : sR S6 ((sR S6 17 1).getD 0) i = sR S d i := p4 i hi
    rw [q3] at e
    have e : sR S6 d' i = sR S d i := e
    show lel S10 17 i = _
    unfold lel
    rw [r10 17 1 (by omega) (by omega), q3, hr]
    show (sR S10 d' i).getD 0 = (sR S d i).getD 0
    rw [r10 d' i q5 (by omega), e]
  · have e : sR S6 ((sR S6 17 1).getD 0) n = some f := p5
    rw [q3] at e
    have e : sR S6 d' n = some f := e
    show lel S10 17 n = _
    unfold lel
    rw [r10 17 1 (by omega) (by omega), q3]
    show (sR S10 d' n).getD 0 = f
    rw [r10 d' n q5 (by omega), e]
    rfl
theorem p_pubK {T : Nat → Nat} {S : AS} {f d n m : Nat} {r : Nat → Nat} (hT : TI T S) (dr : DR T S f m r) (hsr : SR S) (hs : sI S 17 2 = Int32.ofNat n) (hr : sR S 17 1 = some d) (hn : n < 201) (hL : sL S d ≤ 400) (n4 : 4 < sN S) (n17 : 17 < sN S) (dn : d < sN S) (d17 : d ≠ 17) (d4 : d ≠ 4) : Hp (f_K_publish S (some 4)) (fun q => (∃ e, q.1 = .inr e) ∨ PBK S q.2 f d n) := by
  have k4 := K4F_of hT
  have b54 : Hp (f_K_publish_B54 S (some 4)) (fun q => (∃ e, q.1 = .inr e) ∨ PBK S q.2 f d n) := by
    unfold f_K_publish_B54 f_K_publish_B55
    rw [rS0, bx_r]
    exact p_ret (Or.inl ⟨_, rfl⟩)
  unfold f_K_publish
  refine p_of (st_gRe (k4.1 6 17 rfl)) (p_of st_rv (p_of st_size (p_if (fun _ => ?_) (fun _ => ?_))))
  · unfold f_K_publish_B17
    rw [rS0, bx_r]
    exact p_ret (Or.inl ⟨_, rfl⟩)
  · unfold f_K_publish_B17
    rw [rS1, bx_l]
    refine p_of (st_gRe dr.1) (p_of st_gI (p_if (fun _ => b54) (fun _ => p_of (st_gRe dr.1) (p_of st_rv (p_b2 (p_ho (x_all hT dr hsr)) (fun v S2 p => ?_))))))
    obtain ⟨e, p⟩ := p
    have e : S2 = S := e
    rw [e]
    rcases p with ⟨p, hx1⟩ | ⟨p, -⟩
    · have p : v = 1 := p
      rw [p]
      refine p_of (st_F one0) (p_of (st_gRe dr.1) (p_of st_rv (p_b2 (p_ho (x_loop hT dr hsr hx1)) (fun v S3 p2 => ?_))))
      have e' : S3 = S := p2.1
      rw [e']
      exact p_if (fun _ => p_mono (p_pub55 k4 dr.1 hs hr hn hL n4 n17 dn d17 d4) (fun q h => Or.inr h)) (fun _ => b54)
    · have p : v = 0 := p
      rw [p]
      exact p_of (st_T rfl) b54
theorem PBK_wJ {S S' : AS} {f d n : Nat} (h : PBK S S' f d n) (v : Int64) : PBK S (wJ S' 126 0 v) f d n := h
theorem p_pubW {T : Nat → Nat} {S : AS} {f d n m : Nat} {r : Nat → Nat} (hT : TI T S) (dr : DR T S f m r) (hsr : SR S) (hs : sI S 17 2 = Int32.ofNat n) (hr : sR S 17 1 = some d) (hn : n < 201) (hL : sL S d ≤ 400) (n4 : 4 < sN S) (n17 : 17 < sN S) (dn : d < sN S) (d17 : d ≠ 17) (d4 : d ≠ 4) : Hp (f_W_publish S (some 4) (some 126)) (fun q => q.1 = 0 → PBK S q.2 f d n) := by
  unfold f_W_publish
  refine p_of st_rv (fun a ha => ?_)
  have key := p_pubK hT dr hsr hs hr hn hL n4 n17 dn d17 d4
  match e : f_K_publish S (some 4), ha with
  | some (.inl v, S'), ha =>
    rcases key _ e with ⟨x, hx⟩ | h
    · cases hx
    · have ha : (bJ S' (some 126) (0 : Int32) v.toInt64).bind (fun S4 => some ((0 : Int32), S4)) = some a := ha
      have := l_bJ (β := Unit) _ ha
      cases this
      exact fun _ => h
  | some (.inr x, S'), ha =>
    have ha : (if x = "java/lang/IllegalStateException" then some ((1 : Int32), S') else none) = some a := ha
    by_cases c : x = "java/lang/IllegalStateException"
    · rw [if_pos c] at ha
      cases ha
      exact fun q => absurd (show (1 : Int32) = 0 from q) (by decide)
    · rw [if_neg c] at ha
      cases ha
  | none, ha =>
    cases ha
end
section
theorem pr_publish {n : Nat} {T T1 : Nat → Nat} {S S1 S2 : AS} {k v : Int32} (hI : IV n T S) (hr : RPF T S) (e1 : f_W_publish S (some 4) (some 126) = some (k, S1)) (g1 : Rl T (99999 :: kw_K44) S 10 700 T1 S1) (e2 : f_M_publish S1 (some 57) = some (v, S2)) (g2 : Rl T1 (10082 :: kw_pub) S1 1 0 T1 S2) : sI S2 57 82 = k ∧ (k = 0 → sJ S1 126 0 = v.toInt64) ∧ RPF T1 S2 := by
  obtain ⟨⟨f, m, r, dr⟩, t1, h⟩ := hr
  have hT : TV T S := ⟨hI.1, t1⟩
  have t4' : Tx T 1 (some 4) := ⟨_, rfl, hI.1.t9.2.2.2.2.1, by decide⟩
  have t57 : Tx T 100 (some 57) := ⟨_, rfl, hI.1.t9.1, by decide⟩
  have t57' : Tx T1 100 (some 57) := ⟨_, rfl, g1.1.t9.1, by decide⟩
  have t1' : T1 1 = 52 := (g1.ty 1 (by rw [t1]; decide)).trans t1
  have sr := hI.2.1.1
  have bb := FR_BB hT hI.1 h
  obtain ⟨K4, Kf, Kr, f57, k6, r57⟩ := DR_K hI.1 dr
  have m12 := dr.2.2.1
  obtain ⟨zV1, zV2, zV3⟩ := h.Ver.1
  have n8 : nV S ≤ 8 := zV1
  have s9 : sI S 57 9 = Int32.ofNat (nV S) := zV2
  have s17 : sI S 17 2 = Int32.ofNat (nV S) := zV3.trans zV2
  obtain ⟨k57, kk⟩ := k_keeps hI.1 g1 t57 (by decide +kernel)
  have mS : ∀ j i, j < 6 → sI S1 (66 + j) i = sI S (66 + j) i := fun j i hj => by
    match j, hj with
    | 0, _ => exact kk 10 110 66 rfl rfl (by decide) (by decide) (by decide) i
    | 1, _ => exact kk 11 111 67 rfl rfl (by decide) (by decide) (by decide) i
    | 2, _ => exact kk 12 112 68 rfl rfl (by decide) (by decide) (by decide) i
    | 3, _ => exact kk 13 113 69 rfl rfl (by decide) (by decide) (by decide) i
    | 4, _ => exact kk 14 114 70 rfl rfl (by decide) (by decide) (by decide) i
    | 5, _ => exact kk 15 115 71 rfl rfl (by decide) (by decide) (by decide) i
  have e66 : sI S1 66 = sI S 66 := funext fun i => mS 0 i (by decide)
  have e67 : sI S1 67 = sI S 67 := funext fun i => mS 1 i (by decide)
  have e70 : sI S1 70 = sI S 70 := funext fun i => mS 4 i (by decide)
  have e71 : sI S1 71 = sI S 71 := funext fun i => mS 5 i (by decide)
  have hs8 : (sI S1 66 8).toInt = (m : Int) := by
    rw [e66, dr.2.2.2.2.1]
    exact oi (by omega)
  have hPK : PK S m ↔ PUB S1 m := by
    unfold PK PUB nxin rnk te nx
    rw [e67, e70, e71, k57 9 (by decide), s17, s9]
  have i1 := IV_K hI g1 t57 (by decide +kernel)
  obtain ⟨q, hq, p⟩ := x_W_publish hI.1 t4' dr sr
  rw [e1] at hq
  cases hq
  obtain ⟨q2, hq2, -, p2⟩ := t_M_publish g1.1 t57' i1.1.1 m12 hs8 (v := nV S) ((k57 9 (by decide)).trans s9) n8
  rw [e2] at hq2
  cases hq2
  rcases p with ⟨np, p⟩ | ⟨yp, p0, new, pJ⟩
  · obtain ⟨rfl, rfl⟩ := Prod.mk.inj p
    rcases p2 with ⟨yp2, -⟩ | ⟨-, p2⟩
    · exact absurd (hPK.mpr yp2) np
    · obtain ⟨rfl, rfl⟩ := Prod.mk.inj p2
      exact ⟨ti_sI_eq _ _ _ _, fun q => absurd q (by decide), ⟨f, m, r, DR_no dr g1.ty g1.1 1⟩, t1', FR_no hT h 1⟩
  · have p0 : k = 0 := p0
    have pJ : sJ S1 126 0 = (sI S 17 2).toInt64 := pJ
    rcases p2 with ⟨yp2, ev, hp⟩ | ⟨np2, -⟩
    · have ev : v = Int32.ofNat (nV S) := ev
      have hp : PUBS (wI S1 57 82 0) S2 (nV S) m := hp
      have v8 : nV S < 8 := by
        have := yp.2.1
        rw [s17, oi (by omega)] at this
        omega
      have m0 : 0 < m := yp.1
      -- the class, place by place
      have t17 : T 17 = 20 := (hI.1.t6 0 (by decide)).1
      obtain ⟨t4, -⟩ := kt4 hI.1
      have lt : ∀ {k τ : Nat}, T k = τ → τ ≠ 0 → k < sN S := fun hk h0 => (hI.1.t1 _ (by rw [hk]; exact h0)).1
      have n4 := lt t4 (by decide)
      have n17 := lt t17 (by decide)
      obtain ⟨d, w1, w2, w3, w4, w5, w6⟩ := LO_add hI.1 (q := 0) (by decide) s17 (by omega)
      have w1 : sR S 17 1 = some d := w1
      have w5 : d ≠ 17 := w5
      have dne : ∀ {k τ : Nat}, T k = τ → τ ≠ 0 → kd τ ≠ 1 → τ ≠ 30 → k ≠ d := fun hk h0 h1 h2 => w6 _ (by rw [hk]; exact h0) (by rw [hk]; exact h1) (by rw [hk]; exact h2)
      obtain ⟨z, z0, zI, zR, z17, z45, zr, zl, zn⟩ := p_pubW hI.1 dr sr s17 w1 (by omega) w2 n4 n17 w4 w5 (dne t4 (by decide) (by decide) (by decide)).symm _ e1 p0
      have z17 : sI S1 17 2 = Int32.ofNat (nV S + 1) := z17
      have z45 : sR S1 4 5 = some z := z45
      have zr : ∀ j, j < 5 → sR S1 z j = some (z + 1 + j) := zr
      have zl : ∀ i, i < nV S → lel S1 17 i = lel S 17 i := zl
      have zn : lel S1 17 (nV S) = f := zn
      have zI : ∀ p i, p < sN S → ¬ (p = 17 ∧ (i = 0 ∨ i = 2)) → sI S1 p i = sI S p i := zI
      have zR : ∀ p i, p < sN S → ¬ (p = 17 ∧ i = 1) → ¬ (p = d ∧ i = nV S) → ¬ (p = 4 ∧ i = 5) → sR S1 p i = sR S p i := zR
      -- the reference, place by place
      have nm : ∀ z, 50000 ≤ z → ¬ z ∈ 10082 :: kw_pub := fun z h q => by
        unfold kw_pub at q
        simp only [List.mem_cons, List.mem_nil_iff, or_false] at q
        omega
      have o2 : ∀ p i, p ≠ 57 → (∀ q, 66 ≤ q → q ≤ 71 → p ≠ q) → sI S2 p i = sI S1 p i := fun p i h1 h2 => by
        rw [hp p i, if_neg (fun q => h1 q.1), if_neg (fun q => h2 66 (by decide) (by decide) q.1), if_neg (fun q => h2 66 (by decide) (by decide) q.1), if_neg (fun q => h2 p (by omega) (by omega) rfl), ti_sI_ne (fun q => h1 q.1)]
      have tM : ∀ q, 66 ≤ q → q ≤ 71 → T q = 44 + q := fun q h1 h2 => by
        have : q = 66 ∨ q = 67 ∨ q = 68 ∨ q = 69 ∨ q = 70 ∨ q = 71 := by omega
        rcases this with rfl | rfl | rfl | rfl | rfl | rfl
        · exact (md_ty hI.1 (j := 10) rfl rfl).1
        · exact (md_ty hI.1 (j := 11) rfl rfl).1
        · exact (md_ty hI.1 (j := 12) rfl rfl).1
        · exact (md_ty hI.1 (j := 13) rfl rfl).1
        · exact (md_ty hI.1 (j := 14) rfl rfl).1
        · exact (md_ty hI.1 (j := 15) rfl rfl).1
      have tf := dr.2.1
      -- typed places of the class that are no list: as they were, in both runs
      have I2 : ∀ {p τ : Nat} (i : Nat), T p = τ → τ ≠ 0 → τ < 100 → τ ≠ 20 → sI S2 p i = sI S p i := fun {p τ} i hp h0 h1 h2 => by
        rw [o2 p i (fun q => by rw [q, hI.1.t9.1] at hp; omega) (fun q h3 h4 e => by rw [e, tM q h3 h4] at hp; omega)]
        exact zI p i (lt hp h0) (fun q => h2 (by rw [← hp, q.1, t17]))
      have R2 : ∀ {p τ : Nat} (i : Nat), T1 p = τ → τ ≠ 0 → sR S2 p i = sR S1 p i := fun {p τ} i hp h0 => g2.fR p i (by rw [hp]; exact h0) (by
        rw [hp]
        exact nm _ (by unfold cr; omega))
      have ty : ∀ {p τ : Nat}, T p = τ → τ ≠ 0 → T1 p = τ := fun {p τ} hp h0 => (g1.ty p (by rw [hp]; exact h0)).trans hp
      have R02 : ∀ {p τ : Nat} (i : Nat), T p = τ → τ ≠ 0 → kd τ ≠ 1 → τ ≠ 30 → τ ≠ 20 → ¬ (p = 4 ∧ i = 5) → sR S2 p i = sR S p i := fun {p τ} i hp h0 h1 h2 h3 h4 => by
        rw [R2 i (ty hp h0) h0]
        exact zR p i (lt hp h0) (fun q => h3 (by rw [← hp, q.1, t17])) (fun q => dne hp h0 h1 h2 q.1) h4
      have el2 : ∀ i, i < nV S + 1 → lel S2 17 i = lel S1 17 i := fun i hi => lV (T' := T1) (cs := [52001, 53000]) (m := wI (wI S1 57 82 0) 57 9 (Int32.ofNat (nV S + 1))) (T := T1) (Tm := T1) ⟨⟨g1.1, t1'⟩, by
        have hpf := cPF_fr bb h.PF (Kp_of g1 (by decide +kernel)) (Kp_rf T _ S)
        exact hpf, TIwI (TIwI g1.1 g1.1.t9.1 (fun lo hi e => by cases e) (fun n lo hi e => by cases e) (by omega)) g1.1.t9.1 (fun lo hi e => by cases e; exact ⟨by rw [oi (by omega)]; omega, by rw [oi (by omega)]; omega⟩) (fun n lo hi e => by cases e) (by omega), ⟨by rw [ti_sI_eq, nn_o (by omega)]; omega, by rw [ti_sI_eq, nn_o (by omega)], by rw [ti_sI_eq]; exact z17⟩, by
        have kq : ∀ {cs : List Nat}, cs.all (fun z => !(99999 :: kw_K44).contains z) = true → ¬ 10082 ∈ cs → ¬ 10009 ∈ cs → Kp T T1 cs S (wI (wI S1 57 82 0) 57 9 (Int32.ofNat (nV S + 1))) := fun q1 q2 q3 => Kp_tr (Kp_of g1 q1) (Kp_tr (Kp_wI _ g1.1.t9.1 (by rw [show cl 100 82 = 10082 by decide]; exact q2)) (Kp_wI _ g1.1.t9.1 (by rw [show cl 100 9 = 10009 by decide]; exact q3)))
        have kk' : ∀ {cs : List Nat}, cs.all (fun z => !(99999 :: kw_K44).contains z) = true → Kp T T1 cs S S1 := fun q1 => Kp_of g1 q1
        exact ⟨fzA bb (kk' (cs := [2102]) (by decide +kernel)) (kq (cs := [10019]) (by decide +kernel) (by decide) (by decide)) (by decide) (by decide), fzS bb (kk' (cs := [2202]) (by decide +kernel)) (kq (cs := [10030]) (by decide +kernel) (by decide) (by decide)) (by decide) (by decide), fzC bb (kk' (cs := [2302]) (by decide +kernel)) (kq (cs := [10039]) (by decide +kernel) (by decide) (by decide)) (by decide) (by decide), fzF bb (kk' (cs := [2402]) (by decide +kernel)) (kq (cs := [10046]) (by decide +kernel) (by decide) (by decide)) (by decide) (by decide), fzT bb (kk' (cs := [2502]) (by decide +kernel)) (kq (cs := [10052]) (by decide +kernel) (by decide) (by decide)) (by decide) (by decide), fzR bb (kk' (cs := [2602]) (by decide +kernel)) (kq (cs := [10070]) (by decide +kernel) (by decide) (by decide)) (by decide) (by decide)⟩⟩ (Kp_of g2 (by decide +kernel)) (by decide) (by decide) (by
        show i < nn (sI (wI (wI S1 57 82 0) 57 9 (Int32.ofNat (nV S + 1))) 57 9)
        rw [ti_sI_eq, nn_o (by omega)]
        exact hi)
      have elo : ∀ i, i < nV S → lel S2 17 i = lel S 17 i := fun i hi => (el2 i (by omega)).trans (zl i hi)
      have eln : lel S2 17 (nV S) = f := (el2 _ (by omega)).trans zn
      have s9' : sI S2 57 9 = Int32.ofNat (nV S + 1) := by rw [hp 57 9, if_pos ⟨rfl, rfl⟩]
      have eV : nV S2 = nV S + 1 := by
        unfold nV at s9' ⊢
        rw [s9']
        exact nn_o (by unfold nV at v8; omega)
      have s172 : sI S2 17 2 = Int32.ofNat (nV S + 1) := by
        rw [o2 17 2 (by decide) (fun q h1 h2 => by omega)]
        exact z17
      have m66 : ∀ w, w < nV S → sI S2 66 w = sI S 66 w := fun w hw => by
        rw [hp 66 w, if_neg (by omega), if_neg (by omega), if_neg (by omega), if_neg (by omega), ti_sI_ne (by omega), e66]
      have m66n : sI S2 66 (nV S) = Int32.ofNat m := by rw [hp 66 (nV S), if_neg (by omega), if_neg (by omega), if_pos ⟨rfl, rfl⟩]
      have m668 : sI S2 66 8 = 0 := by rw [hp 66 8, if_neg (by omega), if_pos ⟨rfl, rfl⟩]
      have mlo : ∀ j i, j < 5 → i < 12 * nV S → sI S2 (67 + j) i = sI S (67 + j) i := fun j i hj hi => by
        rw [hp (67 + j) i, if_neg (by omega), if_neg (by omega), if_neg (by omega), if_neg (by omega), ti_sI_ne (by omega)]
        have := mS (j + 1) i (by omega)
        rw [show 66 + (j + 1) = 67 + j by omega] at this
        exact this
      have mnw : ∀ j i, j < 5 → i < m → sI S2 (67 + j) (12 * nV S + i) = sI S (67 + j) (96 + i) := fun j i hj hi => by
        rw [hp (67 + j) (12 * nV S + i), if_neg (by omega), if_neg (by omega), if_neg (by omega), if_pos ⟨by omega, by omega, by omega⟩, ti_sI_ne (by omega), show 12 * nV S + i - 12 * nV S = i by omega]
        have := mS (j + 1) (96 + i) (by omega)
        rw [show 66 + (j + 1) = 67 + j by omega] at this
        exact this
      have fD : fa S 4 5 = f := by
        unfold fa
        rw [dr.1]
        rfl
      have rD : ∀ j, j < 5 → fa S f j = r j := fun j hj => by
        unfold fa
        rw [(dr.2.2.2.2.2.1 j hj).1]
        rfl
      have tz1 : T1 z = 40 := by
        obtain ⟨a, b, c, -⟩ := g1.1.t2 4 5 40 (by rw [g1.1.t9.2.2.2.2.1]; rfl)
        rw [z45] at b
        cases b
        exact c
      have fD2 : fa S2 4 5 = z := by
        unfold fa
        rw [R2 5 (g1.1.t9.2.2.2.2.1) (by decide), z45]
        rfl
      have fZ2 : ∀ j, j < 5 → fa S2 z j = z + 1 + j := fun j hj => by
        unfold fa
        rw [R2 j tz1 (by decide), zr j hj]
        rfl
      have ffa : ∀ {p : Nat} (j : Nat), T p = 40 → fa S2 p j = fa S p j := fun {p} j hp => by
        unfold fa
        rw [R02 j hp (by decide) (by decide) (by decide) (by decide) (fun q => by
          rw [q.1, t4] at hp
          exact absurd hp (by decide))]
      have sz : SZ 17 9 8 S2 S2 := by
        refine ⟨?_, ?_, ?_⟩
        · rw [s9', nn_o (by omega)]
          omega
        · rw [s9', nn_o (by omega)]
        · rw [s9', s172]
      have rT : ∀ j, j < 5 → T (r j) = 41 := fun j hj => (dr.2.2.2.2.2.1 j hj).2
      have kS : ∀ {cs : List Nat}, cs.all (fun z => !(99999 :: kw_K44).contains z) = true → cs.all (fun z => !(10082 :: kw_pub).contains z) = true → Kp T T1 cs S S2 := fun h1 h2 => Kp_tr (Kp_of g1 h1) (Kp_of g2 h2)
      refine ⟨?_, fun _ => by rw [pJ, ev, s17], ⟨z, 0, fun j => z + 1 + j, ?_, tz1, by omega, ?_, m668, fun j hj => ⟨?_, ?_⟩, fun i j _ _ e => by dsimp only at e; omega, fun j i _ hi => absurd hi (Nat.not_lt_zero _)⟩, t1', FA_PUB hT hI.1 h (kS (by decide +kernel) (by decide +kernel)) (kS (by decide +kernel) (by decide +kernel)) ⟨sz, fun w hw => ?_⟩ (fun i hi => ?_) ?_ ?_⟩
      · rw [p0, hp 57 82, if_neg (by decide), if_neg (by decide), if_neg (by omega), if_neg (by omega), ti_sI_eq]
      · rw [R2 5 (g1.1.t9.2.2.2.2.1) (by decide)]
        exact z45
      · have := new
        obtain ⟨-, f', r', a1, a2, -, -⟩ := new
        have a1 : sR S1 4 5 = some f' := a1
        rw [z45] at a1
        cases a1
        have tM' : ∀ q, 66 ≤ q → q ≤ 71 → T1 q = 44 + q := fun q h1 h2 => ty (tM q h1 h2) (by omega)
        rw [o2 z 5 (fun q => by rw [q, g1.1.t9.1] at tz1; omega) (fun q h1 h2 e => by rw [e, tM' q h1 h2] at tz1; omega)]
        exact a2
      · rw [R2 j tz1 (by decide)]
        exact zr j hj
      · have q : ft 40 j = some 41 := by
          match j, hj with
          | 0, _ => rfl
          | 1, _ => rfl
          | 2, _ => rfl
          | 3, _ => rfl
          | 4, _ => rfl
        obtain ⟨a, b, c, -⟩ := g1.1.t2 z j 41 (by rw [tz1]; exact q)
        rw [zr j hj] at b
        cases b
        exact c
      · -- the versions
        rw [eV] at hw
        rw [fD2]
        by_cases cw : w = nV S
        · subst cw
          rw [eln]
          have nlt := lt tf (by decide)
          refine ⟨⟨m, by omega, m12, (I2 5 tf (by decide) (by decide) (by decide)).trans dr.2.2.2.1, m66n, fun j i hj hi => ?_⟩, fun i hi hz => ?_, by omega, fun j i hj hi => ?_, fun u hu e => ?_⟩
          · rw [ffa j tf, rD j hj, I2 i (rT j hj) (by decide) (by decide) (by decide), mnw j i hj hi]
            exact dr.2.2.2.2.2.2.2 j i hj hi
          · rw [m66n, oi (by omega)] at hi
            have e0 : sI S2 67 (12 * nV S + i) = sI S 67 (96 + i) := mnw 0 i (by omega) (by omega)
            have e2 : sI S2 69 (12 * nV S + i) = sI S 69 (96 + i) := mnw 2 i (by omega) (by omega)
            rw [e0] at hz
            rw [e2]
            exact h.DrB i (by rw [dr.2.2.2.2.1, oi (by omega)]; exact hi) hz
          · rw [ffa j tf, rD j hj, fZ2 i hi]
            have := lt (rT j hj) (by decide)
            omega
          · rw [eV] at hu
            by_cases cu : u = nV S
            · exact cu
            · have hu : u < nV S := by omega
              rw [elo u hu] at e
              exact absurd (by rw [fD]; exact e) (h.Ver.2 u hu).2.2.1
        · have hw : w < nV S := by omega
          have tw := tyV bb hw
          have nlt := lt tw (by decide)
          obtain ⟨⟨n', g1', g2', g3, g4, g5⟩, h2, h3, h4, h5⟩ := h.Ver.2 w hw
          rw [elo w hw]
          refine ⟨⟨n', g1', g2', (I2 5 tw (by decide) (by decide) (by decide)).trans g3, (m66 w hw).trans g4, fun j i hj hi => ?_⟩, fun i hi hz => ?_, by omega, fun j i hj hi => ?_, fun u hu e => ?_⟩
          · rw [ffa j tw, I2 i (tyW hI.1 tw hj).2 (by decide) (by decide) (by decide), mlo j _ hj (by omega)]
            exact g5 j i hj hi
          · rw [m66 w hw, g4, oi (by omega)] at hi
            have e0 : sI S2 67 (12 * w + i) = sI S 67 (12 * w + i) := mlo 0 _ (by omega) (by omega)
            have e2 : sI S2 69 (12 * w + i) = sI S 69 (12 * w + i) := mlo 2 _ (by omega) (by omega)
            rw [e0] at hz
            rw [e2]
            exact h2 i (by rw [g4, oi (by omega)]; exact hi) hz
          · rw [ffa j tw, fZ2 i hi]
            have := lt (tyW hI.1 tw hj).2 (by decide)
            omega
          · rw [eV] at hu
            by_cases cu : u = nV S
            · rw [cu, eln] at e
              exact absurd (by rw [fD]; exact e.symm) h3
            · have hu : u < nV S := by omega
              rw [elo u hu] at e
              exact h5 u hu e
      · rw [m668, show (0 : Int32).toInt = 0 from by decide] at hi
        omega
      · -- attempts
        have kT := kS (cs := [2102, 52101, 53100, 54200, 4201, 4202, 54203, 54204, 10019, 12000, 12100, 12200, 12300]) (by decide +kernel) (by decide +kernel)
        refine ⟨fzA bb kT kT (by decide) (by decide), fun a ha => ?_⟩
        rw [enA bb kT (by decide)] at ha
        have ta := tyA bb ha
        obtain ⟨y1, y2, y3, y4, ⟨w, y5, y6, y7⟩, y8⟩ := h.Att.2 a ha
        rw [lA bb kT (by decide) (by decide) ha, kT.R (j := 0) ta (by decide) (by decide), kT.O (j := 1) ta (by decide) (by decide), kT.O (j := 2) ta (by decide) (by decide), kT.R (j := 3) ta (by decide) (by decide), kT.R (j := 4) ta (by decide) (by decide), kT.M hI.1 (j := 20) (p := 75) rfl (by decide) (by decide), kT.M hI.1 (j := 21) (p := 76) rfl (by decide) (by decide), kT.M hI.1 (j := 22) (p := 77) rfl (by decide) (by decide), kT.M hI.1 (j := 23) (p := 78) rfl (by decide) (by decide), enA bb kT (by decide), eV]
        refine ⟨fun c hc e => ?_, y2, y3, y4, ⟨w, by omega, by rw [elo w y5]; exact y6, y7⟩, y8⟩
        rw [lA bb kT (by decide) (by decide) hc] at e
        exact y1 c hc e
      · have kT := kS (cs := [2102, 52101, 53100, 4205, 4206, 4207, 4208, 4209, 10019, 12300, 12400, 12500, 12600, 12700, 12800]) (by decide +kernel) (by decide +kernel)
        refine ⟨fun w hw hw2 => ?_, fun w hw => ?_⟩
        · rw [enA bb kT (by decide)] at hw
          rw [kT.M hI.1 (j := 27) (p := 82) rfl (by decide) (by decide)]
          exact h.Ast.1 w hw hw2
        · rw [enA bb kT (by decide)] at hw
          have tw := tyA bb hw
          have lowi : 12 * nn (sI S 78 w) + nn (sI S 79 w) < 12 * nV S := by
            obtain ⟨-, -, -, -, ⟨u, u1, -, u3⟩, -⟩ := h.Att.2 w hw
            have a60 : w < 60 := by
              have := h.Att.1.1
              unfold uA at hw
              omega
            obtain ⟨-, t79, -⟩ := md_at hI.1 (j := 24) (p := 79) rfl rfl
            obtain ⟨g1, g2⟩ := hI.1.t5 79 w 60 (-1) 11 (by rw [t79]; rfl) a60
            rw [u3, nn_o (by omega)]
            have : nn (sI S 79 w) ≤ 11 := by
              unfold nn
              by_cases c : 0 ≤ (sI S 79 w).toInt
              · have := natI c
                omega
              · have e : (sI S 79 w).toInt = -1 := by omega
                have : sI S 79 w = -1 := Int32.toInt_inj.mp (by rw [e]; decide)
                rw [this]
                decide
            omega
          have i69 : sI S2 69 (12 * nn (sI S 78 w) + nn (sI S 79 w)) = sI S 69 (12 * nn (sI S 78 w) + nn (sI S 79 w)) := mlo 2 _ (by omega) lowi
          rw [lA bb kT (by decide) (by decide) hw, kT.O (j := 5) tw (by decide) (by decide), kT.O (j := 6) tw (by decide) (by decide), kT.O (j := 7) tw (by decide) (by decide), kT.O (j := 8) tw (by decide) (by decide), kT.O (j := 9) tw (by decide) (by decide), kT.M hI.1 (j := 23) (p := 78) rfl (by decide) (by decide), kT.M hI.1 (j := 24) (p := 79) rfl (by decide) (by decide), kT.M hI.1 (j := 25) (p := 80) rfl (by decide) (by decide), kT.M hI.1 (j := 26) (p := 81) rfl (by decide) (by decide), kT.M hI.1 (j := 27) (p := 82) rfl (by decide) (by decide), kT.M hI.1 (j := 28) (p := 83) rfl (by decide) (by decide), i69]
          exact h.Ast.2 w hw
    · exact absurd (hPK.mp yp) np2
end
