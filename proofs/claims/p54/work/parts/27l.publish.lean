/-! ===== no way round by tests: a rank ===== -/
def rnk (S : AS) (b n : Nat) (ρ : Nat → Nat) : Prop := (∀ k, ρ k ≤ 12) ∧ ∀ k, k < n → te S b k → ∀ t, nx S b k t → te S b t → ρ t < ρ k
def nxin (S : AS) (b n : Nat) : Prop := ∀ k, k < n → (sI S 67 (b + k)).toInt < 5 → (sI S 70 (b + k)).toInt < (n : Int) ∧ (sI S 71 (b + k)).toInt < (n : Int)
theorem nxin_t {S : AS} {b n k t : Nat} (h : nxin S b n) (hk : k < n) (h5 : (sI S 67 (b + k)).toInt < 5) (ht : nx S b k t) : t < n := by
  obtain ⟨h1, h2⟩ := h k hk h5
  rcases ht with q | q <;> omega
theorem circ_excl {S : AS} {n f : Nat} {R1 R0 : Nat → Prop} (h1 : circ S n f 1 R1) (h0 : circ S n f 0 R0) : False := by
  obtain ⟨a1, a2, a3, a4, a5⟩ := h1
  obtain ⟨b1, b2, b3, b4, b5⟩ := h0
  obtain ⟨k, k1, k2, k3, k4⟩ := a5.mp rfl
  have : (0 : Int32) = 1 := b5.mpr ⟨k, k1, a3 R0 b1 b2 k k2, k3, k4⟩
  exact absurd this (by decide)
theorem rank_no {S : AS} {n f : Nat} {b : Int32} {R : Nat → Prop} {ρ : Nat → Nat} (hr : rnk S 96 n ρ) (hf : te S 96 f) (h : circ S n f b R) : b = 0 := by
  obtain ⟨a1, a2, a3, a4, a5⟩ := h
  rcases In01 a4 with q | q
  · exact q
  · obtain ⟨k, k1, k2, k3, k4⟩ := a5.mp q
    have hC := a3 (fun j => ¬ te S 96 j ∨ j = f ∨ ρ j < ρ f) (Or.inr (Or.inl rfl)) (fun j j1 j2 j3 t ht => by
      by_cases c : te S 96 t
      · have := hr.2 j j1 j3 t ht c
        rcases j2 with j2 | j2 | j2
        · exact absurd j3 j2
        · subst j2
          exact Or.inr (Or.inr this)
        · exact Or.inr (Or.inr (by omega))
      · exact Or.inl c) k k2
    have := hr.2 k k1 k3 f k4 hf
    rcases hC with c | c | c
    · exact absurd k3 c
    · subst c
      omega
    · omega
theorem rank_of {S : AS} {n : Nat} (hn : n ≤ 12) (hx : nxin S 96 n) (h : ∀ k, k < n → te S 96 k → ∃ R, circ S n k 0 R) : ∃ ρ, rnk S 96 n ρ := by
  have hc : ∀ k, ∃ R : Nat → Prop, k < n → te S 96 k → circ S n k 0 R := fun k => by
    by_cases c : k < n ∧ te S 96 k
    · obtain ⟨R, hR⟩ := h k c.1 c.2
      exact ⟨R, fun _ _ => hR⟩
    · exact ⟨fun _ => True, fun a b => absurd ⟨a, b⟩ c⟩
  obtain ⟨R, hR⟩ := Classical.axiomOfChoice hc
  obtain ⟨G, hG⟩ : ∃ G : Nat → Nat → Bool, ∀ k j, G k j = true ↔ R k j := by
    have h1 : ∀ k : Nat, ∃ g : Nat → Bool, ∀ j, g j = true ↔ R k j := fun k => by
      have h2 : ∀ j : Nat, ∃ b : Bool, b = true ↔ R k j := fun j => by
        by_cases c : R k j
        · exact ⟨true, fun _ => c, fun _ => rfl⟩
        · exact ⟨false, fun q => (by cases q), fun q => absurd q c⟩
      exact Classical.axiomOfChoice h2
    exact Classical.axiomOfChoice h1
  refine ⟨fun k => cb (G k) 12, fun k => cb_le _ 12, ?_⟩
  intro k hk hte t ht htt
  have hk5 : (sI S 67 (96 + k)).toInt < 5 := by have := hte.2; omega
  have htn := nxin_t hx hk hk5 ht
  obtain ⟨a1, a2, a3, a4, a5⟩ := hR k hk hte
  obtain ⟨b1, b2, b3, b4, b5⟩ := hR t htn htt
  have hsub : ∀ j, R t j → R k j := fun j hj => b3 (R k) (a2 k hk a1 hte t ht) a2 j hj
  have hnk : ¬ ∃ j, j < n ∧ R k j ∧ te S 96 j ∧ nx S 96 j k := fun q => absurd (a5.mpr q) (by decide)
  have hkt : ¬ R t k := by
    intro q
    have htk : t ≠ k := by
      rintro rfl
      exact hnk ⟨t, htn, a1, hte, ht⟩
    have := b3 (fun j => R t j ∧ j ≠ k) ⟨b1, htk⟩ (fun j j1 j2 j3 u hu => ⟨b2 j j1 j2.1 j3 u hu, fun e => hnk ⟨j, j1, hsub j j2.1, j3, by rw [← e]; exact hu⟩⟩) k q
    exact this.2 rfl
  exact cb_lt (f := G t) (g := G k) (i := k) (fun j hj => (hG k j).mpr (hsub j ((hG t j).mp hj))) (fun q => hkt ((hG t k).mp q)) ((hG k k).mpr a1) (by omega)
/-! ===== publish ===== -/
def PUB (S : AS) (n : Nat) : Prop := 0 < n ∧ (sI S 57 9).toInt < 8 ∧ nxin S 96 n ∧ ∃ ρ, rnk S 96 n ρ
theorem rd8 {β : Type} {T : Nat → Nat} {S : AS} {x : Option Nat} {n : Nat} {F : Int32 → Option β} {Q : β → Prop} (hT : TI T S) (hx : Tx T 100 x) (hs8 : (sI S 66 8).toInt = (n : Int)) (h : Ho (F (Int32.ofNat n)) Q) : Ho ((gR S 39 10 x).bind fun v4 => (aI S 46 v4 (8 : Int32)).bind F) Q := by
  refine r_gR hT hx rfl rfl (fun v4 g4 => ?_)
  refine r_aIs hT g4 rfl (p := 66) rfl rfl (by decide : In 0 8 (8 : Int32)) (by decide) (fun v5 _ e5 => ?_)
  rw [toNat8] at e5
  rw [e5, ofNat_of hs8]
  exact h
theorem le_n {a b : Nat} (ha : a < 301) (hb : b < 301) : (Int32.ofNat a ≤ Int32.ofNat b) ↔ a ≤ b := by
  rw [Int32.le_iff_toInt_le, (gl2 a ha).1, (gl2 b hb).1]
  omega
theorem pb_L103 {T : Nat → Nat} {S : AS} {x : Option Nat} (hT : TI T S) (hx : Tx T 100 x) (hsr : SR S) {n : Nat} (hn : n ≤ 12) (hs8 : (sI S 66 8).toInt = (n : Int)) {F1 : Prop} {Q : Int32 × AS → Prop}
    (hk : ∀ y, In 0 1 y → (y = 1 ↔ F1 ∧ ∀ k, k < n → te S 96 k → ∃ R, circ S n k 0 R) → Ho (f_M_publish_B153 S x y) Q) :
    ∀ m j fu, j + m = n → m < fu → ∀ y, In 0 1 y → (y = 1 ↔ F1 ∧ ∀ k, k < j → te S 96 k → ∃ R, circ S n k 0 R) → Ho (f_M_publish_L103 fu S x y (Int32.ofNat j)) Q := by
  intro m
  induction m with
  | zero =>
    intro j fu h1 h2 y hy hd
    obtain ⟨fu, rfl⟩ : ∃ g, fu = g + 1 := ⟨fu - 1, by omega⟩
    have hj : j = n := by omega
    subst hj
    show Ho (f_M_publish_C103 _ _ _ _ _) Q
    unfold f_M_publish_C103
    refine rd8 hT hx hs8 (r_ifT (Int32.le_refl _) (hk y hy hd))
  | succ m ih =>
    intro j fu h1 h2 y hy hd
    obtain ⟨fu, rfl⟩ : ∃ g, fu = g + 1 := ⟨fu - 1, by omega⟩
    have hj : j < 12 := by omega
    have e1 : Int32.ofNat j + (1 : Int32) = Int32.ofNat (j + 1) := (Int32.ofNat_add j 1).symm
    have hix : In 0 107 ((96 : Int32) + Int32.ofNat j) := ⟨by rw [(i96 hj).1]; omega, by rw [(i96 hj).1]; omega⟩
    show Ho (f_M_publish_C103 _ _ _ _ _) Q
    unfold f_M_publish_C103
    refine rd8 hT hx hs8 (r_ifF (fun q => by have := (le_n (by omega) (by omega)).mp q; omega) ?_)
    by_cases c : y = 0
    · rw [if_pos c]
      refine hk y hy ⟨fun q => absurd (c.symm.trans q) (by decide), fun q => ?_⟩
      exact hd.mpr ⟨q.1, fun k hk' => q.2 k (by omega)⟩
    · rw [if_neg c]
      have y1 : y = 1 := by
        rcases In01 hy with q | q
        · exact absurd q c
        · exact q
      have hd1 := hd.mp y1
      refine r_gR hT hx rfl rfl (fun v6 g6 => ?_)
      refine r_aIs hT g6 rfl (p := 67) rfl rfl hix (by decide) (fun v7 _ e7 => ?_)
      rw [(i96 hj).2] at e7
      by_cases ct : In 1 4 v7
      · have hte : te S 96 j := In_cell e7 ct
        rw [isTest_t ct, b2_s]
        refine r_ifF (by decide) ?_
        refine r_rv hT hx rfl ?_
        refine r_P (P := fun b => ∃ R, circ S n j b R) (t_circ hT hx hsr hn hs8 hj) (fun b hb => ?_)
        obtain ⟨R, hR⟩ := hb
        by_cases cb : b = 0
        · rw [if_pos cb]
          subst cb
          unfold f_M_publish_B141 f_M_publish_B146
          refine r_val ?_
          rw [e1]
          refine ih (j + 1) fu (by omega) (by omega) 1 (by decide) ⟨fun _ => ⟨hd1.1, fun k hk' hkt => ?_⟩, fun _ => rfl⟩
          by_cases e : k = j
          · subst e
            exact ⟨R, hR⟩
          · exact hd1.2 k (by omega) hkt
        · rw [if_neg cb]
          unfold f_M_publish_B146
          refine r_val ?_
          rw [e1]
          refine ih (j + 1) fu (by omega) (by omega) 0 (by decide) ⟨fun q => absurd q (by decide), fun q => ?_⟩
          obtain ⟨R0, hR0⟩ := q.2 j (by omega) hte
          have b1 : b = 1 := by
            rcases In01 hR.2.2.2.1 with q | q
            · exact absurd q cb
            · exact q
          subst b1
          exact absurd (circ_excl hR hR0) id
      · rw [isTest_f ct, b2_s]
        refine r_ifT rfl ?_
        unfold f_M_publish_B141 f_M_publish_B146
        refine r_val ?_
        rw [e1]
        refine ih (j + 1) fu (by omega) (by omega) 1 (by decide) ⟨fun _ => ⟨hd1.1, fun k hk' hkt => ?_⟩, fun _ => rfl⟩
        by_cases e : k = j
        · subst e
          exact absurd (In_read e7 hkt) ct
        · exact hd1.2 k (by omega) hkt
theorem pb_L27 {T : Nat → Nat} {S : AS} {x : Option Nat} (hT : TI T S) (hx : Tx T 100 x) (hsr : SR S) {n : Nat} (hn : n ≤ 12) (hs8 : (sI S 66 8).toInt = (n : Int)) {F0 : Prop} {Q : Int32 × AS → Prop}
    (hk : ∀ y, In 0 1 y → (y = 1 ↔ (F0 ∧ nxin S 96 n) ∧ ∀ k, k < n → te S 96 k → ∃ R, circ S n k 0 R) → Ho (f_M_publish_B153 S x y) Q) :
    ∀ m j fu, j + m = n → m < fu → ∀ y, In 0 1 y → (y = 1 ↔ F0 ∧ ∀ k, k < j → (sI S 67 (96 + k)).toInt < 5 → (sI S 70 (96 + k)).toInt < (n : Int) ∧ (sI S 71 (96 + k)).toInt < (n : Int)) → Ho (f_M_publish_L27 fu S x y (Int32.ofNat j)) Q := by
  intro m
  induction m with
  | zero =>
    intro j fu h1 h2 y hy hd
    obtain ⟨fu, rfl⟩ : ∃ g, fu = g + 1 := ⟨fu - 1, by omega⟩
    have hj : j = n := by omega
    subst hj
    show Ho (f_M_publish_C27 _ _ _ _ _) Q
    unfold f_M_publish_C27
    refine rd8 hT hx hs8 (r_ifT (Int32.le_refl _) ?_)
    refine pb_L103 hT hx hsr hn hs8 (F1 := F0 ∧ nxin S 96 j) hk j 0 kr_FU (by omega) (by show j < 2000; omega) y hy ?_
    rw [hd]
    exact ⟨fun q => ⟨q, fun k hk => absurd hk (Nat.not_lt_zero _)⟩, fun q => q.1⟩
  | succ m ih =>
    intro j fu h1 h2 y hy hd
    obtain ⟨fu, rfl⟩ : ∃ g, fu = g + 1 := ⟨fu - 1, by omega⟩
    have hj : j < 12 := by omega
    have e1 : Int32.ofNat j + (1 : Int32) = Int32.ofNat (j + 1) := (Int32.ofNat_add j 1).symm
    have hix : In 0 107 ((96 : Int32) + Int32.ofNat j) := ⟨by rw [(i96 hj).1]; omega, by rw [(i96 hj).1]; omega⟩
    show Ho (f_M_publish_C27 _ _ _ _ _) Q
    unfold f_M_publish_C27
    refine rd8 hT hx hs8 (r_ifF (fun q => by have := (le_n (by omega) (by omega)).mp q; omega) ?_)
    refine r_val ?_
    have no : ∀ y', In 0 1 y' → (y' = 1 ↔ F0 ∧ ∀ k, k < j + 1 → (sI S 67 (96 + k)).toInt < 5 → (sI S 70 (96 + k)).toInt < (n : Int) ∧ (sI S 71 (96 + k)).toInt < (n : Int)) → Ho (f_M_publish_B94 (f_M_publish_L27 fu) S x (Int32.ofNat j) y') Q := by
      intro y' hy' hd'
      unfold f_M_publish_B94
      refine r_val ?_
      rw [e1]
      exact ih (j + 1) fu (by omega) (by omega) y' hy' hd'
    by_cases c : y = 0
    · rw [if_pos c]
      unfold f_M_publish_B93
      refine no 0 (by decide) ⟨fun q => absurd q (by decide), fun q => ?_⟩
      have := hd.mpr ⟨q.1, fun k hk' => q.2 k (by omega)⟩
      exact absurd (c.symm.trans this) (by decide)
    · rw [if_neg c]
      have y1 : y = 1 := by
        rcases In01 hy with q | q
        · exact absurd q c
        · exact q
      have hd1 := hd.mp y1
      refine r_gR hT hx rfl rfl (fun v6 g6 => ?_)
      refine r_aIs hT g6 rfl (p := 67) rfl rfl hix (by decide) (fun v7 _ e7 => ?_)
      rw [(i96 hj).2] at e7
      have yes : ((sI S 67 (96 + j)).toInt < 5 → (sI S 70 (96 + j)).toInt < (n : Int) ∧ (sI S 71 (96 + j)).toInt < (n : Int)) → Ho (f_M_publish_B89 (f_M_publish_L27 fu) S x (Int32.ofNat j)) Q := by
        intro hj'
        unfold f_M_publish_B89
        refine no 1 (by decide) ⟨fun _ => ⟨hd1.1, fun k hk' => ?_⟩, fun _ => rfl⟩
        by_cases e : k = j
        · subst e
          exact hj'
        · exact hd1.2 k (by omega)
      have bad : ¬ ((sI S 67 (96 + j)).toInt < 5 → (sI S 70 (96 + j)).toInt < (n : Int) ∧ (sI S 71 (96 + j)).toInt < (n : Int)) → Ho (f_M_publish_B93 (f_M_publish_L27 fu) S x (Int32.ofNat j)) Q := by
        intro hj'
        unfold f_M_publish_B93
        exact no 0 (by decide) ⟨fun q => absurd q (by decide), fun q => absurd (q.2 j (by omega)) hj'⟩
      refine r_if (fun c5 => yes (fun q => ?_)) (fun c5 => ?_)
      · have := Int32.le_iff_toInt_le.mp c5
        rw [e7, show (5 : Int32).toInt = 5 from by decide] at this
        omega
      · have h5 : (sI S 67 (96 + j)).toInt < 5 := by
          have := Int32.lt_iff_toInt_lt.mp (Int32.not_le.mp c5)
          rw [e7, show (5 : Int32).toInt = 5 from by decide] at this
          exact this
        refine r_gR hT hx rfl rfl (fun v10 g10 => ?_)
        refine r_aIs hT g10 rfl (p := 70) rfl rfl hix (by decide) (fun v11 _ e11 => ?_)
        rw [(i96 hj).2] at e11
        refine rd8 hT hx hs8 (r_if (fun cy => bad (fun q => ?_)) (fun cy => ?_))
        · have := Int32.le_iff_toInt_le.mp cy
          rw [e11, (gl2 n (by omega)).1] at this
          have := (q h5).1
          omega
        · have hy' : (sI S 70 (96 + j)).toInt < (n : Int) := by
            have := Int32.lt_iff_toInt_lt.mp (Int32.not_le.mp cy)
            rw [e11, (gl2 n (by omega)).1] at this
            exact this
          refine r_gR hT hx rfl rfl (fun v12 g12 => ?_)
          refine r_aIs hT g12 rfl (p := 71) rfl rfl hix (by decide) (fun v13 _ e13 => ?_)
          rw [(i96 hj).2] at e13
          refine rd8 hT hx hs8 (r_if (fun cn => bad (fun q => ?_)) (fun cn => yes (fun _ => ⟨hy', ?_⟩)))
          · have := Int32.le_iff_toInt_le.mp cn
            rw [e13, (gl2 n (by omega)).1] at this
            have := (q h5).2
            omega
          · have := Int32.lt_iff_toInt_lt.mp (Int32.not_le.mp cn)
            rw [e13, (gl2 n (by omega)).1] at this
            exact this
