/-! ===== step: what it asks ===== -/
def most (k : Int32) : Int32 := if k = 0 then 2 else if k = 1 then 0 else if k = 2 then 20 else if k = 3 then 2 else if k = 4 then 6 else 0
def OKS (k a b y n : Int32) : Prop := In 0 6 k ∧ (0 ≤ a ∧ a ≤ most k) ∧ (if k = 0 then In 1 3 b else b = 0) ∧ (k.toInt < 5 → In (-1) 11 y ∧ In (-1) 11 n)
theorem ho_most (S : AS) (k : Int32) : f_K_mostFirst S k = some (most k, S) := by
  unfold f_K_mostFirst most
  by_cases c0 : k = 0
  · rw [if_pos c0, if_pos c0]
  · rw [if_neg c0, if_neg c0]
    by_cases c1 : k = 1
    · rw [if_pos c1, if_pos c1]
    · rw [if_neg c1, if_neg c1]
      by_cases c2 : k = 2
      · rw [if_pos c2, if_pos c2]
      · rw [if_neg c2, if_neg c2]
        by_cases c3 : k = 3
        · rw [if_pos c3, if_pos c3]
        · rw [if_neg c3, if_neg c3]
          by_cases c4 : k = 4
          · rw [if_pos c4, if_pos c4]
          · rw [if_neg c4, if_neg c4]
/-- a range, decided -/
theorem r_KwX {β : Type} {S : AS} {a lo hi : Int32} {F : Int32 → AS → Option β} {Q : β → Prop} (h1 : lo ≤ a → a ≤ hi → Ho (F 1 S) Q) (h0 : ¬ (lo ≤ a ∧ a ≤ hi) → Ho (F 0 S) Q) : Ho (kr_b2 (f_K_isWithin S a lo hi) F) Q := by
  unfold f_K_isWithin
  by_cases c1 : a < lo
  · rw [if_pos c1]; exact h0 (fun q => absurd q.1 (Int32.not_le.mpr c1))
  · by_cases c2 : hi < a
    · rw [if_neg c1, if_pos c2]; exact h0 (fun q => absurd q.2 (Int32.not_le.mpr c2))
    · rw [if_neg c1, if_neg c2]; exact h1 (Int32.not_lt.mp c1) (Int32.not_lt.mp c2)
theorem r_MiX {β : Type} {S : AS} {a lo hi : Int32} {F : Int32 → AS → Option β} {Q : β → Prop} (h1 : lo ≤ a → a ≤ hi → Ho (F 1 S) Q) (h0 : ¬ (lo ≤ a ∧ a ≤ hi) → Ho (F 0 S) Q) : Ho (kr_b2 (f_M_isIn S a lo hi) F) Q := by
  unfold f_M_isIn
  by_cases c1 : a < lo
  · rw [if_pos c1]; exact h0 (fun q => absurd q.1 (Int32.not_le.mpr c1))
  · by_cases c2 : hi < a
    · rw [if_neg c1, if_pos c2]; exact h0 (fun q => absurd q.2 (Int32.not_le.mpr c2))
    · rw [if_neg c1, if_neg c2]; exact h1 (Int32.not_lt.mp c1) (Int32.not_lt.mp c2)
theorem In_iff {lo hi a : Int32} : (lo ≤ a ∧ a ≤ hi) ↔ In lo.toInt hi.toInt a := by
  rw [Int32.le_iff_toInt_le, Int32.le_iff_toInt_le]
theorem r_KnX {β : Type} {S : AS} {a : Int32} {F : Int32 → AS → Option β} {Q : β → Prop} (h1 : In (-1) 11 a → Ho (F 1 S) Q) (h0 : ¬ In (-1) 11 a → Ho (F 0 S) Q) : Ho (kr_b2 (f_K_isNext S a) F) Q := by
  have : ∃ v, f_K_isNext S a = some (v, S) ∧ ((v = 1 ∧ In (-1) 11 a) ∨ (v = 0 ∧ ¬ In (-1) 11 a)) := by
    obtain ⟨⟨v, S'⟩, e, h⟩ : Ho (f_K_isNext S a) (fun q => q.2 = S ∧ ((q.1 = 1 ∧ In (-1) 11 a) ∨ (q.1 = 0 ∧ ¬ In (-1) 11 a))) := by
      unfold f_K_isNext
      exact r_KwX (fun p q => ⟨(1, S), rfl, rfl, Or.inl ⟨rfl, In_iff.mp ⟨p, q⟩⟩⟩) (fun p => ⟨(0, S), rfl, rfl, Or.inr ⟨rfl, fun q => p (In_iff.mpr q)⟩⟩)
    obtain ⟨h1, h2⟩ := h
    cases h1
    exact ⟨v, e, h2⟩
  obtain ⟨v, e, h⟩ := this
  rw [e, b2_s]
  rcases h with ⟨rfl, h⟩ | ⟨rfl, h⟩
  · exact h1 h
  · exact h0 h
theorem r_MnX {β : Type} {S : AS} {a : Int32} {F : Int32 → AS → Option β} {Q : β → Prop} (h1 : In (-1) 11 a → Ho (F 1 S) Q) (h0 : ¬ In (-1) 11 a → Ho (F 0 S) Q) : Ho (kr_b2 (f_M_isNext S a) F) Q := by
  have : ∃ v, f_M_isNext S a = some (v, S) ∧ ((v = 1 ∧ In (-1) 11 a) ∨ (v = 0 ∧ ¬ In (-1) 11 a)) := by
    obtain ⟨⟨v, S'⟩, e, h⟩ : Ho (f_M_isNext S a) (fun q => q.2 = S ∧ ((q.1 = 1 ∧ In (-1) 11 a) ∨ (q.1 = 0 ∧ ¬ In (-1) 11 a))) := by
      unfold f_M_isNext
      exact r_MiX (fun p q => ⟨(1, S), rfl, rfl, Or.inl ⟨rfl, In_iff.mp ⟨p, q⟩⟩⟩) (fun p => ⟨(0, S), rfl, rfl, Or.inr ⟨rfl, fun q => p (In_iff.mpr q)⟩⟩)
    obtain ⟨h1, h2⟩ := h
    cases h1
    exact ⟨v, e, h2⟩
  obtain ⟨v, e, h⟩ := this
  rw [e, b2_s]
  rcases h with ⟨rfl, h⟩ | ⟨rfl, h⟩
  · exact h1 h
  · exact h0 h
theorem t_isStep (S : AS) (k a b y n : Int32) : Ho (f_K_isStep S k a b y n) (fun q => q.2 = S ∧ ((q.1 = 1 ∧ OKS k a b y n) ∨ (q.1 = 0 ∧ ¬ OKS k a b y n))) := by
  have no : ¬ OKS k a b y n → Ho (some ((0 : Int32), S)) (fun q => q.2 = S ∧ ((q.1 = 1 ∧ OKS k a b y n) ∨ (q.1 = 0 ∧ ¬ OKS k a b y n))) := fun h => r_some ⟨rfl, Or.inr ⟨rfl, h⟩⟩
  have tl : In 0 6 k → (0 ≤ a ∧ a ≤ most k) → (if k = 0 then In 1 3 b else b = 0) → Ho (if (5 : Int32) ≤ k then f_K_isStep_B71 S else kr_b2 (f_K_isNext S y) fun v4 S3 => if v4 = 0 then some ((0 : Int32), S3) else kr_b2 (f_K_isNext S3 n) fun v6 S5 => if v6 = 0 then some ((0 : Int32), S5) else f_K_isStep_B71 S5) (fun q => q.2 = S ∧ ((q.1 = 1 ∧ OKS k a b y n) ∨ (q.1 = 0 ∧ ¬ OKS k a b y n))) := by
    intro h1 h2 h3
    refine r_if (fun c5 => ?_) (fun c5 => ?_)
    · refine r_some ⟨rfl, Or.inl ⟨rfl, h1, h2, h3, fun q => ?_⟩⟩
      have := Int32.le_iff_toInt_le.mp c5
      rw [show (5 : Int32).toInt = 5 from by decide] at this
      omega
    · have k5 : k.toInt < 5 := by
        have := Int32.lt_iff_toInt_lt.mp (Int32.not_le.mp c5)
        rw [show (5 : Int32).toInt = 5 from by decide] at this
        exact this
      refine r_KnX (fun hy => ?_) (fun hy => r_ifT rfl (no (fun q => hy (q.2.2.2 k5).1)))
      refine r_ifF (by decide) ?_
      refine r_KnX (fun hn => ?_) (fun hn => r_ifT rfl (no (fun q => hn (q.2.2.2 k5).2)))
      exact r_ifF (by decide) (r_some ⟨rfl, Or.inl ⟨rfl, h1, h2, h3, fun _ => ⟨hy, hn⟩⟩⟩)
  unfold f_K_isStep
  refine r_KwX (fun p q => ?_) (fun h => r_ifT rfl (no (fun z => h (In_iff.mpr z.1))))
  have h1 : In 0 6 k := In_iff.mp ⟨p, q⟩
  refine r_ifF (by decide) ?_
  rw [ho_most, b2_s]
  refine r_KwX (fun p2 q2 => ?_) (fun h => r_ifT rfl (no (fun z => h z.2.1)))
  refine r_ifF (by decide) ?_
  refine r_if (fun c0 => ?_) (fun c0 => ?_)
  · unfold f_K_isStep_B34 f_K_isStep_B43
    refine r_ifT c0 ?_
    refine r_KwX (fun p3 q3 => ?_) (fun h => r_ifT rfl (no (fun z => h (In_iff.mpr (by have := z.2.2.1; rw [if_pos c0] at this; exact this)))))
    exact r_ifF (by decide) (tl h1 ⟨p2, q2⟩ (by rw [if_pos c0]; exact In_iff.mp ⟨p3, q3⟩))
  · unfold f_K_isStep_B34 f_K_isStep_B43
    refine r_ifF c0 ?_
    refine r_KwX (fun p3 q3 => ?_) (fun h => r_ifT rfl (no (fun z => h (by have := z.2.2.1; rw [if_neg c0] at this; rw [this]; decide))))
    refine r_ifF (by decide) (tl h1 ⟨p2, q2⟩ ?_)
    rw [if_neg c0]
    have := In_iff.mp ⟨p3, q3⟩
    obtain ⟨z1, z2⟩ := this
    rw [show (0 : Int32).toInt = 0 from by decide] at z1 z2
    exact Int32.toInt_inj.mp (by rw [show (0 : Int32).toInt = 0 from by decide]; omega)
theorem t_M_step_ok {S : AS} {x : Option Nat} {k a b y n : Int32} {Q : Int32 × AS → Prop} (h1 : OKS k a b y n → Ho (f_M_step_B109 S x k a b y n) Q) (h0 : ¬ OKS k a b y n → Ho (f_M_step_B113 S x k a b y n) Q) : Ho (f_M_step S x k a b y n) Q := by
  have b80 : ¬ OKS k a b y n → Ho (f_M_step_B80 S x k a b y n) Q := fun h => by
    unfold f_M_step_B80 f_M_step_B81
    exact r_ifT rfl (h0 h)
  have b76 : In 0 6 k → (0 ≤ a ∧ a ≤ most k) → (if k = 0 then In 1 3 b else b = 0) → Ho (f_M_step_B76 S x k a b y n) Q := by
    intro g1 g2 g3
    unfold f_M_step_B76 f_M_step_B81
    refine r_ifF (by decide) ?_
    refine r_if (fun c5 => h1 ⟨g1, g2, g3, fun q => ?_⟩) (fun c5 => ?_)
    · have := Int32.le_iff_toInt_le.mp c5
      rw [show (5 : Int32).toInt = 5 from by decide] at this
      omega
    · have k5 : k.toInt < 5 := by
        have := Int32.lt_iff_toInt_lt.mp (Int32.not_le.mp c5)
        rw [show (5 : Int32).toInt = 5 from by decide] at this
        exact this
      refine r_MnX (fun hy => ?_) (fun hy => r_ifT rfl (h0 (fun q => hy (q.2.2.2 k5).1)))
      refine r_ifF (by decide) ?_
      refine r_MnX (fun hn => ?_) (fun hn => r_ifT rfl (h0 (fun q => hn (q.2.2.2 k5).2)))
      exact r_ifF (by decide) (h1 ⟨g1, g2, g3, fun _ => ⟨hy, hn⟩⟩)
  have b34 : ∀ m, m = most k → Ho (f_M_step_B34 S x k a b y n m) Q := by
    intro m hm
    subst hm
    unfold f_M_step_B34
    refine r_MiX (fun p q => ?_) (fun h => r_ifT rfl (b80 (fun z => h (In_iff.mpr z.1))))
    have g1 : In 0 6 k := In_iff.mp ⟨p, q⟩
    refine r_ifF (by decide) ?_
    refine r_MiX (fun p2 q2 => ?_) (fun h => r_ifT rfl (b80 (fun z => h z.2.1)))
    refine r_ifF (by decide) ?_
    refine r_if (fun c0 => ?_) (fun c0 => ?_)
    · refine r_MiX (fun p3 q3 => ?_) (fun h => r_ifT rfl (b80 (fun z => h (In_iff.mpr (by have := z.2.2.1; rw [if_pos c0] at this; exact this)))))
      exact r_ifF (by decide) (b76 g1 ⟨p2, q2⟩ (by rw [if_pos c0]; exact In_iff.mp ⟨p3, q3⟩))
    · refine r_if (fun cb => b76 g1 ⟨p2, q2⟩ (by rw [if_neg c0]; exact cb)) (fun cb => b80 (fun z => cb (by have := z.2.2.1; rw [if_neg c0] at this; exact this)))
  unfold f_M_step f_M_step_B9
  unfold most at b34
  refine r_if (fun c0 => b34 _ (by rw [if_pos c0])) (fun c0 => ?_)
  refine r_if (fun c3 => b34 _ (by rw [if_neg c0, if_neg (by rw [c3]; decide), if_neg (by rw [c3]; decide), if_pos c3])) (fun c3 => ?_)
  refine r_if (fun c2 => b34 _ (by rw [if_neg c0, if_neg (by rw [c2]; decide), if_pos c2])) (fun c2 => ?_)
  refine r_if (fun c4 => b34 _ (by rw [if_neg c0, if_neg (by rw [c4]; decide), if_neg c2, if_neg c3, if_pos c4])) (fun c4 => ?_)
  refine b34 _ ?_
  rw [if_neg c0]
  by_cases c1 : k = 1
  · rw [if_pos c1]
  · rw [if_neg c1, if_neg c2, if_neg c3, if_neg c4]
