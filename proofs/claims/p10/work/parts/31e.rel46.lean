/-! ===== p46: the foreign accounts' links (after 31.rel9's, 31.rel23's and 31.rel27's small ones) ===== -/
theorem x_idx1 {S : AS} {a n : Int32} (h0 : 0 ≤ a.toInt) (h1 : a.toInt < n.toInt) : f_K_requireIndex S a n = some (.inl (), S) := by
  unfold f_K_requireIndex
  rw [if_neg (fun q => by have := lt0.mp q; omega), if_pos (Int32.lt_iff_toInt_lt.mpr h1)]
theorem x_idx0 {S : AS} {a n : Int32} (h : ¬ (0 ≤ a.toInt ∧ a.toInt < n.toInt)) : f_K_requireIndex S a n = some (.inr "java/lang/IndexOutOfBoundsException", wX S) := by
  unfold f_K_requireIndex f_K_requireIndex_B9
  by_cases c : a < 0
  · rw [if_pos c]
  · have c' : ¬ a.toInt < 0 := fun q => c (lt0.mpr q)
    rw [if_neg c, if_neg (fun q => h ⟨by omega, Int32.lt_iff_toInt_lt.mp q⟩)]
def RP46 (S : AS) : Prop := ∀ i, i < 6 → sI S 28 i = sI S 122 i
def kr_rc46 : List Nat := [1200, 17600]
theorem rc_no46 {w : List Nat} (h : kr_rc46.all (fun z => !w.contains z) = true) {z : Nat} (hz : z ∈ kr_rc46) : ¬ z ∈ w := fun q => by
  have := List.all_eq_true.mp h z hz
  rw [List.contains_iff_mem.mpr q] at this
  cases this
theorem RP46_fr {T T' : Nat → Nat} {w : List Nat} {S S' : AS} {c s : Nat} (h : RP46 S) (hR : Rl T w S c s T' S') (hw : kr_rc46.all (fun z => !w.contains z) = true) : RP46 S' := by
  have hT : TI T S := hR.2.2.2.2.2.2.2.2
  have no := fun {z} => rc_no46 hw (z := z)
  have e1 := (kd_ty hT (j := 17) (p := 28) rfl rfl).2.1
  have e2 := (md_at hT (j := 76) (p := 122) rfl rfl).2.1
  intro i hi
  rw [hR.fI 28 i (by rw [e1]; decide) (by rw [e1]; exact no (by rw [show cl 12 i = 1200 from if_neg (by decide)]; decide)), hR.fI 122 i (by rw [e2]; decide) (by rw [e2]; exact no (by rw [show cl 176 i = 17600 from if_neg (by decide)]; decide))]
  exact h i hi
theorem z_RP46 : RP46 kr_Z := by
  unfold RP46
  decide +kernel
def LK (S : AS) (i : Nat) (b : Int32) : Prop := b = -1 ∨ sI S 122 i = -1 ∨ sI S 122 i = b
theorem x_K_link {T : Nat → Nat} {S : AS} (hT : TI T S) (h : RP46 S) (a b : Int32) : (¬ (In 0 5 a ∧ In (-1) 5 b) ∧ f_K_link S (some 4) a b = some (.inr "java/lang/IndexOutOfBoundsException", wX S)) ∨ (∃ i, i < 6 ∧ a = Int32.ofNat i ∧ In (-1) 5 b ∧ ((¬ LK S i b ∧ f_K_link S (some 4) a b = some (.inr "java/lang/IllegalStateException", wX S)) ∨ (LK S i b ∧ f_K_link S (some 4) a b = some (.inl (sI S 122 i), wI S 28 i b)))) := by
  have K4 : sK S 4 = 22 := Tx.K hT hT.t9.2.2.2.2.1 (by decide)
  obtain ⟨r, t, -⟩ := kd_ty hT (j := 17) (p := 28) rfl rfl
  have k : sK S 28 = 40 ∧ sL S 28 = 6 := ⟨(Tx.K hT t (by decide)).trans rfl, (hT.t1 28 (by rw [t]; decide)).2.2.2 6 (by rw [t]; rfl)⟩
  have six := (gl2 6 (by decide)).1
  unfold f_K_link
  rw [ti_gR K4, Option.bind_some, r, x_aN (by rw [k.1]; decide), Option.bind_some, k.2]
  by_cases ha : In 0 5 a
  · obtain ⟨i, hi, ei⟩ := ofNat_In (n := 5) (v := a) ha
    have e1 := (gl2 i (by omega)).1
    rw [x_idx1 ha.1 (by rw [six]; have := ha.2; omega), bx_l]
    have B42 : f_K_link_B42 S (some 4) a b (sI S 28 i) = some (.inl (sI S 122 i), wI S 28 i b) := by
      unfold f_K_link_B42 f_K_link_B47
      rw [rS1, bx_l, ti_gR K4, Option.bind_some, r, ei, x_b k.1 (by omega) (by omega), Option.bind_some, h i hi]
    have B47 : f_K_link_B47 S (some 4) a b (sI S 28 i) 0 = some (.inr "java/lang/IllegalStateException", wX S) := by
      unfold f_K_link_B47
      rw [rS0, bx_r]
    have B20 : (¬ LK S i b ∧ f_K_link_B20 S (some 4) a b = some (.inr "java/lang/IllegalStateException", wX S)) ∨ (LK S i b ∧ f_K_link_B20 S (some 4) a b = some (.inl (sI S 122 i), wI S 28 i b)) := by
      have e2 : aI S 40 (some 28) a = some (sI S 28 i) := by rw [ei]; exact x_aIo k.1 (by omega) (by omega)
      unfold f_K_link_B20
      rw [ti_gR K4, Option.bind_some, r, e2, Option.bind_some]
      by_cases c1 : b = -1
      · rw [if_pos c1]
        exact Or.inr ⟨Or.inl c1, B42⟩
      · rw [if_neg c1]
        by_cases c2 : sI S 28 i = -1
        · rw [if_pos c2]
          exact Or.inr ⟨Or.inr (Or.inl ((h i hi).symm.trans c2)), B42⟩
        · rw [if_neg c2]
          by_cases c3 : sI S 28 i = b
          · rw [if_pos c3]
            exact Or.inr ⟨Or.inr (Or.inr ((h i hi).symm.trans c3)), B42⟩
          · rw [if_neg c3]
            refine Or.inl ⟨fun q => ?_, B47⟩
            rcases q with q | q | q
            · exact c1 q
            · exact c2 ((h i hi).trans q)
            · exact c3 ((h i hi).trans q)
    by_cases c : b = -1
    · refine Or.inr ⟨i, hi, ei, by rw [c]; decide, ?_⟩
      rw [if_pos c]
      exact B20
    · rw [if_neg c]
      by_cases hb : In (-1) 5 b
      · have c' : b.toInt ≠ -1 := fun q => c (Int32.toInt_inj.mp (q.trans (by decide)))
        refine Or.inr ⟨i, hi, ei, hb, ?_⟩
        rw [x_idx1 (by have := hb.1; omega) (by rw [show (6 : Int32).toInt = 6 from by decide]; have := hb.2; omega), bx_l]
        exact B20
      · refine Or.inl ⟨fun q => hb q.2, ?_⟩
        rw [x_idx0 (fun q => hb ⟨by omega, by have := q.2; rw [show (6 : Int32).toInt = 6 from by decide] at this; omega⟩), bx_r]
  · refine Or.inl ⟨fun q => ha q.1, ?_⟩
    rw [x_idx0 (fun q => ha ⟨q.1, by have := q.2; rw [six] at this; omega⟩), bx_r]
theorem x_M_link {T : Nat → Nat} {S : AS} (hT : TI T S) (a b : Int32) : (¬ (In 0 5 a ∧ In (-1) 5 b) ∧ f_M_link S (some 57) a b = some (0, wI S 57 82 1)) ∨ (∃ i, i < 6 ∧ a = Int32.ofNat i ∧ In (-1) 5 b ∧ ((¬ LK S i b ∧ f_M_link S (some 57) a b = some (0, wI S 57 82 2)) ∨ (LK S i b ∧ f_M_link S (some 57) a b = some (sI S 122 i, wI (wI S 57 82 0) 122 i b)))) := by
  have hx : Tx T 100 (some 57) := ⟨57, rfl, hT.t9.1, by decide⟩
  have K57 : sK S 57 = 23 := (Tx.K hT hT.t9.1 (by decide)).trans rfl
  obtain ⟨r, t, -⟩ := md_at hT (j := 76) (p := 122) rfl rfl
  have k : sK S 122 = 40 ∧ sL S 122 = 6 := ⟨(Tx.K hT t (by decide)).trans rfl, (hT.t1 122 (by rw [t]; decide)).2.2.2 6 (by rw [t]; rfl)⟩
  have e6 := x_six (a := a) (S := S)
  have eb := x_Min S b (-1) 5
  rw [show (-1 : Int32).toInt = -1 from by decide, show (5 : Int32).toInt = 5 from by decide] at eb
  have bad : f_M_link_B20 S (some 57) a b = some (0, wI S 57 82 1) := by
    unfold f_M_link_B20 f_M_link_B21 f_M_link_B57 f_M_link_B58
    rw [if_pos rfl, ti_rv K57, Option.bind_some, x_mayBoth hT hx, if_pos rfl, b2_s, if_pos rfl]
  unfold f_M_link
  by_cases ha : In 0 5 a
  · obtain ⟨i, hi, ei⟩ := ofNat_In (n := 5) (v := a) ha
    rw [if_pos ha] at e6
    rw [e6, b2_s, if_neg (by decide : ¬ (1 : Int32) = 0), eb, b2_s]
    by_cases hb : In (-1) 5 b
    · rw [if_pos hb, if_neg (by decide : ¬ (1 : Int32) = 0)]
      refine Or.inr ⟨i, hi, ei, hb, ?_⟩
      have B53 : f_M_link_B53 S (some 57) a b (some 57) 1 = some (sI S 122 i, wI (wI S 57 82 0) 122 i b) := by
        have K' : sK (wI S 57 82 0) 57 = 23 := K57
        have r' : sR (wI S 57 82 0) 57 76 = some 122 := r
        have o : sI (wI S 57 82 0) 122 i = sI S 122 i := ti_sI_ne (by omega)
        unfold f_M_link_B53 f_M_link_B58
        rw [ti_rv K57, Option.bind_some, x_mayBoth hT hx, if_neg (by decide : ¬ (1 : Int32) = 0), if_neg (by decide : ¬ (1 : Int32) = 0), b2_s, if_neg (by decide : ¬ (1 : Int32) = 0), ti_gR K', Option.bind_some, r', ei, x_aIo (S := wI S 57 82 0) k.1 (by show i < sL S 122; omega) (by omega), Option.bind_some, Option.bind_some, x_b (S := wI S 57 82 0) k.1 (by show i < sL S 122; omega) (by omega), Option.bind_some, o]
      have B57 : f_M_link_B57 S (some 57) a b (some 57) 1 = some (0, wI S 57 82 2) := by
        unfold f_M_link_B57 f_M_link_B58
        rw [ti_rv K57, Option.bind_some, x_mayBoth hT hx, if_neg (by decide : ¬ (1 : Int32) = 0), if_pos rfl, b2_s, if_pos rfl]
      have e2 : aI S 40 (some 122) a = some (sI S 122 i) := by rw [ei]; exact x_aIo k.1 (by omega) (by omega)
      unfold f_M_link_B21
      rw [if_neg (by decide : ¬ (1 : Int32) = 0)]
      by_cases c1 : b = -1
      · rw [if_pos c1]
        exact Or.inr ⟨Or.inl c1, B53⟩
      · rw [if_neg c1, ti_gR K57, Option.bind_some, r, e2, Option.bind_some, Option.bind_some]
        by_cases c2 : sI S 122 i = -1
        · rw [if_pos c2]
          exact Or.inr ⟨Or.inr (Or.inl c2), B53⟩
        · rw [if_neg c2, e2, Option.bind_some]
          by_cases c3 : sI S 122 i = b
          · rw [if_pos c3]
            exact Or.inr ⟨Or.inr (Or.inr c3), B53⟩
          · rw [if_neg c3]
            refine Or.inl ⟨fun q => ?_, B57⟩
            rcases q with q | q | q
            · exact c1 q
            · exact c2 q
            · exact c3 q
    · rw [if_neg hb, if_pos rfl]
      exact Or.inl ⟨fun q => hb q.2, bad⟩
  · rw [if_neg ha] at e6
    rw [e6, b2_s, if_pos rfl]
    exact Or.inl ⟨fun q => ha q.1, bad⟩
