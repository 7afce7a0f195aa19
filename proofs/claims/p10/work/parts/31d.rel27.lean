/-! ===== p27: what a service needs (after 31.rel9's and 31.rel23's small ones) ===== -/
def SV (S : AS) : Prop := ∀ i, i < 4 → sR S 21 i = some (53 + i)
theorem x_service {T : Nat → Nat} {S : AS} (hT : TI T S) (hp : SV S) (a : Int32) : (¬ In 0 3 a ∧ f_K_findService S (some 4) a = some (.inr "java/lang/IndexOutOfBoundsException", wX S)) ∨ (∃ i, i < 4 ∧ a = Int32.ofNat i ∧ f_K_findService S (some 4) a = some (.inl (some (53 + i)), S)) := by
  have K4 : sK S 4 = 22 := Tx.K hT hT.t9.2.2.2.2.1 (by decide)
  obtain ⟨r8, t8, -⟩ := kd_ty hT (j := 11) (p := 21) rfl rfl
  have k8 : sK S 21 = 45 ∧ sL S 21 = 4 := ⟨Tx.K hT t8 (by decide), (hT.t1 21 (by rw [t8]; decide)).2.2.2 4 (by rw [t8]; rfl)⟩
  have bad : f_K_findService_B22 S = some (.inr "java/lang/IndexOutOfBoundsException", wX S) := rfl
  by_cases h : In 0 3 a
  · obtain ⟨i, hi, ei⟩ := ofNat_In (n := 3) (v := a) h
    have e1 := (gl2 i (by omega)).1
    refine Or.inr ⟨i, hi, ei, ?_⟩
    unfold f_K_findService
    rw [ei, if_neg (fun q => by have := lt0.mp q; rw [e1] at this; omega), ti_gR K4, Option.bind_some, r8, x_aN (by rw [k8.1]; decide), Option.bind_some, k8.2, if_neg (fun q => by
      have := Int32.le_iff_toInt_le.mp q
      rw [e1, (gl2 4 (by decide)).1] at this
      omega), Option.bind_some, x_aR k8.1 (by omega) (by omega) (hp i hi), Option.bind_some]
    rfl
  · refine Or.inl ⟨h, ?_⟩
    unfold f_K_findService
    by_cases c : a < 0
    · rw [if_pos c]
      exact bad
    · have c' : ¬ a.toInt < 0 := fun q => c (lt0.mpr q)
      rw [if_neg c, ti_gR K4, Option.bind_some, r8, x_aN (by rw [k8.1]; decide), Option.bind_some, k8.2, if_pos (Int32.le_iff_toInt_le.mpr (by
        rw [(gl2 4 (by decide)).1]
        have : ¬ (0 ≤ a.toInt ∧ a.toInt ≤ 3) := h
        omega))]
      exact bad
def RP27 (T : Nat → Nat) (S : AS) : Prop := SV S ∧ ∀ i, i < 4 → T (53 + i) = 17 ∧ sI S (53 + i) 0 = sI S 92 i
def kr_rc27 : List Nat := [50900, 1700, 13800]
theorem rc_no27 {w : List Nat} (h : kr_rc27.all (fun z => !w.contains z) = true) {z : Nat} (hz : z ∈ kr_rc27) : ¬ z ∈ w := fun q => by
  have := List.all_eq_true.mp h z hz
  rw [List.contains_iff_mem.mpr q] at this
  cases this
theorem SV_fr {T T' : Nat → Nat} {w : List Nat} {S S' : AS} {c s : Nat} (h : SV S) (hR : Rl T w S c s T' S') (hw : ¬ 50900 ∈ w) : SV S' := by
  have hT : TI T S := hR.2.2.2.2.2.2.2.2
  have e := (kd_ty hT (j := 11) (p := 21) rfl rfl).2.1
  intro i hi
  rw [hR.fR 21 i (by rw [e]; decide) (by rw [e, show cr 9 i = 50900 from (congrArg (50000 + ·) (if_neg (by decide)))]; exact hw)]
  exact h i hi
theorem RP27_fr {T T' : Nat → Nat} {w : List Nat} {S S' : AS} {c s : Nat} (h : RP27 T S) (hR : Rl T w S c s T' S') (hw : kr_rc27.all (fun z => !w.contains z) = true) : RP27 T' S' := by
  have hT : TI T S := hR.2.2.2.2.2.2.2.2
  have no := fun {z} => rc_no27 hw (z := z)
  have e := (md_at hT (j := 38) (p := 92) rfl rfl).2.1
  refine ⟨SV_fr h.1 hR (no (by decide)), fun i hi => ?_⟩
  obtain ⟨a, b⟩ := h.2 i hi
  refine ⟨(hR.ty _ (by rw [a]; decide)).trans a, ?_⟩
  rw [hR.fI (53 + i) 0 (by rw [a]; decide) (by rw [a]; exact no (by decide)), hR.fI 92 i (by rw [e]; decide) (by rw [e]; exact no (by rw [show cl 138 i = 13800 from if_neg (by decide)]; decide))]
  exact b
theorem z_RP27 : RP27 kr_T0 kr_Z := by
  unfold RP27 SV
  decide +kernel
theorem x_Kin (S : AS) (a lo hi : Int32) : f_K_isWithin S a lo hi = some (if In lo.toInt hi.toInt a then 1 else 0, S) := by
  unfold f_K_isWithin
  by_cases c1 : a < lo
  · rw [if_pos c1, if_neg (fun q => absurd (In_iff.mpr q).1 (Int32.not_le.mpr c1))]
  · by_cases c2 : hi < a
    · rw [if_neg c1, if_pos c2, if_neg (fun q => absurd (In_iff.mpr q).2 (Int32.not_le.mpr c2))]
    · rw [if_neg c1, if_neg c2, if_pos (In_iff.mp ⟨Int32.not_lt.mp c1, Int32.not_lt.mp c2⟩)]
theorem x_Min (S : AS) (a lo hi : Int32) : f_M_isIn S a lo hi = some (if In lo.toInt hi.toInt a then 1 else 0, S) := by
  unfold f_M_isIn
  by_cases c1 : a < lo
  · rw [if_pos c1, if_neg (fun q => absurd (In_iff.mpr q).1 (Int32.not_le.mpr c1))]
  · by_cases c2 : hi < a
    · rw [if_neg c1, if_pos c2, if_neg (fun q => absurd (In_iff.mpr q).2 (Int32.not_le.mpr c2))]
    · rw [if_neg c1, if_neg c2, if_pos (In_iff.mp ⟨Int32.not_lt.mp c1, Int32.not_lt.mp c2⟩)]
theorem x_K_need {T : Nat → Nat} {S : AS} (hT : TI T S) (h : RP27 T S) (a b : Int32) : (¬ In 0 3 a ∧ f_K_need S (some 4) a b = some (.inr "java/lang/IndexOutOfBoundsException", wX S)) ∨ (∃ i, i < 4 ∧ a = Int32.ofNat i ∧ ((¬ In 0 6 b ∧ f_K_need S (some 4) a b = some (.inr "java/lang/IllegalArgumentException", wX S)) ∨ (In 0 6 b ∧ f_K_need S (some 4) a b = some (.inl (sI S 92 i), wI S (53 + i) 0 b)))) := by
  have K4 : sK S 4 = 22 := Tx.K hT hT.t9.2.2.2.2.1 (by decide)
  have eb := x_Kin S b 0 6
  rw [show (0 : Int32).toInt = 0 from by decide, show (6 : Int32).toInt = 6 from by decide] at eb
  unfold f_K_need
  rw [ti_rv K4, Option.bind_some]
  rcases x_service hT h.1 a with ⟨no, e⟩ | ⟨i, hi, ei, e⟩
  · refine Or.inl ⟨no, ?_⟩
    rw [e, bx_r]
  · refine Or.inr ⟨i, hi, ei, ?_⟩
    obtain ⟨t, b92⟩ := h.2 i hi
    have K : sK S (53 + i) = 18 := (Tx.K hT t (by decide)).trans rfl
    by_cases hb : In 0 6 b
    · rw [if_pos hb] at eb
      refine Or.inr ⟨hb, ?_⟩
      rw [e, bx_l, eb, b2_s, rA1, bx_l, ti_gI K, Option.bind_some, ti_pI K, Option.bind_some, b92]
    · rw [if_neg hb] at eb
      refine Or.inl ⟨hb, ?_⟩
      rw [e, bx_l, eb, b2_s, rA0, bx_r]
theorem x_Mserv {a : Int32} {S : AS} : f_M_isService S a = some (if In 0 3 a then 1 else 0, S) := by
  unfold f_M_isService
  have e := x_Min S a 0 3
  rw [show (0 : Int32).toInt = 0 from by decide, show (3 : Int32).toInt = 3 from by decide] at e
  rw [e, b2_s]
  by_cases h : In 0 3 a
  · rw [if_pos h]
    rfl
  · rw [if_neg h]
    rfl
theorem x_M_need {T : Nat → Nat} {S : AS} (hT : TI T S) (a b : Int32) : (¬ In 0 3 a ∧ f_M_need S (some 57) a b = some (0, wI S 57 82 1)) ∨ (∃ i, i < 4 ∧ a = Int32.ofNat i ∧ ((¬ In 0 6 b ∧ f_M_need S (some 57) a b = some (0, wI S 57 82 2)) ∨ (In 0 6 b ∧ f_M_need S (some 57) a b = some (sI S 92 i, wI (wI S 57 82 0) 92 i b)))) := by
  have hx : Tx T 100 (some 57) := ⟨57, rfl, hT.t9.1, by decide⟩
  have K57 : sK S 57 = 23 := (Tx.K hT hT.t9.1 (by decide)).trans rfl
  obtain ⟨r, t, -⟩ := md_at hT (j := 38) (p := 92) rfl rfl
  have k : sK S 92 = 40 ∧ sL S 92 = 4 := ⟨(Tx.K hT t (by decide)).trans rfl, (hT.t1 92 (by rw [t]; decide)).2.2.2 4 (by rw [t]; rfl)⟩
  have ea := x_Mserv (a := a) (S := S)
  have eb := x_Min S b 0 6
  rw [show (0 : Int32).toInt = 0 from by decide, show (6 : Int32).toInt = 6 from by decide] at eb
  unfold f_M_need
  rw [ea, b2_s, eb, b2_s, ti_rv K57, Option.bind_some, x_mayBoth hT hx]
  by_cases h : In 0 3 a
  · obtain ⟨i, hi, ei⟩ := ofNat_In (n := 3) (v := a) h
    refine Or.inr ⟨i, hi, ei, ?_⟩
    by_cases hb : In 0 6 b
    · refine Or.inr ⟨hb, ?_⟩
      have K' : sK (wI S 57 82 0) 57 = 23 := K57
      have r' : sR (wI S 57 82 0) 57 38 = some 92 := r
      have o : sI (wI S 57 82 0) 92 i = sI S 92 i := ti_sI_ne (by omega)
      rw [if_pos h, if_pos hb, if_neg (by decide : ¬ (1 : Int32) = 0), b2_s, if_neg (by decide : ¬ (1 : Int32) = 0), ti_gR K', Option.bind_some, r', ei, x_aIo (S := wI S 57 82 0) k.1 (by show i < sL S 92; omega) (by omega), Option.bind_some, Option.bind_some, x_b (S := wI S 57 82 0) k.1 (by show i < sL S 92; omega) (by omega), Option.bind_some, o]
      exact if_neg (by decide : ¬ (1 : Int32) = 0)
    · refine Or.inl ⟨hb, ?_⟩
      rw [if_pos h, if_neg hb, if_neg (by decide : ¬ (1 : Int32) = 0), if_pos rfl, b2_s, if_pos rfl]
  · refine Or.inl ⟨h, ?_⟩
    rw [if_neg h, if_pos rfl, b2_s, if_pos rfl]
