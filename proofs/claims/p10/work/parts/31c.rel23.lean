/-! ===== the six persons, the twelve services: found or refused (after 31.rel9's kd_ty, md_at, x_aIo) ===== -/
def PS (S : AS) : Prop := ∀ i, i < 6 → sR S 8 i = some (29 + 4 * i)
theorem x_aN {S : AS} {k : Nat} (h : 40 ≤ sK S k) : aN S (some k) = some (Int32.ofNat (sL S k)) := by
  unfold aN
  rw [Option.bind_some, if_pos (Or.inl h)]
theorem x_aR {S : AS} {κ k i : Nat} {v : Option Nat} (h : sK S k = κ) (hl : i < sL S k) (hi : i ≤ 300) (e : sR S k i = v) : aR S κ (some k) (Int32.ofNat i) = some v := by
  obtain ⟨e1, e2⟩ := gl2 i (by omega)
  unfold aR
  rw [Option.bind_some, if_pos ⟨h, by rw [e1]; omega, by rw [e1]; omega⟩, e2, e]
theorem x_person {T : Nat → Nat} {S : AS} (hT : TI T S) (hp : PS S) (a : Int32) : (¬ In 0 5 a ∧ f_K_findPerson S (some 4) a = some (.inr "java/lang/IndexOutOfBoundsException", wX S)) ∨ (∃ i, i < 6 ∧ a = Int32.ofNat i ∧ f_K_findPerson S (some 4) a = some (.inl (some (29 + 4 * i)), S)) := by
  have K4 : sK S 4 = 22 := Tx.K hT hT.t9.2.2.2.2.1 (by decide)
  obtain ⟨r8, t8, -⟩ := kd_ty hT (j := 2) (p := 8) rfl rfl
  have k8 : sK S 8 = 44 ∧ sL S 8 = 6 := ⟨Tx.K hT t8 (by decide), (hT.t1 8 (by rw [t8]; decide)).2.2.2 6 (by rw [t8]; rfl)⟩
  have bad : f_K_findPerson_B22 S = some (.inr "java/lang/IndexOutOfBoundsException", wX S) := rfl
  by_cases h : In 0 5 a
  · obtain ⟨i, hi, ei⟩ := ofNat_In (n := 5) (v := a) h
    have e1 := (gl2 i (by omega)).1
    refine Or.inr ⟨i, hi, ei, ?_⟩
    unfold f_K_findPerson
    rw [ei, if_neg (fun q => by have := lt0.mp q; rw [e1] at this; omega), ti_gR K4, Option.bind_some, r8, x_aN (by rw [k8.1]; decide), Option.bind_some, k8.2, if_neg (fun q => by
      have := Int32.le_iff_toInt_le.mp q
      rw [e1, (gl2 6 (by decide)).1] at this
      omega), Option.bind_some, x_aR k8.1 (by omega) (by omega) (hp i hi), Option.bind_some]
    rfl
  · refine Or.inl ⟨h, ?_⟩
    unfold f_K_findPerson
    by_cases c : a < 0
    · rw [if_pos c]
      exact bad
    · have c' : ¬ a.toInt < 0 := fun q => c (lt0.mpr q)
      rw [if_neg c, ti_gR K4, Option.bind_some, r8, x_aN (by rw [k8.1]; decide), Option.bind_some, k8.2, if_pos (Int32.le_iff_toInt_le.mpr (by
        rw [(gl2 6 (by decide)).1]
        have : ¬ (0 ≤ a.toInt ∧ a.toInt ≤ 5) := h
        omega))]
      exact bad
def RP23 (T : Nat → Nat) (S : AS) : Prop := PS S ∧ ∀ i, i < 6 → T (29 + 4 * i) = 13 ∧ sI S (29 + 4 * i) 10 = sI S 65 i
def kr_rc23 : List Nat := [50500, 1310, 10800]
theorem rc_no23 {w : List Nat} (h : kr_rc23.all (fun z => !w.contains z) = true) {z : Nat} (hz : z ∈ kr_rc23) : ¬ z ∈ w := fun q => by
  have := List.all_eq_true.mp h z hz
  rw [List.contains_iff_mem.mpr q] at this
  cases this
theorem PS_fr {T T' : Nat → Nat} {w : List Nat} {S S' : AS} {c s : Nat} (h : PS S) (hR : Rl T w S c s T' S') (hw : ¬ 50500 ∈ w) : PS S' := by
  have hT : TI T S := hR.2.2.2.2.2.2.2.2
  have e := (kd_ty hT (j := 2) (p := 8) rfl rfl).2.1
  intro i hi
  rw [hR.fR 8 i (by rw [e]; decide) (by rw [e, show cr 5 i = 50500 from (congrArg (50000 + ·) (if_neg (by decide)))]; exact hw)]
  exact h i hi
theorem RP23_fr {T T' : Nat → Nat} {w : List Nat} {S S' : AS} {c s : Nat} (h : RP23 T S) (hR : Rl T w S c s T' S') (hw : kr_rc23.all (fun z => !w.contains z) = true) : RP23 T' S' := by
  have hT : TI T S := hR.2.2.2.2.2.2.2.2
  have no := fun {z} => rc_no23 hw (z := z)
  have e := (md_at hT (j := 8) (p := 65) rfl rfl).2.1
  refine ⟨PS_fr h.1 hR (no (by decide)), fun i hi => ?_⟩
  obtain ⟨a, b⟩ := h.2 i hi
  refine ⟨(hR.ty _ (by rw [a]; decide)).trans a, ?_⟩
  rw [hR.fI (29 + 4 * i) 10 (by rw [a]; decide) (by rw [a]; exact no (by decide)), hR.fI 65 i (by rw [e]; decide) (by rw [e]; exact no (by rw [show cl 108 i = 10800 from if_neg (by decide)]; decide))]
  exact b
theorem z_RP23 : RP23 kr_T0 kr_Z := by
  unfold RP23 PS
  decide +kernel
def ng (v : Int32) : Int32 := if v = 0 then 1 else 0
theorem x_K_helper {T : Nat → Nat} {S : AS} (hT : TI T S) (h : RP23 T S) (a : Int32) : (¬ In 0 5 a ∧ f_K_helper S (some 4) a = some (.inr "java/lang/IndexOutOfBoundsException", wX S)) ∨ (∃ i, i < 6 ∧ a = Int32.ofNat i ∧ f_K_helper S (some 4) a = some (.inl (ng (sI S 65 i)), wI S (29 + 4 * i) 10 (ng (sI S 65 i)))) := by
  have K4 : sK S 4 = 22 := Tx.K hT hT.t9.2.2.2.2.1 (by decide)
  unfold f_K_helper
  rw [ti_rv K4, Option.bind_some]
  rcases x_person hT h.1 a with ⟨no, e⟩ | ⟨i, hi, ei, e⟩
  · refine Or.inl ⟨no, ?_⟩
    rw [e, bx_r]
  · refine Or.inr ⟨i, hi, ei, ?_⟩
    obtain ⟨t, b⟩ := h.2 i hi
    have K : sK S (29 + 4 * i) = 16 := (Tx.K hT t (by decide)).trans rfl
    rw [e, bx_l, ti_gI K, Option.bind_some, b]
    unfold ng
    by_cases c : sI S 65 i = 0
    · rw [if_pos c, if_pos c, ti_pZ K (Or.inr rfl), Option.bind_some, ti_gI (S := wI S (29 + 4 * i) 10 1) K, Option.bind_some, ti_sI_eq]
      rfl
    · rw [if_neg c, if_neg c, ti_pZ K (Or.inl rfl), Option.bind_some, ti_gI (S := wI S (29 + 4 * i) 10 0) K, Option.bind_some, ti_sI_eq]
      rfl
theorem x_six {a : Int32} {S : AS} : f_M_isSix S a = some (if In 0 5 a then 1 else 0, S) := by
  unfold f_M_isSix
  obtain ⟨q, hq, e⟩ : Ho (kr_b2 (f_M_isIn S a (0 : Int32) (5 : Int32)) fun v2 S1 => (kr_z v2).bind fun u3 => some (v2, S1)) (fun q => q = (if In 0 5 a then 1 else 0, S)) := by
    refine r_MiX (fun p1 p2 => ?_) (fun p => ?_)
    · rw [if_pos (show In 0 5 a from In_iff.mp ⟨p1, p2⟩)]
      exact ⟨_, rfl, rfl⟩
    · rw [if_neg (show ¬ In 0 5 a from fun q => p (In_iff.mpr q))]
      exact ⟨_, rfl, rfl⟩
  rw [hq, e]
theorem x_bZ {S : AS} {k i : Nat} {v : Int32} (h : sK S k = 41) (hl : i < sL S k) (hi : i ≤ 300) (hv : v = 0 ∨ v = 1) : bZ S (some k) (Int32.ofNat i) v = some (wI S k i v) := by
  obtain ⟨e1, e2⟩ := gl2 i (by omega)
  unfold bZ
  rw [Option.bind_some, if_pos ⟨h, ⟨by rw [e1]; omega, by rw [e1]; omega⟩, hv⟩, e2]
theorem x_aZ {S : AS} {k i : Nat} (h : sK S k = 41) (hl : i < sL S k) (hi : i ≤ 300) : aI S 41 (some k) (Int32.ofNat i) = some (sI S k i) := by
  obtain ⟨e1, e2⟩ := gl2 i (by omega)
  unfold aI
  rw [Option.bind_some, if_pos ⟨h, by rw [e1]; omega, by rw [e1]; omega⟩, e2]
theorem x_M_helper {T : Nat → Nat} {S : AS} (hT : TI T S) (a : Int32) : (¬ In 0 5 a ∧ f_M_helper S (some 57) a = some (0, wI S 57 82 1)) ∨ (∃ i, i < 6 ∧ a = Int32.ofNat i ∧ f_M_helper S (some 57) a = some (ng (sI S 65 i), wI (wI S 57 82 0) 65 i (ng (sI S 65 i)))) := by
  have hx : Tx T 100 (some 57) := ⟨57, rfl, hT.t9.1, by decide⟩
  have K57 : sK S 57 = 23 := (Tx.K hT hT.t9.1 (by decide)).trans rfl
  obtain ⟨r65, t65, -⟩ := md_at hT (j := 8) (p := 65) rfl rfl
  have k65 : sK S 65 = 41 ∧ sL S 65 = 6 := ⟨(Tx.K hT t65 (by decide)).trans rfl, (hT.t1 65 (by rw [t65]; decide)).2.2.2 6 (by rw [t65]; rfl)⟩
  unfold f_M_helper
  by_cases h : In 0 5 a
  · obtain ⟨i, hi, ei⟩ := ofNat_In (n := 5) (v := a) h
    refine Or.inr ⟨i, hi, ei, ?_⟩
    have e6 := x_six (a := a) (S := S)
    rw [if_pos h] at e6
    have K' : sK (wI S 57 82 0) 57 = 23 := K57
    have r' : sR (wI S 57 82 0) 57 8 = some 65 := r65
    have o : sI (wI S 57 82 0) 65 i = sI S 65 i := ti_sI_ne (by omega)
    have e1 := x_aZ (S := wI S 57 82 0) (k := 65) (i := i) k65.1 (by show i < sL S 65; omega) (by omega)
    rw [e6, b2_s, ti_rv K57, Option.bind_some, x_may hT hx (by decide), b2_s, if_neg (by decide : ¬ (1 : Int32) = 0), if_neg (by decide : ¬ (1 : Int32) = 0), ti_gR K', Option.bind_some, r', Option.bind_some, ei, e1, Option.bind_some, o]
    have fin : ∀ v, (v = 0 ∨ v = 1) → f_M_helper_B32 (wI S 57 82 0) (some 57) (Int32.ofNat i) (some 65) (Int32.ofNat i) v = some (v, wI (wI S 57 82 0) 65 i v) := fun v hv => by
      unfold f_M_helper_B32
      have K2 : sK (wI (wI S 57 82 0) 65 i v) 57 = 23 := K57
      have r2 : sR (wI (wI S 57 82 0) 65 i v) 57 8 = some 65 := r65
      have e2 := x_aZ (S := wI (wI S 57 82 0) 65 i v) (k := 65) (i := i) k65.1 (by show i < sL S 65; omega) (by omega)
      rw [x_bZ (S := wI S 57 82 0) k65.1 (by show i < sL S 65; omega) (by omega) hv, Option.bind_some, ti_gR K2, Option.bind_some, r2, e2, Option.bind_some, ti_sI_eq]
      rcases hv with rfl | rfl <;> rfl
    unfold ng
    by_cases c : sI S 65 i = 0
    · rw [if_pos c, if_pos c]
      exact fin 1 (Or.inr rfl)
    · rw [if_neg c, if_neg c]
      exact fin 0 (Or.inl rfl)
  · refine Or.inl ⟨h, ?_⟩
    have e6 := x_six (a := a) (S := S)
    rw [if_neg h] at e6
    rw [e6, b2_s, ti_rv K57, Option.bind_some, x_may hT hx (by decide), b2_s, if_pos rfl, if_pos rfl]
