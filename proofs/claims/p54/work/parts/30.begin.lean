/-! ===== what holds at the start ===== -/
theorem gd_lt {α : Type} {l : List (Option α)} {j : Nat} {x : α} (h : l.getD j none = some x) : j < l.length := by
  by_cases c : j < l.length
  · exact c
  · rw [List.getD_eq_getElem?_getD, List.getElem?_eq_none (by omega)] at h
    cases h
theorem kr_T0lt {k : Nat} (h : kr_T0 k ≠ 0) : k < 141 := by
  by_cases c : k < 141
  · exact c
  · refine absurd ?_ h
    unfold kr_T0
    rw [List.getD_eq_getElem?_getD, List.getElem?_eq_none (by show 141 ≤ k; omega)]
    rfl
def z_t1 (k : Nat) : Bool := kr_T0 k == 0 || (decide (k < sN kr_Z) && sK kr_Z k == kd (kr_T0 k) && kd (kr_T0 k) != 0 && (match ln (kr_T0 k) with | none => true | some n => sL kr_Z k == n))
theorem z_t1a : (List.range 141).all z_t1 = true := by decide +kernel
def z_t2 (k : Nat) : Bool := (List.range (kr_ftT.getD (kr_T0 k) []).length).all fun j => match ft (kr_T0 k) j with | none => true | some τ => match sR kr_Z k j with | none => false | some a => kr_T0 a == τ && τ != 0
theorem z_t2a : (List.range 141).all z_t2 = true := by decide +kernel
def z_t3 (k : Nat) : Bool := (List.range (kr_fnT.getD (kr_T0 k) []).length).all fun j => match fn (kr_T0 k) j with | none => true | some τ => match sR kr_Z k j with | none => true | some a => kr_T0 a == τ && τ != 0
theorem z_t3a : (List.range 141).all z_t3 = true := by decide +kernel
def z_in (lo hi : Int) (v : Int32) : Bool := decide (lo ≤ v.toInt) && decide (v.toInt ≤ hi)
def z_t4 (k : Nat) : Bool := (List.range (kr_rfT.getD (kr_T0 k) []).length).all fun j => match rf (kr_T0 k) j with | none => true | some p => z_in p.1 p.2 (sI kr_Z k j)
theorem z_t4a : (List.range 141).all z_t4 = true := by decide +kernel
def z_t5 (k : Nat) : Bool := match ra (kr_T0 k) with | none => true | some p => (List.range p.1).all fun j => z_in p.2.1 p.2.2 (sI kr_Z k j)
theorem z_t5a : (List.range 141).all z_t5 = true := by decide +kernel
def z_t6 (q : Nat) : Bool := kr_T0 (lp q) == 20 + q && sR kr_Z (lp q) 1 == some 0 && sI kr_Z (lp q) 2 == 0
theorem z_t6a : (List.range 7).all z_t6 = true := by decide +kernel
def z_t7 (k : Nat) : Bool := match sg (kr_T0 k) with | none => true | some p => k == p
theorem z_t7a : (List.range 141).all z_t7 = true := by decide +kernel
theorem z_at {n : Nat} {f : Nat → Bool} (h : (List.range n).all f = true) {k : Nat} (hk : k < n) : f k = true := List.all_eq_true.mp h k (List.mem_range.mpr hk)
theorem z_TI : TI kr_T0 kr_Z := by
  refine ⟨?_, ?_, ?_, ?_, ?_, ?_, ?_, by decide +kernel, by decide +kernel⟩
  · intro k hk
    have h := z_at z_t1a (kr_T0lt hk)
    unfold z_t1 at h
    rw [Bool.or_eq_true] at h
    rcases h with h | h
    · exact absurd (beq_iff_eq.mp h) hk
    · simp only [Bool.and_eq_true] at h
      obtain ⟨⟨⟨a, b⟩, c⟩, d⟩ := h
      refine ⟨of_decide_eq_true a, beq_iff_eq.mp b, bne_iff_ne.mp c, fun n hn => ?_⟩
      rw [hn] at d
      exact beq_iff_eq.mp d
  · intro k j τ e
    have hk : kr_T0 k ≠ 0 := fun q => by rw [q, ft0] at e; cases e
    have h := z_at (z_at z_t2a (kr_T0lt hk)) (gd_lt e)
    simp only [e] at h
    cases c : sR kr_Z k j with
    | none => rw [c] at h; cases h
    | some a =>
      rw [c] at h
      simp only [Bool.and_eq_true] at h
      exact ⟨a, rfl, beq_iff_eq.mp h.1, bne_iff_ne.mp h.2⟩
  · intro k j τ e
    have hk : kr_T0 k ≠ 0 := fun q => by rw [q, fn0] at e; cases e
    have h := z_at (z_at z_t3a (kr_T0lt hk)) (gd_lt e)
    simp only [e] at h
    cases c : sR kr_Z k j with
    | none => exact Or.inl rfl
    | some a =>
      rw [c] at h
      simp only [Bool.and_eq_true] at h
      exact Or.inr ⟨a, rfl, beq_iff_eq.mp h.1, bne_iff_ne.mp h.2⟩
  · intro k j lo hi e
    have hk : kr_T0 k ≠ 0 := fun q => by rw [q, rf0] at e; cases e
    have h := z_at (z_at z_t4a (kr_T0lt hk)) (gd_lt e)
    simp only [e] at h
    unfold z_in at h
    simp only [Bool.and_eq_true] at h
    exact ⟨of_decide_eq_true h.1, of_decide_eq_true h.2⟩
  · intro k j n lo hi e hj
    have hk : kr_T0 k ≠ 0 := fun q => by rw [q, ra0] at e; cases e
    have h := z_at z_t5a (kr_T0lt hk)
    unfold z_t5 at h
    rw [e] at h
    have h := z_at h hj
    unfold z_in at h
    simp only [Bool.and_eq_true] at h
    exact ⟨of_decide_eq_true h.1, of_decide_eq_true h.2⟩
  · intro q hq
    have h := z_at z_t6a hq
    unfold z_t6 at h
    simp only [Bool.and_eq_true] at h
    obtain ⟨⟨a, b⟩, c⟩ := h
    have c := beq_iff_eq.mp c
    refine ⟨beq_iff_eq.mp a, 0, beq_iff_eq.mp b, Or.inr rfl, ?_, ?_, fun i hi => ?_⟩
    · rw [c]
      exact Int.natCast_nonneg (sL kr_Z 0)
    · have e : sL kr_Z 0 ≤ 400 := by decide +kernel
      exact e
    · rw [c] at hi
      exact absurd hi (by show ¬ (i : Int) < 0; omega)
  · intro k p e
    have hk : kr_T0 k ≠ 0 := fun q => by rw [q, sg0] at e; cases e
    have h := z_at z_t7a (kr_T0lt hk)
    unfold z_t7 at h
    rw [e] at h
    exact beq_iff_eq.mp h
theorem z_SR : SR kr_Z := by
  unfold SR
  decide +kernel
theorem z_MI : MI kr_Z := by
  refine ⟨z_SR, fun v n h => ?_, fun a h => ?_, by decide +kernel⟩
  · rw [show sI kr_Z 57 9 = 0 by decide +kernel] at h
    exact absurd h (by show ¬ (v : Int) < 0; omega)
  · rw [show sI kr_Z 57 19 = 0 by decide +kernel] at h
    exact absurd h (by show ¬ (a : Int) < 0; omega)
theorem z_IV : IV 0 kr_T0 kr_Z := ⟨z_TI, z_MI, by decide +kernel, by unfold FT; decide +kernel, trivial, trivial⟩
