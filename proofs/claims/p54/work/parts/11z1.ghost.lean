/-! ===== places that are no cells of the run may change between two instructions ===== -/
def rlk (κ : Nat) : Bool := decide (κ < 39) || (decide (40 ≤ κ) && decide (κ < 46))
theorem rlk_iff {κ : Nat} : rlk κ = true ↔ (κ < 39 ∨ (40 ≤ κ ∧ κ < 46)) := by
  unfold rlk
  rw [Bool.or_eq_true, Bool.and_eq_true, decide_eq_true_iff, decide_eq_true_iff, decide_eq_true_iff]
theorem rl_rlk (S : AS) (i : Nat) : kr_rl S i = rlk (sK S (i + 4)) := by
  unfold kr_rl
  rw [Bool.eq_iff_iff, decide_eq_true_iff, rlk_iff]
def gm (S S2 : AS) : AS := (sN S, sK S, sL S, fun k => if rlk (sK S k) = true then sI S k else sI S2 k, sR S, sJ S, sC S, sS S)
/-- the same cells of the run -/
def gs (S S2 : AS) : Prop := sC S2 = sC S ∧ sS S2 = sS S ∧ sN S ≤ sN S2 ∧ ∀ g, kr_ok g S → (∀ ad, kr_ws g ad S2 = kr_ws g ad S) ∧ kr_ok g S2
theorem gs_gm (S S2 : AS) : gs S (gm S S2) := by
  have eI : ∀ k, rlk (sK S k) = true → sI (gm S S2) k = sI S k := fun k h => if_pos h
  refine ⟨rfl, rfl, Nat.le_refl _, fun g h => ⟨fun ad => ?_, ?_⟩⟩
  · unfold kr_ws
    have e : kr_rl (gm S S2) = kr_rl S := rfl
    rw [e]
    refine List.map_congr_left (fun i hi => ?_)
    have := (List.mem_filter.mp hi).2
    rw [rl_rlk] at this
    rw [kr_cE_eq (S := S) (S' := gm S S2) (k := i + 4) rfl rfl (eI _ this) rfl rfl]
  · obtain ⟨h1, h2, h3, h4, h5, h6, h7⟩ := h
    refine ⟨h1, h2, h3, h4, h5, fun j hj => ?_, h7⟩
    rw [eI 1 (by rw [h4.2.1]; rfl)]
    exact h6 j hj
/-- places are added that are no cells of the run -/
def GI (S S2 : AS) : Prop := sN S ≤ sN S2 ∧ (∀ k, k < sN S → sK S2 k = sK S k ∧ sL S2 k = sL S k ∧ sJ S2 k = sJ S k ∧ (rlk (sK S k) = true → sI S2 k = sI S k ∧ sR S2 k = sR S k)) ∧ (∀ k, sN S ≤ k → k < sN S2 → 10 ≤ sK S2 k ∧ rlk (sK S2 k) = false) ∧ (∀ k, sN S2 ≤ k → sK S2 k = 0) ∧ ∀ k j a, sR S2 k j = some a → a < sN S2
theorem flt_grow {p : Nat → Bool} {n : Nat} : ∀ {m : Nat}, n ≤ m → (∀ i, n ≤ i → i < m → p i = false) → (List.range m).filter p = (List.range n).filter p
  | 0, h, _ => by rw [show n = 0 by omega]
  | m + 1, h, hp => by
    by_cases e : n = m + 1
    · rw [e]
    · rw [List.range_succ, List.filter_append, List.filter_cons_of_neg (by rw [hp m (by omega) (by omega)]; decide), List.filter_nil, List.append_nil]
      exact flt_grow (by omega) (fun i h1 h2 => hp i h1 (by omega))
theorem gs_GI {S S2 : AS} (hg : ∀ g, kr_ok g S → GI S S2) (hN : sN S ≤ sN S2) : gs S (sN S2, sK S2, sL S2, sI S2, sR S2, sJ S2, sC S, sS S) := by
  refine ⟨rfl, rfl, hN, fun g h => ?_⟩
  obtain ⟨g1, g2, g3, g4, g5⟩ := hg g h
  have h4 := h.1
  have k0 := h.2.2.2.1
  refine ⟨fun ad => ?_, ?_⟩
  · unfold kr_ws
    have e1 : (List.range (sN S2 - 4)).filter (kr_rl (sN S2, sK S2, sL S2, sI S2, sR S2, sJ S2, sC S, sS S)) = (List.range (sN S - 4)).filter (kr_rl S) := by
      rw [flt_grow (n := sN S - 4) (by omega) (fun i h1 h2 => by
        rw [rl_rlk]
        exact (g3 (i + 4) (by omega) (by omega)).2)]
      refine List.filter_congr (fun i hi => ?_)
      have := List.mem_range.mp hi
      rw [rl_rlk, rl_rlk]
      show rlk (sK S2 (i + 4)) = _
      rw [(g2 (i + 4) (by omega)).1]
    show ((List.range (sN S2 - 4)).filter (kr_rl (sN S2, sK S2, sL S2, sI S2, sR S2, sJ S2, sC S, sS S))).map _ = _
    rw [e1]
    refine List.map_congr_left (fun i hi => ?_)
    obtain ⟨m1, m2⟩ := List.mem_filter.mp hi
    have := List.mem_range.mp m1
    rw [rl_rlk] at m2
    obtain ⟨a1, a2, a3, a4⟩ := g2 (i + 4) (by omega)
    obtain ⟨a5, a6⟩ := a4 m2
    rw [kr_cE_eq (S := S) (S' := (sN S2, sK S2, sL S2, sI S2, sR S2, sJ S2, sC S, sS S)) (k := i + 4) a1 a2 a5 a6 a3]
  · obtain ⟨h1, h2, h3, h4', h5, h6, h7⟩ := h
    obtain ⟨b0, b1, b2, b3⟩ := k0
    have z := fun k (hk : k < 4) => g2 k (by omega)
    refine ⟨Nat.le_trans h1 g1, g4, fun k hk hl => ?_, ⟨(z 0 (by decide)).1.trans b0, (z 1 (by decide)).1.trans b1, (z 2 (by decide)).1.trans b2, (z 3 (by decide)).1.trans b3⟩, ⟨(z 0 (by decide)).2.1.trans h5.1, (z 1 (by decide)).2.1.trans h5.2⟩, fun j hj => ?_, g5⟩
    · by_cases c : k < sN S
      · show kr_own (sK S2 k) ∨ (sK S2 k = 39 ∨ 46 ≤ sK S2 k)
        rw [(g2 k c).1]
        exact h3 k hk c
      · obtain ⟨q1, q2⟩ := g3 k (by omega) hl
        refine Or.inr (Classical.byContradiction (fun q => ?_))
        have : rlk (sK S2 k) = true := rlk_iff.mpr (by
          have q : ¬ (sK S2 k = 39 ∨ 46 ≤ sK S2 k) := q
          omega)
        rw [this] at q2
        cases q2
    · show sI S2 1 j = _
      rw [((z 1 (by decide)).2.2.2 (by rw [b1]; rfl)).1]
      exact h6 j hj
section
variable {M : MM} {d pc : Nat} {lv : List (Nat × Value)} {st : List Value} {S S2 : AS} {r : AR}
theorem kr_ghost (h : gs S S2) (K : kr_AW M d pc lv st S2 r) : kr_AW M d pc lv st S r := by
  obtain ⟨e1, e2, e3, e4⟩ := h
  refine ⟨⟨by rw [← e1]; exact K.1.1, by rw [← e2]; exact K.1.2.1, Nat.le_trans e3 K.1.2.2⟩, ?_⟩
  intro g p l e s m args below meth c ad0 n0 c0 s0 mc ms C ad H locs ls cells slots A
  obtain ⟨a1, a2, a3, a4, a5, a6, a7, a8, a9, a10⟩ := A
  exact K.2 g p l e s m args below meth c ad0 n0 c0 s0 mc ms C ad H locs ls cells slots ⟨a1.trans e1.symm, a2.trans e2.symm, a3, a4, Nat.le_trans a5 e3, a6, ⟨(e4 g a7.1).2, a7.2.1, by rw [(e4 g a7.1).1]; exact a7.2.2.1, by rw [(e4 g a7.1).1]; exact a7.2.2.2⟩, a8, a9, kr_va_mono e3 a10⟩
end
