/-! ===== an element at a list's end: lengths; an entry: no new place ===== -/
theorem p_and {α : Type} {x : Option α} {P Q : α → Prop} (h : Hp x P) (g : Hp x Q) : Hp x (fun a => P a ∧ Q a) := fun a ha => ⟨h a ha, g a ha⟩
theorem sN_wI (S : AS) (k j : Nat) (v : Int32) : sN (wI S k j v) = sN S := rfl
theorem sL_wI (S : AS) (k j : Nat) (v : Int32) : sL (wI S k j v) = sL S := rfl
theorem bR_len {S S' : AS} {κ lo hi k a : Nat} {i : Int32} (h : bR S κ lo hi (some k) i (some a) = some S') : i.toInt < (sL S k : Int) := by
  unfold bR at h
  rw [Option.bind_some, Option.bind_some] at h
  by_cases c : sK S k = κ ∧ (0 ≤ i.toInt ∧ i.toInt < (sL S k : Int)) ∧ (lo ≤ sK S a ∧ sK S a ≤ hi)
  · exact c.2.1.2
  · rw [if_neg c] at h
    cases h
def AGR (S S' : AS) (l d n : Nat) : Prop := sN S ≤ sN S' ∧ (∀ k, k < sN S → sL S' k = sL S k) ∧ ∃ d', sR S' l 1 = some d' ∧ ((d' = d ∧ n < sL S d) ∨ sN S ≤ d') ∧ d' < sN S'
theorem p_addL {S : AS} {l d x n : Nat} (hr : sR S l 1 = some d) (hs : sI S l 2 = Int32.ofNat n) (hn : n < 201) (hL : sL S d ≤ 400) (hd : d < sN S) (hl : l < sN S) (hne : d ≠ l) : Hp (f_AL_add1 S (some l) (some x)) (fun q => AGR S q.2 l d n) := by
  unfold f_AL_add1
  refine p_of st_gI (p_of st_pI (p_of (st_gRe (v := some d) hr) (p_of (st_gIe (v := Int32.ofNat n) ((ti_sI_ne (by omega)).trans hs)) (p_of st_rv ?_))))
  refine p_bd (P := fun S' => AGR S S' l d n) ?_ (fun S' p => p_ret p)
  obtain ⟨S2, e2⟩ : ∃ S2, S2 = wI S l 0 (sI S l 0 + 1) := ⟨_, rfl⟩
  rw [← e2]
  have rS : sR S2 = sR S := by rw [e2, sR_wI]
  have nS : sN S2 = sN S := by
    rw [e2]
    rfl
  have lS : sL S2 = sL S := by
    rw [e2]
    rfl
  have s2 : sI S2 l 2 = Int32.ofNat n := by
    rw [e2]
    exact (ti_sI_ne (by omega)).trans hs
  unfold f_AL_add2
  refine p_of st_aN ?_
  rw [lS]
  refine p_if (fun c => ?_) (fun c => ?_)
  · have eL : sL S2 d = n := by
      rw [lS]
      have := congrArg Int32.toInt c
      rw [oi4 (by omega), oi4 (by omega)] at this
      omega
    refine p_of st_rv (p_b2 (p_grow (S := S2) (by rw [rS]; exact hr) s2 hn eL (by rw [nS]; exact hd)) (fun v S3 p => ?_))
    obtain ⟨m, p1, p2⟩ := p
    have p1 : v = some (sN S2) := p1
    rw [p1]
    unfold f_AL_add2_B11
    refine p_of st_bR (p_of st_pI (p_ret ?_))
    have N3 : sN S3 = sN S + 1 := by
      rcases p2 with p2 | ⟨-, p2⟩
      · have p2 : S3 = _ := p2
        rw [p2, ← nS]
        rfl
      · have p2 : S3 = _ := p2
        rw [p2, ← nS]
        rfl
    have r1 : sR S3 l 1 = some (sN S2) := by
      rcases p2 with p2 | ⟨-, p2⟩
      · have p2 : S3 = _ := p2
        rw [p2, ti_sR_eq]
      · have p2 : S3 = _ := p2
        rw [p2, ti_sR_eq]
    refine ⟨?_, fun k hk => ?_, sN S2, ?_, Or.inr (Nat.le_of_eq nS.symm), ?_⟩
    · show sN S ≤ sN S3
      rw [N3]
      omega
    · show sL S3 k = _
      rcases p2 with p2 | ⟨-, p2⟩
      · have p2 : S3 = _ := p2
        rw [p2]
        show sL (wN S2 43 m m) k = _
        rw [(ti_wN (by omega)).2.1, lS]
      · have p2 : S3 = _ := p2
        rw [p2]
        show sL (wN S2 43 m m) k = _
        rw [(ti_wN (by omega)).2.1, lS]
    · rw [sR_wI, ti_sR_ne (by omega)]
      exact r1
    · show sN S2 < sN S3
      rw [N3, nS]
      omega
  · unfold f_AL_add2_B11
    intro S' hS
    cases e : bR S2 43 10 22 (some d) (Int32.ofNat n) (some x) with
    | none =>
      rw [e] at hS
      cases hS
    | some S3 =>
      have bl := bR_len e
      rw [lS, oi (by omega)] at bl
      refine p_of (st_bR (F := fun S1 => (pI S1 10 2 (some l) (Int32.ofNat n + 1)).bind fun S2 => some S2)) (p_of st_pI (p_ret (Q := fun S' => AGR S S' l d n) ?_)) S' hS
      refine ⟨Nat.le_of_eq nS.symm, fun k _ => ?_, d, ?_, Or.inl ⟨rfl, by omega⟩, ?_⟩
      · show sL S2 k = _
        rw [lS]
      · rw [sR_wI, ti_sR_ne (by omega), rS]
        exact hr
      · show d < sN S2
        rw [nS]
        exact hd
theorem p_awN {S : AS} {k nu mi : Int32} (h0 : sR S 5 0 = some 6) (h1 : sR S 5 1 = some 7) : Hp (f_Audit_write S (some 5) k nu mi) (fun S' => sN S' = sN S) := by
  unfold f_Audit_write
  refine p_of st_gI (p_if (fun c => p_ret rfl) (fun c => p_of st_gI (p_if (fun c2 => ?_) (fun c2 => p_ret rfl))))
  refine p_of (st_gRe h0) (p_of st_gI (p_of st_bI ?_))
  refine p_of (st_gRe h1) (p_of st_gI (p_of st_bI ?_))
  refine p_of st_gI (p_of st_gI (p_of st_rv ?_))
  refine p_b2 p_tw (fun v S' e => ?_)
  have e : S' = _ := e.1
  rw [e]
  exact p_of st_pI (p_of st_gI (p_of st_pI (p_ret rfl)))
