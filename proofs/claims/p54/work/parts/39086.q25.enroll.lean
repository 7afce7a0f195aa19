/-! ===== the relation along a call: what it changes ===== -/
section
variable {S m S' m' : AS} {ns nc nf nt nk na : Nat}
/-- the factors alone -/
theorem LW_Fac (h : LW ns nc nf nt nk na S m) (a : ∀ k, 127 ≤ k → k < 141 → k ≠ 129 → sI S' k = sI S k) (a9 : ∀ j, 7 ≤ j % 12 → sI S' 129 j = sI S 129 j) (b : ∀ k, 58 ≤ k → k < 127 → k ≠ 58 → k ≠ 59 → k ≠ 60 → sI m' k = sI m k) (b57 : ∀ j, j ≠ 82 → sI m' 57 j = sI m 57 j) (fac : lFac S' m') : LW ns nc nf nt nk na S' m' := by
  unfold LW lSz lNow lAud lKey lHlp lFlo lAtt lAst lAs1 lAsh lSp lUsd lLiv lSsh lCod lCfa lFam lNum lGod lTok lOut lSrv lTol lCon at *
  simp only [a 127 (by decide) (by decide) (by decide), a 128 (by decide) (by decide) (by decide), a 130 (by decide) (by decide) (by decide), a 131 (by decide) (by decide) (by decide), a 132 (by decide) (by decide) (by decide), a 133 (by decide) (by decide) (by decide), a 134 (by decide) (by decide) (by decide), a 135 (by decide) (by decide) (by decide), a 136 (by decide) (by decide) (by decide), a 137 (by decide) (by decide) (by decide), a 138 (by decide) (by decide) (by decide), a 139 (by decide) (by decide) (by decide), a 140 (by decide) (by decide) (by decide), b 61 (by decide) (by decide) (by decide) (by decide) (by decide), b 62 (by decide) (by decide) (by decide) (by decide) (by decide), b 63 (by decide) (by decide) (by decide) (by decide) (by decide), b 64 (by decide) (by decide) (by decide) (by decide) (by decide), b 65 (by decide) (by decide) (by decide) (by decide) (by decide), b 66 (by decide) (by decide) (by decide) (by decide) (by decide), b 67 (by decide) (by decide) (by decide) (by decide) (by decide), b 68 (by decide) (by decide) (by decide) (by decide) (by decide), b 69 (by decide) (by decide) (by decide) (by decide) (by decide), b 70 (by decide) (by decide) (by decide) (by decide) (by decide), b 71 (by decide) (by decide) (by decide) (by decide) (by decide), b 72 (by decide) (by decide) (by decide) (by decide) (by decide), b 73 (by decide) (by decide) (by decide) (by decide) (by decide), b 74 (by decide) (by decide) (by decide) (by decide) (by decide), b 75 (by decide) (by decide) (by decide) (by decide) (by decide), b 76 (by decide) (by decide) (by decide) (by decide) (by decide), b 77 (by decide) (by decide) (by decide) (by decide) (by decide), b 78 (by decide) (by decide) (by decide) (by decide) (by decide), b 79 (by decide) (by decide) (by decide) (by decide) (by decide), b 80 (by decide) (by decide) (by decide) (by decide) (by decide), b 81 (by decide) (by decide) (by decide) (by decide) (by decide), b 82 (by decide) (by decide) (by decide) (by decide) (by decide), b 83 (by decide) (by decide) (by decide) (by decide) (by decide), b 84 (by decide) (by decide) (by decide) (by decide) (by decide), b 85 (by decide) (by decide) (by decide) (by decide) (by decide), b 86 (by decide) (by decide) (by decide) (by decide) (by decide), b 87 (by decide) (by decide) (by decide) (by decide) (by decide), b 88 (by decide) (by decide) (by decide) (by decide) (by decide), b 89 (by decide) (by decide) (by decide) (by decide) (by decide), b 90 (by decide) (by decide) (by decide) (by decide) (by decide), b 91 (by decide) (by decide) (by decide) (by decide) (by decide), b 92 (by decide) (by decide) (by decide) (by decide) (by decide), b 93 (by decide) (by decide) (by decide) (by decide) (by decide), b 94 (by decide) (by decide) (by decide) (by decide) (by decide), b 95 (by decide) (by decide) (by decide) (by decide) (by decide), b 96 (by decide) (by decide) (by decide) (by decide) (by decide), b 97 (by decide) (by decide) (by decide) (by decide) (by decide), b 98 (by decide) (by decide) (by decide) (by decide) (by decide), b 99 (by decide) (by decide) (by decide) (by decide) (by decide), b 100 (by decide) (by decide) (by decide) (by decide) (by decide), b 101 (by decide) (by decide) (by decide) (by decide) (by decide), b 102 (by decide) (by decide) (by decide) (by decide) (by decide), b 103 (by decide) (by decide) (by decide) (by decide) (by decide), b 104 (by decide) (by decide) (by decide) (by decide) (by decide), b 105 (by decide) (by decide) (by decide) (by decide) (by decide), b 106 (by decide) (by decide) (by decide) (by decide) (by decide), b 107 (by decide) (by decide) (by decide) (by decide) (by decide), b 108 (by decide) (by decide) (by decide) (by decide) (by decide), b 109 (by decide) (by decide) (by decide) (by decide) (by decide), b 110 (by decide) (by decide) (by decide) (by decide) (by decide), b 111 (by decide) (by decide) (by decide) (by decide) (by decide), b 112 (by decide) (by decide) (by decide) (by decide) (by decide), b 113 (by decide) (by decide) (by decide) (by decide) (by decide), b 114 (by decide) (by decide) (by decide) (by decide) (by decide), b 115 (by decide) (by decide) (by decide) (by decide) (by decide), b 116 (by decide) (by decide) (by decide) (by decide) (by decide), b 117 (by decide) (by decide) (by decide) (by decide) (by decide), b 118 (by decide) (by decide) (by decide) (by decide) (by decide), b 119 (by decide) (by decide) (by decide) (by decide) (by decide), b 120 (by decide) (by decide) (by decide) (by decide) (by decide), b 121 (by decide) (by decide) (by decide) (by decide) (by decide), b 122 (by decide) (by decide) (by decide) (by decide) (by decide), b 123 (by decide) (by decide) (by decide) (by decide) (by decide), b 124 (by decide) (by decide) (by decide) (by decide) (by decide), b 125 (by decide) (by decide) (by decide) (by decide) (by decide), b 126 (by decide) (by decide) (by decide) (by decide) (by decide), b57 0 (by decide), b57 9 (by decide), b57 19 (by decide), b57 30 (by decide), b57 39 (by decide), b57 46 (by decide), b57 52 (by decide), b57 60 (by decide), b57 61 (by decide), b57 62 (by decide), b57 63 (by decide), b57 77 (by decide), b57 81 (by decide)]
  obtain ⟨h1, h2, h3, ⟨-, hw, hk⟩, h5⟩ := h
  exact ⟨h1, h2, h3, ⟨fac, lWrg_fr hw (fun j j1 _ => a9 j j1) (b 61 (by decide) (by decide) (by decide) (by decide) (by decide)), lKn_fr hk (fun j j1 => a9 j (by omega)) (b 62 (by decide) (by decide) (by decide) (by decide) (by decide)) (b 63 (by decide) (by decide) (by decide) (by decide) (by decide))⟩, h5⟩
end
/-- all that holds between two calls of the law -/
def L54 (n : Nat) (T : Nat → Nat) (S : AS) : Prop := IV n T S ∧ RPF T S ∧ TL T ∧ lPts S ∧ ∃ ns nc nf nt nk na, LW ns nc nf nt nk na S S
/-- the reference makes a factor ready -/
theorem p_ready {m : AS} {p f : Nat} (hmf : MF m) (p3 : p < 3) (f3 : f < 3) : Hp (f_M_ready m (some 57) (Int32.ofNat p) (Int32.ofNat f)) (fun m' => (sR m' = sR m ∧ sL m' = sL m ∧ ∀ k j, ¬ ((k = 58 ∨ k = 59) ∧ j = 3 * p + f) → ¬ (k = 60 ∧ j = p) → sI m' k j = sI m k j) ∧ sI m' 58 (3 * p + f) = 1 ∧ sI m' 59 (3 * p + f) = 0 ∧ sI m' 60 p = if f = 2 then 0 else sI m 60 p) := by
  have ix := ix3 p (by omega) f f3
  unfold f_M_ready
  refine p_of (st_gRe (hmf 1 58 rfl)) (p_of (st_bIe ix) (p_of (st_gRe (v := some 59) (hmf 2 59 rfl)) (p_of (st_bIe ix) ?_)))
  by_cases c : f = 2
  · rw [if_pos c]
    refine p_of (st_T (by rw [c]; rfl)) (p_of (st_gRe (v := some 60) (hmf 3 60 rfl)) (p_of (st_bIe (oc (by omega))) (p_ret ⟨⟨rfl, rfl, fun k j z1 z2 => ?_⟩, ?_, ?_, ti_sI_eq _ _ _ _⟩)))
    · rw [ti_sI_ne z2, ti_sI_ne (by omega), ti_sI_ne (by omega)]
    · rw [ti_sI_ne (by omega), ti_sI_ne (by omega), ti_sI_eq]
    · rw [ti_sI_ne (by omega), ti_sI_eq]
  · rw [if_neg c]
    refine p_of (st_F (fun q => c (oinjq (a := f) (b := 2) (by omega) (by omega) q))) (p_ret ⟨⟨rfl, rfl, fun k j z1 z2 => ?_⟩, ?_, ti_sI_eq _ _ _ _, ?_⟩)
    · rw [ti_sI_ne (by omega), ti_sI_ne (by omega)]
    · rw [ti_sI_ne (by omega), ti_sI_eq]
    · rw [ti_sI_ne (by omega), ti_sI_ne (by omega)]
theorem p_enroll {m : AS} {p f : Nat} (hmf : MF m) (p3 : p < 3) (f3 : f < 3) : Hp (f_M_enroll m (some 57) (Int32.ofNat p) (Int32.ofNat f)) (fun q => q.1 = sI m 58 (3 * p + f) ∧ (sR q.2 = sR m ∧ sL q.2 = sL m ∧ ∀ k j, ¬ (k = 57 ∧ j = 82) → ¬ ((k = 58 ∨ k = 59) ∧ j = 3 * p + f) → ¬ (k = 60 ∧ j = p) → sI q.2 k j = sI m k j) ∧ sI q.2 57 82 = 0 ∧ sI q.2 58 (3 * p + f) = 1 ∧ sI q.2 59 (3 * p + f) = 0 ∧ sI q.2 60 p = if f = 2 then 0 else sI m 60 p) := by
  unfold f_M_enroll
  refine p_of (st_b2 (q_six m _)) (p_of (st_b2 (q_fac m _)) (p_of st_rv ?_))
  rw [if_pos ⟨(oleq (a := 0) (by omega) (by omega)).mpr (Nat.zero_le _), (oleq (b := 5) (by omega) (by omega)).mpr (by omega)⟩, if_pos ⟨(oleq (a := 0) (by omega) (by omega)).mpr (Nat.zero_le _), (oleq (b := 2) (by omega) (by omega)).mpr (by omega)⟩]
  refine p_b2 p_mayB (fun v m' q => ?_)
  rw [if_neg one0, if_neg one0] at q
  obtain ⟨q1, q2⟩ := Prod.mk.inj q
  rw [q1]
  obtain ⟨m1, e1⟩ : ∃ m1, m1 = wI m 57 82 0 := ⟨_, rfl⟩
  rw [q2, ← e1]
  have hm1 : MF m1 := by rw [e1]; exact MF_e hmf rfl
  have o : ∀ k j, ¬ (k = 57 ∧ j = 82) → sI m1 k j = sI m k j := fun k j z => by rw [e1, ti_sI_ne z]
  refine p_of (st_F one0) (p_of (st_gRe (hm1 1 58 rfl)) (p_of (st_aIe (ix3 p (by omega) f f3) (o 58 _ (by omega))) (p_of st_rv (p_bd (p_ready hm1 p3 f3) (fun m2 h => p_ret ?_)))))
  obtain ⟨⟨h1, h2, h3⟩, h4, h5, h6⟩ := h
  refine ⟨rfl, ⟨h1.trans (by rw [e1]; rfl), h2.trans (by rw [e1]; rfl), fun k j z1 z2 z3 => (h3 k j z2 z3).trans (o k j z1)⟩, ?_, h4, h5, ?_⟩
  · show sI m2 57 82 = 0
    rw [h3 57 82 (by omega) (by omega), e1, ti_sI_eq]
  · show sI m2 60 p = _
    rw [h6, o 60 p (by omega)]
