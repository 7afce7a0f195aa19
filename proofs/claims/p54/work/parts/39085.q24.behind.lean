/-! ===== the relation looks at the rows alone; behind a wrapped call ===== -/
section
variable {S m S' m' : AS} {ns nc nf nt nk na : Nat}
theorem LW_cong (h : LW ns nc nf nt nk na S m) (a : ∀ k, 127 ≤ k → k < 141 → sI S' k = sI S k) (b : ∀ k, 57 ≤ k → k < 127 → sI m' k = sI m k) : LW ns nc nf nt nk na S' m' := by
  unfold LW lSz lNow lAud lKey lHlp lFlo lFac lWrg lKn lAtt lAst lAs1 lAsh lSp lUsd lLiv lSsh lCod lCfa lFam lNum lGod lTok lOut lSrv lTol lCon at *
  simp only [a 127 (by decide) (by decide), a 128 (by decide) (by decide), a 129 (by decide) (by decide), a 130 (by decide) (by decide), a 131 (by decide) (by decide), a 132 (by decide) (by decide), a 133 (by decide) (by decide), a 134 (by decide) (by decide), a 135 (by decide) (by decide), a 136 (by decide) (by decide), a 137 (by decide) (by decide), a 138 (by decide) (by decide), a 139 (by decide) (by decide), a 140 (by decide) (by decide), b 57 (by decide) (by decide), b 58 (by decide) (by decide), b 59 (by decide) (by decide), b 60 (by decide) (by decide), b 61 (by decide) (by decide), b 62 (by decide) (by decide), b 63 (by decide) (by decide), b 64 (by decide) (by decide), b 65 (by decide) (by decide), b 66 (by decide) (by decide), b 67 (by decide) (by decide), b 68 (by decide) (by decide), b 69 (by decide) (by decide), b 70 (by decide) (by decide), b 71 (by decide) (by decide), b 72 (by decide) (by decide), b 73 (by decide) (by decide), b 74 (by decide) (by decide), b 75 (by decide) (by decide), b 76 (by decide) (by decide), b 77 (by decide) (by decide), b 78 (by decide) (by decide), b 79 (by decide) (by decide), b 80 (by decide) (by decide), b 81 (by decide) (by decide), b 82 (by decide) (by decide), b 83 (by decide) (by decide), b 84 (by decide) (by decide), b 85 (by decide) (by decide), b 86 (by decide) (by decide), b 87 (by decide) (by decide), b 88 (by decide) (by decide), b 89 (by decide) (by decide), b 90 (by decide) (by decide), b 91 (by decide) (by decide), b 92 (by decide) (by decide), b 93 (by decide) (by decide), b 94 (by decide) (by decide), b 95 (by decide) (by decide), b 96 (by decide) (by decide), b 97 (by decide) (by decide), b 98 (by decide) (by decide), b 99 (by decide) (by decide), b 100 (by decide) (by decide), b 101 (by decide) (by decide), b 102 (by decide) (by decide), b 103 (by decide) (by decide), b 104 (by decide) (by decide), b 105 (by decide) (by decide), b 106 (by decide) (by decide), b 107 (by decide) (by decide), b 108 (by decide) (by decide), b 109 (by decide) (by decide), b 110 (by decide) (by decide), b 111 (by decide) (by decide), b 112 (by decide) (by decide), b 113 (by decide) (by decide), b 114 (by decide) (by decide), b 115 (by decide) (by decide), b 116 (by decide) (by decide), b 117 (by decide) (by decide), b 118 (by decide) (by decide), b 119 (by decide) (by decide), b 120 (by decide) (by decide), b 121 (by decide) (by decide), b 122 (by decide) (by decide), b 123 (by decide) (by decide), b 124 (by decide) (by decide), b 125 (by decide) (by decide), b 126 (by decide) (by decide)]
  exact h
theorem lPts_cong (h : lPts m) (b : ∀ k, 57 ≤ k → k < 127 → sI m' k = sI m k) : lPts m' := by
  unfold lPts at *
  rw [b 73 (by decide) (by decide)]
  exact h
end
section
variable {n : Nat} {T T1 : Nat → Nat} {w wM : List Nat} {S S1 S2 : AS}
/-- the law's rows, and the reference's places, behind the class's call and the reference's -/
theorem PK_rows (tl : TL T) (hI : IV n T S) (g : PKg n T w wM S S1 T1 S2) (h1 : (99999 :: w).all (fun z => !lw.contains z) = true) (h2 : wM.all (fun z => !lw.contains z) = true) (h3 : ∀ z ∈ w, z < 10000 ∨ 50000 ≤ z) : TL T1 ∧ (∀ k, 127 ≤ k → k < 141 → sI S2 k = sI S k) ∧ (∀ k, 127 ≤ k → k < 141 → sI S1 k = sI S k) := by
  obtain ⟨g1, g2, -⟩ := g
  have tl1 : TL T1 := fun i hi => by
    have e := tl i hi
    exact (g1.ty (127 + i) (by omega)).trans e
  have k1 : ∀ k, 127 ≤ k → k < 141 → sI S1 k = sI S k := fun k ha hb => funext fun j => by
    have e := tl (k - 127) (by omega)
    rw [show 127 + (k - 127) = k by omega] at e
    obtain ⟨-, -, e40, el⟩ := lw_rf (k - 127) (by omega)
    refine g1.fI k j (by omega) (fun q => ?_)
    unfold cl at q
    rw [e, e40, if_neg (by decide)] at q
    have := List.all_eq_true.mp h1 _ q
    rw [el] at this
    cases this
  have k2 : ∀ k, 127 ≤ k → k < 141 → sI S2 k = sI S1 k := fun k ha hb => funext fun j => by
    have e := tl1 (k - 127) (by omega)
    rw [show 127 + (k - 127) = k by omega] at e
    obtain ⟨-, -, e40, el⟩ := lw_rf (k - 127) (by omega)
    refine g2.fI k j (by omega) (fun q => ?_)
    unfold cl at q
    rw [e, e40, if_neg (by decide)] at q
    have := List.all_eq_true.mp h2 _ q
    rw [el] at this
    cases this
  exact ⟨tl1, fun k ha hb => (k2 k ha hb).trans (k1 k ha hb), k1⟩
end
