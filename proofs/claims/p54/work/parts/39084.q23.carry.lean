/-! ===== what the law writes into its own rows leaves all the rest as it is ===== -/
/-- the law's rows have types of their own -/
def TL (T : Nat → Nat) : Prop := ∀ i, i < 14 → T (127 + i) = 200 + i
def lw : List Nat := [20000, 20100, 20200, 20300, 20400, 20500, 20600, 20700, 20800, 20900, 21000, 21100, 21200, 21300]
theorem lw_rf : ∀ i, i < 14 → kr_rfT.getD (200 + i) [] = [] ∧ ra (200 + i) = none ∧ kd (200 + i) = 40 ∧ lw.contains (100 * (200 + i)) = true := by decide +kernel
theorem lw_lp : ∀ q, q < 7 → lp q < 127 := by decide
section
variable {T : Nat → Nat} {S S' : AS}
theorem LF_TI (hT : TI T S) (tl : TL T) (l : LF S S') : TI T S' := by
  obtain ⟨lN, lK, lL, lR', lJ, lC, lS, lI⟩ := l
  obtain ⟨h1, h2, h3, h4, h5, h6, h7, h8, h9⟩ := hT
  have ty : ∀ k, 127 ≤ k ∧ k < 141 → ∃ i, i < 14 ∧ T k = 200 + i := fun k hk => ⟨k - 127, by omega, by
    have := tl (k - 127) (by omega)
    rw [show 127 + (k - 127) = k by omega] at this
    exact this⟩
  refine ⟨fun k hk => ?_, fun k j τ h => ?_, fun k j τ h => ?_, fun k j lo hi h => ?_, fun k j n lo hi h hj => ?_, fun q hq => ?_, h7, ?_, h9⟩
  · rw [lN, lK, lL]
    exact h1 k hk
  · rw [lR']
    exact h2 k j τ h
  · rw [lR']
    exact h3 k j τ h
  · by_cases c : 127 ≤ k ∧ k < 141
    · obtain ⟨i, hi', e⟩ := ty k c
      rw [e] at h
      unfold rf at h
      rw [(lw_rf i hi').1] at h
      exact absurd h (by
        intro q
        cases q)
    · rw [lI k c]
      exact h4 k j lo hi h
  · by_cases c : 127 ≤ k ∧ k < 141
    · obtain ⟨i, hi', e⟩ := ty k c
      rw [e, (lw_rf i hi').2.1] at h
      cases h
    · rw [lI k c]
      exact h5 k j n lo hi h hj
  · have := h6 q hq
    have := lw_lp q hq
    unfold LO at *
    rw [lR', lL, lI (lp q) (by omega)]
    assumption
  · rw [lN, lK, lL]
    exact h8
theorem LF_Rl (hT : TI T S) (tl : TL T) (l : LF S S') : Rl T lw S 0 0 T S' := by
  have ht := LF_TI hT tl l
  obtain ⟨lN, lK, lL, lR', lJ, lC, lS, lI⟩ := l
  have p : ∀ k, k < 127 → sI S' k = sI S k := fun k hk => lI k (by omega)
  refine ⟨ht, by rw [lN]; exact Nat.le_refl _, fun k _ => ⟨rfl, by rw [lK], by rw [lL]⟩, ⟨by rw [lC]; exact Nat.le_refl _, by rw [lS]; exact Nat.le_refl _, ?_, ?_⟩, fun k j hk hc => ?_, fun k j _ _ => by rw [lR'], fun k j _ _ => by rw [lJ], by rw [p 24 (by decide)]; exact Int.le_refl _, hT⟩
  · rw [Ph_eq (p 57 (by decide)) (p 89 (by decide)) (p 103 (by decide))]
    omega
  · rw [Gf_eq (p 57 (by decide)) (p 98 (by decide))]
    omega
  · by_cases c : 127 ≤ k ∧ k < 141
    · have e := tl (k - 127) (by omega)
      rw [show 127 + (k - 127) = k by omega] at e
      obtain ⟨-, -, e40, el⟩ := lw_rf (k - 127) (by omega)
      unfold cl at hc
      rw [e, e40, if_neg (by decide)] at hc
      exact absurd (List.elem_iff.mp el) hc
    · rw [lI k c]
theorem LF_IV {n : Nat} (h : IV n T S) (tl : TL T) (l : LF S S') : IV n T S' := by
  have g := LF_Rl h.1 tl l
  obtain ⟨hT, hM, hP, hF, hC, hS⟩ := h
  obtain ⟨lN, lK, lL, lR', lJ, lC, lS, lI⟩ := l
  have p : ∀ k, k < 127 → sI S' k = sI S k := fun k hk => lI k (by omega)
  have s5 : same5 S S' := fun q i hq => by rw [p q (by omega)]
  refine ⟨g.1, ⟨SR_same hM.1 s5, AC_same hM.2.1 s5, fun a ha => ?_, ?_⟩, ?_, FT_fr hF g (by decide), trivial, trivial⟩
  · rw [p 57 (by decide)] at ha
    exact AKa_same (hM.2.2.1 a ha) s5 (by rw [p 78 (by decide)]) (by rw [p 79 (by decide)]) (fun q => by rw [p 80 (by decide)] at q; exact q)
  · rw [Gf_eq (p 57 (by decide)) (p 98 (by decide))]
    exact hM.2.2.2
  · rw [Ph_eq (p 57 (by decide)) (p 89 (by decide)) (p 103 (by decide))]
    exact hP
theorem lw_k : k_FR.all (fun z => !lw.contains z) = true ∧ m_FR.all (fun z => !lw.contains z) = true ∧ kr_rc5.all (fun z => !lw.contains z) = true := by decide +kernel
theorem LF_RPF (hT : TI T S) (tl : TL T) (h : RPF T S) (l : LF S S') : RPF T S' := by
  have g := LF_Rl hT tl l
  obtain ⟨⟨f, m, r, dr⟩, t1, h⟩ := h
  exact ⟨⟨f, m, r, DR_fr dr g lw_k.2.2⟩, t1, FR_fr ⟨hT, t1⟩ hT h (Kp_of g lw_k.1) (Kp_of g lw_k.2.1)⟩
theorem TL_LR (hT : TI T S) (tl : TL T) : LR S := by
  have one : ∀ i n, i < 14 → ln (200 + i) = some n → n < 1000 → Rw S (127 + i) n := fun i n hi hl hn => by
    have e := tl i hi
    obtain ⟨-, h2, h3, h4⟩ := hT.1 (127 + i) (by omega)
    rw [e] at h2 h4
    exact ⟨h2.trans (lw_rf i hi).2.2.1, h4 n hl, hn⟩
  exact ⟨one 0 14 (by decide) (by decide +kernel) (by decide), one 1 35 (by decide) (by decide +kernel) (by decide), one 2 36 (by decide) (by decide +kernel) (by decide), one 3 60 (by decide) (by decide +kernel) (by decide), one 4 20 (by decide) (by decide +kernel) (by decide), one 5 30 (by decide) (by decide +kernel) (by decide), one 6 60 (by decide) (by decide +kernel) (by decide), one 7 45 (by decide) (by decide +kernel) (by decide), one 8 60 (by decide) (by decide +kernel) (by decide), one 9 50 (by decide) (by decide +kernel) (by decide), one 10 60 (by decide) (by decide +kernel) (by decide), one 11 20 (by decide) (by decide +kernel) (by decide), one 12 16 (by decide) (by decide +kernel) (by decide), one 13 20 (by decide) (by decide +kernel) (by decide)⟩
end
