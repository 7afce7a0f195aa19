/-! ===== between the law's calls ===== -/
def IV (n : Nat) (T : Nat → Nat) (S : AS) : Prop := TI T S ∧ MI S ∧ Ph S ≤ 241 + (n : Int) ∧ FT S ∧ True ∧ True
theorem r_sx {β : Type} {X : Nat → Int32} {L : Nat} {i : Int32} {F : Int32 → Option β} {Q : β → Prop} (hv : ∃ v, kr_sx X L i = some v) (h : ∀ v, kr_sx X L i = some v → Ho (F v) Q) : Ho ((kr_sx X L i).bind F) Q := by
  obtain ⟨v, hv⟩ := hv
  rw [hv]
  exact h v hv
theorem k_keeps {T T' : Nat → Nat} {w : List Nat} {S S' : AS} {c s : Nat} {x : Option Nat} (hT : TI T S) (hR : Rl T (99999 :: w) S c s T' S') (hx : Tx T 100 x) (hw : ∀ z ∈ w, z < 10000 ∨ 50000 ≤ z) : (∀ i, i < 100 → sI S' 57 i = sI S 57 i) ∧ (∀ j τ p, ft 100 j = some τ → sg τ = some p → 40 ≤ kd τ → 100 ≤ τ → τ < 190 → ∀ i, sI S' p i = sI S p i) := by
  have nm : ∀ z, 10000 ≤ z → z < 50000 → ¬ z ∈ 99999 :: w := fun z h1 h2 q => by
    rcases List.mem_cons.mp q with q | q
    · omega
    · have := hw z q
      omega
  obtain ⟨e1, e2, -⟩ := sgp hT hx (p := 57) rfl
  refine ⟨fun i hi => hR.fI 57 i (by rw [e1]; exact e2) (by rw [e1, show cl 100 i = 10000 + i from if_pos (by decide)]; exact nm _ (by omega) (by omega)), fun j τ p a b c d e i => ?_⟩
  obtain ⟨q1, q2⟩ := sg_p hT hx a b
  refine hR.fI p i (by rw [q1]; exact q2) ?_
  rw [q1, show cl τ i = 100 * τ from if_neg (by omega)]
  exact nm _ (by omega) (by omega)
theorem IV_K {n : Nat} {T T' : Nat → Nat} {w : List Nat} {S S' : AS} {x : Option Nat} (h : IV n T S) (hR : Rl T (99999 :: w) S 10 700 T' S') (hx : Tx T 100 x) (hw : ∀ z ∈ w, z < 10000 ∨ 50000 ≤ z) : MI S' ∧ Ph S' ≤ 241 + (n : Int) := by
  obtain ⟨hT, hM, hP, -⟩ := h
  obtain ⟨k57, kk⟩ := k_keeps hT hR hx hw
  have s5 : same5 S S' := fun p i hp => by
    rcases hp with rfl | rfl | rfl | rfl | rfl | ⟨rfl, rfl⟩
    · exact kk 10 110 66 rfl rfl (by decide) (by decide) (by decide) i
    · exact kk 11 111 67 rfl rfl (by decide) (by decide) (by decide) i
    · exact kk 12 112 68 rfl rfl (by decide) (by decide) (by decide) i
    · exact kk 14 114 70 rfl rfl (by decide) (by decide) (by decide) i
    · exact kk 15 115 71 rfl rfl (by decide) (by decide) (by decide) i
    · exact k57 9 (by decide)
  have k98 : sI S' 98 = sI S 98 := funext fun i => kk 45 145 98 rfl rfl (by decide) (by decide) (by decide) i
  refine ⟨⟨SR_same hM.1 s5, AC_same hM.2.1 s5, fun a ha => ?_, ?_⟩, ?_⟩
  · rw [k57 19 (by decide)] at ha
    exact AKa_same (hM.2.2.1 a ha) s5 (kk 23 123 78 rfl rfl (by decide) (by decide) (by decide) a) (kk 24 124 79 rfl rfl (by decide) (by decide) (by decide) a) (fun q => by rw [← kk 25 125 80 rfl rfl (by decide) (by decide) (by decide) a]; exact q)
  · have : Gf S' = Gf S := by
      unfold Gf
      rw [k57 46 (by decide), k57 39 (by decide), k98]
    rw [this]
    exact hM.2.2.2
  · have : Ph S' = Ph S := by
      unfold Ph
      rw [k57 77 (by decide), k57 30 (by decide), k57 46 (by decide), k57 62 (by decide), show sI S' 89 = sI S 89 from funext fun i => kk 35 135 89 rfl rfl (by decide) (by decide) (by decide) i, show sI S' 103 = sI S 103 from funext fun i => kk 51 151 103 rfl rfl (by decide) (by decide) (by decide) i]
    rw [this]
    exact hP
theorem IV_M {n : Nat} {T T1 : Nat → Nat} {w w2 : List Nat} {S S1 S2 : AS} (h : IV n T S) (hR : Rl T (99999 :: w) S 10 700 T1 S1) (hP : Ph S1 ≤ 241 + (n : Int)) (hF : FT S1) (g : Rl T1 w2 S1 1 0 T1 S2) (hM : MI S2) (hw : ¬ 2402 ∈ w2) : IV (n + 1) T1 S2 := by
  obtain ⟨-, -, -, -, h5, h6⟩ := h
  have a := hR.2.2.2.1
  have b := g.2.2.2.1
  refine ⟨g.1, hM, ?_, FT_fr hF g hw, trivial, trivial⟩
  · have := b.2.2.1
    omega
theorem bh_none {β : Type} {c : Prop} [Decidable c] {a b : Option β} {Q : β → Prop} (h : ¬ c) (h1 : Ho b Q) : Ho (if c then a else b) Q := r_ifF h h1
