/-! ===== new objects ===== -/
def RawP (S0 : AS) (T : Nat → Nat) (S : AS) (κ k : Nat) : Prop := T k = 0 ∧ k < sN S ∧ sN S0 ≤ k ∧ 4 ≤ k ∧ sK S k = κ ∧ (∀ j, sI S k j = 0) ∧ (∀ j, sR S k j = none)
/-- what a making leaves: the new one has its type, what had one keeps it, what waits still waits -/
def Mk (S0 : AS) (T : Nat → Nat) (S : AS) (τ k : Nat) (T' : Nat → Nat) (S' : AS) : Prop := T' k = τ ∧ (∀ a, T a ≠ 0 → T' a = T a) ∧ (∀ κ a, a ≠ k → RawP S0 T S κ a → RawP S0 T' S' κ a)
theorem r_nO {β : Type} {T0 T : Nat → Nat} {w : List Nat} {S0 S : AS} {c s κ : Nat} {F : AS → Option β} {Q : β → Prop} (hR : Rl T0 w S0 c s T S) (hn : kr_cN (κ - 10) ≤ 20) (h : ∀ S', Rl T0 w S0 (c + 1) (s + 20) T S' → RawP S0 T S' κ (sN S) → (∀ κ' a, RawP S0 T S κ' a → RawP S0 T S' κ' a) → Ho (F S') Q) : Ho ((some (nO S κ)).bind F) Q := by
  have h4 := hR.1.t8.1
  have z := ti_wN0 S κ 0 (kr_cN (κ - 10))
  refine h (nO S κ) (Rlweak (RlwN hR) (fun _ q => q) (Nat.le_refl _) (by omega)) ⟨TIfresh hR.1 (Nat.le_refl _), Nat.lt_succ_self _, hR.2.1, h4, z.1, fun j => by show sI (wN S κ 0 (kr_cN (κ - 10))) (sN S) j = 0; rw [z.2.2.1], fun j => by show sR (wN S κ 0 (kr_cN (κ - 10))) (sN S) j = none; rw [z.2.2.2]⟩ ?_
  rintro κ' a ⟨r1, r2, r3, r4, r5, r6, r7⟩
  have e := ti_wN (S := S) (κ := κ) (l := 0) (s := kr_cN (κ - 10)) (k := a) (by omega)
  exact ⟨r1, Nat.lt_succ_of_lt r2, r3, r4, e.1.trans r5, fun j => by show sI (wN S κ 0 (kr_cN (κ - 10))) a j = 0; rw [e.2.2.1]; exact r6 j, fun j => by show sR (wN S κ 0 (kr_cN (κ - 10))) a j = none; rw [e.2.2.2.1]; exact r7 j⟩
theorem pb_tx {T : Nat → Nat} {S : AS} {τ : Nat} {v : Option Nat} (hT : TI T S) (h : Tx T τ v) : kr_pb S v = true := by
  obtain ⟨a, rfl, g1, g2⟩ := h
  have := hT.t1 a (by rw [g1]; exact g2)
  unfold kr_pb
  rw [Option.all_some, this.2.1, bne_iff_ne]
  exact this.2.2.1
theorem pb_k {S : AS} {a : Nat} (h : sK S a ≠ 0) : kr_pb S (some a) = true := by
  unfold kr_pb
  rw [Option.all_some, bne_iff_ne]
  exact h
theorem ti_pR {S : AS} {κ j k : Nat} {v : Option Nat} (h : sK S k = κ) (hp : kr_pb S v = true) : pR S κ j (some k) v = some (wR S k j v) := by
  unfold pR
  rw [Option.bind_some, if_pos ⟨h, hp⟩]
theorem ti_pZ {S : AS} {κ j k : Nat} {v : Int32} (h : sK S k = κ) (hv : v = 0 ∨ v = 1) : pZ S κ j (some k) v = some (wI S k j v) := by
  unfold pZ
  rw [Option.bind_some, if_pos ⟨h, hv⟩]
theorem Raw_ne {S0 : AS} {T : Nat → Nat} {S : AS} {κ k a : Nat} (h : RawP S0 T S κ k) (ha : T a ≠ 0) : a ≠ k := fun e => ha (by rw [e]; exact h.1)
theorem ft41 : (∀ j, ft 41 j = none) ∧ (∀ j, fn 41 j = none) ∧ (∀ j, rf 41 j = none) ∧ ra 41 = none ∧ sg 41 = none ∧ kd 41 = 40 ∧ ln 41 = some 12 := ⟨fun _ => rfl, fun _ => rfl, fun _ => rfl, rfl, rfl, rfl, rfl⟩
/-- a row of ints is made and gets its type -/
theorem mk_row {T0 T : Nat → Nat} {w : List Nat} {S0 S : AS} {c s τ n : Nat} (hR : Rl T0 w S0 c s T S) (hk : kd τ = 40) (hl : ln τ = some n) (h1 : ∀ j, ft τ j = none) (h2 : ∀ j, fn τ j = none) (h3 : ∀ j, rf τ j = none) (h4 : ra τ = none) (h5 : sg τ = none) (h0 : τ ≠ 0) :
    Rl T0 w S0 (c + 1) (s + n) (kr_w T (sN S) τ) (wN S 40 n n) ∧ Mk S0 T S τ (sN S) (kr_w T (sN S) τ) (wN S 40 n n) := by
  have hf := TIfresh hR.1 (Nat.le_refl (sN S))
  have g := RlwN (κ := 40) (l := n) (n := n) hR
  have z := ti_wN0 S 40 n n
  refine ⟨Rlpr g hR.2.1 (TIpr g.1 hf (Nat.lt_succ_self _) (by rw [z.1, hk]) (by rw [hk]; decide) (fun m e => by rw [hl] at e; cases e; exact z.2.1) (fun j t e => by rw [h1] at e; cases e) (fun j t e => by rw [h2] at e; cases e) (fun j lo hi e => by rw [h3] at e; cases e) (fun j m lo hi e => by rw [h4] at e; cases e) h5), if_pos rfl, fun a ha => if_neg (fun e => ha (by rw [e]; exact hf)), ?_⟩
  rintro κ' a hne ⟨r1, r2, r3, r4, r5, r6, r7⟩
  have e := ti_wN (S := S) (κ := 40) (l := n) (s := n) (k := a) hne
  exact ⟨(if_neg hne).trans r1, Nat.lt_succ_of_lt r2, r3, r4, e.1.trans r5, fun j => by rw [e.2.2.1]; exact r6 j, fun j => by rw [e.2.2.2.1]; exact r7 j⟩
theorem nA_s {S : AS} {κ : Nat} (v : Int32) (n : Nat) (h : v.toInt = n ∧ v.toNatClampNeg = n) (hn : n ≤ 100000) : nA S κ v = some (wN S κ n n) := by
  unfold nA
  rw [if_pos ⟨by rw [h.1]; omega, by rw [h.1]; omega⟩, h.2]
/-- a row for a field of a waiting object -/
theorem mk_fld {T0 T : Nat → Nat} {w : List Nat} {S0 S : AS} {c s κ k j a : Nat} (hR : Rl T0 w S0 c s T S) (h1 : T k = 0) (h2 : k < sN S) (h3 : sN S0 ≤ k) (h4 : 4 ≤ k) (h5 : sK S k = κ) :
    Rl T0 w S0 (c + 1) (s + 12) (kr_w T (sN S) 41) (wR (wN S 40 12 12) k j (some (sN S))) ∧ kr_w T (sN S) 41 k = 0 ∧ k < sN (wR (wN S 40 12 12) k j (some (sN S))) ∧ sK (wR (wN S 40 12 12) k j (some (sN S))) k = κ ∧ kr_w T (sN S) 41 (sN S) = 41 ∧ (∀ a, T a ≠ 0 → kr_w T (sN S) 41 a = T a) ∧ (∀ i, ¬ i = j → sR (wR (wN S 40 12 12) k j (some (sN S))) k i = sR S k i) ∧ sI (wR (wN S 40 12 12) k j (some (sN S))) k = sI S k ∧ (∀ κ' a, a ≠ k → RawP S0 T S κ' a → RawP S0 (kr_w T (sN S) 41) (wR (wN S 40 12 12) k j (some (sN S))) κ' a) := by
  obtain ⟨g1, g2, g3, g4⟩ := mk_row (τ := 41) (n := 12) hR rfl rfl (fun _ => rfl) (fun _ => rfl) (fun _ => rfl) rfl rfl (by decide)
  have hne : k ≠ sN S := by omega
  have e := ti_wN (S := S) (κ := 40) (l := 12) (s := 12) (k := k) hne
  have k0 : kr_w T (sN S) 41 k = 0 := (if_neg hne).trans h1
  refine ⟨RlwR0 g1 k0 (by omega), k0, Nat.lt_succ_of_lt h2, e.1.trans h5, g2, g3, fun i hi => ?_, e.2.2.1, ?_⟩
  · rw [ti_sR_ne (fun q => hi q.2), e.2.2.2.1]
  · intro κ' b hb hr
    obtain ⟨r1, r2, r3, r4, r5, r6, r7⟩ := hr
    have hbn : b ≠ sN S := by omega
    obtain ⟨q1, q2, q3, q4, q5, q6, q7⟩ := g4 κ' b hbn ⟨r1, r2, r3, r4, r5, r6, r7⟩
    exact ⟨q1, q2, q3, q4, q5, q6, fun i => by rw [ti_sR_ne (fun z => hb z.1)]; exact q7 i⟩
theorem tv12 : (12 : Int32).toInt = ((12 : Nat) : Int) ∧ (12 : Int32).toNatClampNeg = 12 := by decide
theorem ho_Flow {T0 T : Nat → Nat} {w : List Nat} {S0 S : AS} {c s k : Nat} (hR : Rl T0 w S0 c s T S) (hk : RawP S0 T S 13 k) : Ho (f_Flow_init S (some k)) (fun S' => ∃ T', Rl T0 w S0 (c + 5) (s + 60) T' S' ∧ Mk S0 T S 40 k T' S') := by
  obtain ⟨r1, r2, r3, r4, r5, r6, r7⟩ := hk
  unfold f_Flow_init
  rw [Option.bind_some]
  obtain ⟨a1, a2, a3, a4, a5, a6, a7, a8, a9⟩ := mk_fld (j := 0) (a := 0) hR r1 r2 r3 r4 r5
  rw [nA_s (12 : Int32) 12 tv12 (by decide), Option.bind_some, ti_pR (by rw [(ti_wN (by omega)).1]; exact r5) (pb_k (by rw [(ti_wN0 S 40 12 12).1]; decide)), Option.bind_some]
  obtain ⟨b1, b2, b3, b4, b5, b6, b7, b8, b9⟩ := mk_fld (j := 1) (a := 0) a1 a2 a3 r3 r4 a4
  have p0 := ti_sR_eq (wN S 40 12 12) k 0 (some (sN S))
  generalize wR (wN S 40 12 12) k 0 (some (sN S)) = S3 at *
  rw [nA_s (12 : Int32) 12 tv12 (by decide), Option.bind_some, ti_pR (by rw [(ti_wN (by omega)).1]; exact a4) (pb_k (by rw [(ti_wN0 S3 40 12 12).1]; decide)), Option.bind_some]
  obtain ⟨c1, c2, c3, c4, c5, c6, c7, c8, c9⟩ := mk_fld (j := 2) (a := 0) b1 b2 b3 r3 r4 b4
  have p1 := ti_sR_eq (wN S3 40 12 12) k 1 (some (sN S3))
  generalize wR (wN S3 40 12 12) k 1 (some (sN S3)) = S5 at *
  rw [nA_s (12 : Int32) 12 tv12 (by decide), Option.bind_some, ti_pR (by rw [(ti_wN (by omega)).1]; exact b4) (pb_k (by rw [(ti_wN0 S5 40 12 12).1]; decide)), Option.bind_some]
  obtain ⟨d1, d2, d3, d4, d5, d6, d7, d8, d9⟩ := mk_fld (j := 3) (a := 0) c1 c2 c3 r3 r4 c4
  have p2 := ti_sR_eq (wN S5 40 12 12) k 2 (some (sN S5))
  generalize wR (wN S5 40 12 12) k 2 (some (sN S5)) = S7 at *
  rw [nA_s (12 : Int32) 12 tv12 (by decide), Option.bind_some, ti_pR (by rw [(ti_wN (by omega)).1]; exact c4) (pb_k (by rw [(ti_wN0 S7 40 12 12).1]; decide)), Option.bind_some]
  obtain ⟨e1, e2, e3, e4, e5, e6, e7, e8, e9⟩ := mk_fld (j := 4) (a := 0) d1 d2 d3 r3 r4 d4
  have p3 := ti_sR_eq (wN S7 40 12 12) k 3 (some (sN S7))
  generalize wR (wN S7 40 12 12) k 3 (some (sN S7)) = S9 at *
  rw [nA_s (12 : Int32) 12 tv12 (by decide), Option.bind_some, ti_pR (by rw [(ti_wN (by omega)).1]; exact d4) (pb_k (by rw [(ti_wN0 S9 40 12 12).1]; decide)), Option.bind_some]
  have p4 := ti_sR_eq (wN S9 40 12 12) k 4 (some (sN S9))
  generalize wR (wN S9 40 12 12) k 4 (some (sN S9)) = S11 at *
  generalize kr_w T (sN S) 41 = T1 at *
  generalize kr_w T1 (sN S3) 41 = T2 at *
  generalize kr_w T2 (sN S5) 41 = T3 at *
  generalize kr_w T3 (sN S7) 41 = T4 at *
  generalize kr_w T4 (sN S9) 41 = T5 at *
  have u4 : ∀ a, T4 a ≠ 0 → T5 a = T4 a := e6
  have u3 : ∀ a, T3 a ≠ 0 → T5 a = T3 a := fun a h => (u4 a (by rw [d6 a h]; exact h)).trans (d6 a h)
  have u2 : ∀ a, T2 a ≠ 0 → T5 a = T2 a := fun a h => (u3 a (by rw [c6 a h]; exact h)).trans (c6 a h)
  have u1 : ∀ a, T1 a ≠ 0 → T5 a = T1 a := fun a h => (u2 a (by rw [b6 a h]; exact h)).trans (b6 a h)
  have u0 : ∀ a, T a ≠ 0 → T5 a = T a := fun a h => (u1 a (by rw [a6 a h]; exact h)).trans (a6 a h)
  have x0 : Tx T5 41 (sR S11 k 0) := ⟨_, by rw [e7 0 (by decide), d7 0 (by decide), c7 0 (by decide), b7 0 (by decide)]; exact p0, by rw [u1 _ (by rw [a5]; decide)]; exact a5, by decide⟩
  have x1 : Tx T5 41 (sR S11 k 1) := ⟨_, by rw [e7 1 (by decide), d7 1 (by decide), c7 1 (by decide)]; exact p1, by rw [u2 _ (by rw [b5]; decide)]; exact b5, by decide⟩
  have x2 : Tx T5 41 (sR S11 k 2) := ⟨_, by rw [e7 2 (by decide), d7 2 (by decide)]; exact p2, by rw [u3 _ (by rw [c5]; decide)]; exact c5, by decide⟩
  have x3 : Tx T5 41 (sR S11 k 3) := ⟨_, by rw [e7 3 (by decide)]; exact p3, by rw [u4 _ (by rw [d5]; decide)]; exact d5, by decide⟩
  have x4 : Tx T5 41 (sR S11 k 4) := ⟨_, p4, e5, by decide⟩
  have pr : TI (kr_w T5 k 40) S11 := by
    refine TIpr e1.1 e2 e3 (e4.trans rfl) (by decide) (fun n q => by cases q) ?_ (fun j t q => by cases q) ?_ (fun j n lo hi q => by cases q) rfl
    · intro j t q
      match j, q with
      | 0, q => cases q; exact x0
      | 1, q => cases q; exact x1
      | 2, q => cases q; exact x2
      | 3, q => cases q; exact x3
      | 4, q => cases q; exact x4
      | n + 5, q => cases q
    · intro j lo hi q
      match j, q with
      | 0, q => cases q
      | 1, q => cases q
      | 2, q => cases q
      | 3, q => cases q
      | 4, q => cases q
      | 5, q =>
        cases q
        rw [e8, d8, c8, b8, a8, r6 5]
        decide
      | n + 6, q => cases q
  refine ⟨S11, rfl, kr_w T5 k 40, Rlweak (Rlpr e1 r3 pr) (fun _ z => z) (by omega) (by omega), if_pos rfl, fun a ha => (if_neg (fun q => ha (by rw [q]; exact r1))).trans (u0 a ha), ?_⟩
  intro κ' a ha hr
  obtain ⟨z1, z2⟩ := e9 κ' a ha (d9 κ' a ha (c9 κ' a ha (b9 κ' a ha (a9 κ' a ha hr))))
  exact ⟨(if_neg ha).trans z1, z2⟩
