/-- an object waits while its fields are written -/
def Bd (T0 : Nat → Nat) (w : List Nat) (S0 : AS) (c s : Nat) (T : Nat → Nat) (Sb : AS) (κ k : Nat) (S : AS) : Prop := Rl T0 w S0 c s T S ∧ T k = 0 ∧ k < sN S ∧ sN S0 ≤ k ∧ 4 ≤ k ∧ sK S k = κ ∧ (∀ κ' a, a ≠ k → RawP S0 T Sb κ' a → RawP S0 T S κ' a)
theorem Bd0 {T0 T : Nat → Nat} {w : List Nat} {S0 S : AS} {c s κ k : Nat} (hR : Rl T0 w S0 c s T S) (hk : RawP S0 T S κ k) : Bd T0 w S0 c s T S κ k S := ⟨hR, hk.1, hk.2.1, hk.2.2.1, hk.2.2.2.1, hk.2.2.2.2.1, fun _ _ _ h => h⟩
theorem BdI {T0 T : Nat → Nat} {w : List Nat} {S0 S Sb : AS} {c s κ k : Nat} (h : Bd T0 w S0 c s T Sb κ k S) (j : Nat) (v : Int32) : Bd T0 w S0 c s T Sb κ k (wI S k j v) := by
  obtain ⟨h1, h2, h3, h4, h5, h6, h7⟩ := h
  refine ⟨RlwI0 h1 h2, h2, h3, h4, h5, h6, fun κ' a ha hr => ?_⟩
  obtain ⟨r1, r2, r3, r4, r5, r6, r7⟩ := h7 κ' a ha hr
  exact ⟨r1, r2, r3, r4, r5, fun i => by rw [ti_sI_ne (fun z => ha z.1)]; exact r6 i, r7⟩
theorem BdR {T0 T : Nat → Nat} {w : List Nat} {S0 S Sb : AS} {c s κ k : Nat} (h : Bd T0 w S0 c s T Sb κ k S) (j : Nat) (v : Option Nat) : Bd T0 w S0 c s T Sb κ k (wR S k j v) := by
  obtain ⟨h1, h2, h3, h4, h5, h6, h7⟩ := h
  refine ⟨RlwR0 h1 h2 (by omega), h2, h3, h4, h5, h6, fun κ' a ha hr => ?_⟩
  obtain ⟨r1, r2, r3, r4, r5, r6, r7⟩ := h7 κ' a ha hr
  exact ⟨r1, r2, r3, r4, r5, r6, fun i => by rw [ti_sR_ne (fun z => ha z.1)]; exact r7 i⟩
theorem BdE {T0 T : Nat → Nat} {w : List Nat} {S0 S Sb : AS} {c s κ k τ : Nat} (h : Bd T0 w S0 c s T Sb κ k S) (ht : TI (kr_w T k τ) S) : Rl T0 w S0 c s (kr_w T k τ) S ∧ Mk S0 T Sb τ k (kr_w T k τ) S := by
  obtain ⟨h1, h2, h3, h4, h5, h6, h7⟩ := h
  refine ⟨Rlpr h1 h4 ht, if_pos rfl, fun a ha => if_neg (fun q => ha (by rw [q]; exact h2)), fun κ' a ha hr => ?_⟩
  obtain ⟨z1, z2⟩ := h7 κ' a ha hr
  exact ⟨(if_neg ha).trans z1, z2⟩
theorem pb_n {S : AS} : kr_pb S none = true := rfl
theorem ho_Session {T0 T : Nat → Nat} {w : List Nat} {S0 S : AS} {c s k : Nat} {n b : Int32} {p o sh : Option Nat} (hR : Rl T0 w S0 c s T S) (hk : RawP S0 T S 19 k) (hp : Tx T 13 p) (ho : o = none ∨ Tx T 43 o) (hs : Tx T 47 sh) : Ho (f_Session_init S (some k) n p o sh b) (fun S' => ∃ T', Rl T0 w S0 c s T' S' ∧ Mk S0 T S 43 k T' S') := by
  have hpb := pb_tx hR.1 hp
  have hsb := pb_tx hR.1 hs
  have b0 := Bd0 hR hk
  have e := hk.2.2.2.2.1
  have g := BdI (BdI (BdR (BdR (BdR (BdI (BdI b0 6 1) 0 n) 1 p) 2 o) 3 sh) 4 b) 5 b
  have po : kr_pb S o = true := by
    rcases ho with ho | ho
    · rw [ho]; rfl
    · exact pb_tx hR.1 ho
  have pr := TIpr (τ := 43) g.1.1 g.2.1 g.2.2.1 (g.2.2.2.2.2.1.trans rfl) (by decide) (fun n q => by cases q) (fun j t q => by
    match j, q with
    | 0, q => cases q
    | 1, q =>
      cases q
      show Tx T 13 (sR (wR (wR (wR S k 1 p) k 2 o) k 3 sh) k 1)
      rw [ti_sR_ne (by omega), ti_sR_ne (by omega), ti_sR_eq]
      exact hp
    | 2, q => cases q
    | 3, q =>
      cases q
      show Tx T 47 (sR (wR (wR (wR S k 1 p) k 2 o) k 3 sh) k 3)
      rw [ti_sR_eq]
      exact hs
    | n + 4, q => cases q) (fun j t q => by
    match j, q with
    | 0, q => cases q
    | 1, q => cases q
    | 2, q =>
      cases q
      show sR (wR (wR (wR S k 1 p) k 2 o) k 3 sh) k 2 = none ∨ Tx T 43 (sR (wR (wR (wR S k 1 p) k 2 o) k 3 sh) k 2)
      rw [ti_sR_ne (by omega), ti_sR_eq]
      exact ho
    | n + 3, q => cases q) (fun j lo hi q => by
    match j, q with
    | 0, q => cases q
    | 1, q => cases q
    | 2, q => cases q
    | 3, q => cases q
    | 4, q => cases q
    | 5, q => cases q
    | 6, q =>
      cases q
      rw [ti_sI_ne (by omega), ti_sI_ne (by omega)]
      show In 0 1 (sI (wI (wI S k 6 1) k 0 n) k 6)
      rw [ti_sI_ne (by omega), ti_sI_eq]
      decide
    | n + 7, q => cases q) (fun j n lo hi q => by cases q) rfl
  have fin := BdE g pr
  refine ⟨_, ?_, _, fin.1, fin.2⟩
  unfold f_Session_init
  rw [Option.bind_some, ti_pZ e (Or.inr rfl), Option.bind_some, ti_pI (by exact e), Option.bind_some, ti_pR (by exact e) (by exact hpb), Option.bind_some, ti_pR (by exact e) (by exact po), Option.bind_some, ti_pR (by exact e) (by exact hsb), Option.bind_some, ti_pI (by exact e), Option.bind_some, ti_pI (by exact e), Option.bind_some]
theorem ho_Grant {T0 T : Nat → Nat} {w : List Nat} {S0 S : AS} {c s k : Nat} {a2 a3 a4 a5 : Int32} {p : Option Nat} (hR : Rl T0 w S0 c s T S) (hk : RawP S0 T S 14 k) (hp : Tx T 43 p) : Ho (f_Grant_init S (some k) p a2 a3 a4 a5) (fun S' => ∃ T', Rl T0 w S0 c s T' S' ∧ Mk S0 T S 44 k T' S') := by
  have hpb := pb_tx hR.1 hp
  have b0 := Bd0 hR hk
  have e := hk.2.2.2.2.1
  have g := BdI (BdI (BdI (BdI (BdR (BdI (BdI b0 5 (-1)) 9 (-1)) 0 p) 1 a2) 2 a3) 3 a4) 4 a5
  have pr := TIpr (τ := 44) g.1.1 g.2.1 g.2.2.1 (g.2.2.2.2.2.1.trans rfl) (by decide) (fun n q => by cases q) (fun j t q => by
    match j, q with
    | 0, q =>
      cases q
      show Tx T 43 (sR (wR S k 0 p) k 0)
      rw [ti_sR_eq]
      exact hp
    | n + 1, q => cases q) (fun j t q => by cases q) (fun j lo hi q => by
    match j, q with
    | 0, q => cases q
    | 1, q => cases q
    | 2, q => cases q
    | 3, q => cases q
    | 4, q => cases q
    | 5, q => cases q
    | 6, q =>
      cases q
      rw [ti_sI_ne (by omega), ti_sI_ne (by omega), ti_sI_ne (by omega), ti_sI_ne (by omega)]
      show In 0 1 (sI (wI (wI S k 5 (-1)) k 9 (-1)) k 6)
      rw [ti_sI_ne (by omega), ti_sI_ne (by omega), hk.2.2.2.2.2.1 6]
      decide
    | n + 7, q => cases q) (fun j n lo hi q => by cases q) rfl
  have fin := BdE g pr
  refine ⟨_, ?_, _, fin.1, fin.2⟩
  unfold f_Grant_init
  rw [Option.bind_some, ti_pI e, Option.bind_some, ti_pI (by exact e), Option.bind_some, ti_pR (by exact e) (by exact hpb), Option.bind_some, ti_pI (by exact e), Option.bind_some, ti_pI (by exact e), Option.bind_some, ti_pI (by exact e), Option.bind_some, ti_pI (by exact e), Option.bind_some]
theorem ho_Token {T0 T : Nat → Nat} {w : List Nat} {S0 S : AS} {c s k : Nat} {a2 a3 a4 a5 a6 a7 : Int32} {p : Option Nat} (hR : Rl T0 w S0 c s T S) (hk : RawP S0 T S 21 k) (hp : Tx T 44 p) : Ho (f_Token_init S (some k) p a2 a3 a4 a5 a6 a7) (fun S' => ∃ T', Rl T0 w S0 c s T' S' ∧ Mk S0 T S 45 k T' S') := by
  have hpb := pb_tx hR.1 hp
  have b0 := Bd0 hR hk
  have e := hk.2.2.2.2.1
  have g := BdI (BdI (BdI (BdI (BdI (BdI (BdR b0 0 p) 1 a2) 2 a3) 3 a4) 4 a5) 5 a6) 6 a7
  have pr := TIpr (τ := 45) g.1.1 g.2.1 g.2.2.1 (g.2.2.2.2.2.1.trans rfl) (by decide) (fun n q => by cases q) (fun j t q => by
    match j, q with
    | 0, q =>
      cases q
      show Tx T 44 (sR (wR S k 0 p) k 0)
      rw [ti_sR_eq]
      exact hp
    | n + 1, q => cases q) (fun j t q => by cases q) (fun j lo hi q => by cases q) (fun j n lo hi q => by cases q) rfl
  have fin := BdE g pr
  refine ⟨_, ?_, _, fin.1, fin.2⟩
  unfold f_Token_init
  rw [Option.bind_some, ti_pR e hpb, Option.bind_some, ti_pI (by exact e), Option.bind_some, ti_pI (by exact e), Option.bind_some, ti_pI (by exact e), Option.bind_some, ti_pI (by exact e), Option.bind_some, ti_pI (by exact e), Option.bind_some, ti_pI (by exact e), Option.bind_some]
theorem ho_Recovery {T0 T : Nat → Nat} {w : List Nat} {S0 S : AS} {c s k : Nat} {a2 : Int32} {p : Option Nat} (hR : Rl T0 w S0 c s T S) (hk : RawP S0 T S 17 k) (hp : Tx T 13 p) : Ho (f_Recovery_init S (some k) p a2) (fun S' => ∃ T', Rl T0 w S0 c s T' S' ∧ Mk S0 T S 46 k T' S') := by
  have hpb := pb_tx hR.1 hp
  have b0 := Bd0 hR hk
  have e := hk.2.2.2.2.1
  have g := BdI (BdR (BdI b0 2 1) 0 p) 1 a2
  have pr := TIpr (τ := 46) g.1.1 g.2.1 g.2.2.1 (g.2.2.2.2.2.1.trans rfl) (by decide) (fun n q => by cases q) (fun j t q => by
    match j, q with
    | 0, q =>
      cases q
      show Tx T 13 (sR (wR S k 0 p) k 0)
      rw [ti_sR_eq]
      exact hp
    | n + 1, q => cases q) (fun j t q => by cases q) (fun j lo hi q => by
    match j, q with
    | 0, q => cases q
    | 1, q => cases q
    | 2, q =>
      cases q
      rw [ti_sI_ne (by omega)]
      show In 0 1 (sI (wI S k 2 1) k 2)
      rw [ti_sI_eq]
      decide
    | n + 3, q => cases q) (fun j n lo hi q => by cases q) rfl
  have fin := BdE g pr
  refine ⟨_, ?_, _, fin.1, fin.2⟩
  unfold f_Recovery_init
  rw [Option.bind_some, ti_pZ e (Or.inr rfl), Option.bind_some, ti_pR (by exact e) (by exact hpb), Option.bind_some, ti_pI (by exact e), Option.bind_some]
theorem tv3 : (3 : Int32).toInt = ((3 : Nat) : Int) ∧ (3 : Int32).toNatClampNeg = 3 := by decide
theorem bI_s {S : AS} {k n : Nat} (i : Int32) (j : Nat) (v : Int32) (hk : sK S k = 40) (hl : sL S k = n) (h : i.toInt = j ∧ i.toNatClampNeg = j) (hj : j < n) : bI S (some k) i v = some (wI S k j v) := by
  unfold bI
  rw [Option.bind_some, if_pos ⟨hk, by rw [h.1]; omega, by rw [h.1, hl]; omega⟩, h.2]
theorem w3f (X : AS) (a : Nat) (v : Int32) : ∃ Y, Y = wI (wI (wI X a 0 v) a 1 v) a 2 v ∧ sK Y = sK X ∧ sL Y = sL X ∧ sR Y = sR X ∧ sN Y = sN X ∧ ∀ b, b ≠ a → sI Y b = sI X b := by
  refine ⟨_, rfl, rfl, rfl, rfl, rfl, fun b hb => ?_⟩
  funext j
  rw [ti_sI_ne (fun q => hb q.1), ti_sI_ne (fun q => hb q.1), ti_sI_ne (fun q => hb q.1)]
theorem sNwR (S : AS) (k j : Nat) (v : Option Nat) : sN (wR S k j v) = sN S := rfl
theorem sKwR (S : AS) (k j : Nat) (v : Option Nat) : sK (wR S k j v) = sK S := rfl
theorem sLwR (S : AS) (k j : Nat) (v : Option Nat) : sL (wR S k j v) = sL S := rfl
theorem sIwR (S : AS) (k j : Nat) (v : Option Nat) : sI (wR S k j v) = sI S := rfl
theorem sNwN (S : AS) (κ l s : Nat) : sN (wN S κ l s) = sN S + 1 := rfl
/-- the minutes' row is made, filled, and put into its object -/
theorem mk_shown {T0 T : Nat → Nat} {w : List Nat} {S0 S Y : AS} {c s k : Nat} (hR : Rl T0 w S0 c s T S) (hk : RawP S0 T S 20 k) (hY : Y = wI (wI (wI (wN S 40 3 3) (sN S) 0 (-1)) (sN S) 1 (-1)) (sN S) 2 (-1)) (y1 : sK Y = sK (wN S 40 3 3)) (y2 : sL Y = sL (wN S 40 3 3)) (y3 : sR Y = sR (wN S 40 3 3)) (y4 : sN Y = sN (wN S 40 3 3)) (y5 : ∀ b, b ≠ sN S → sI Y b = sI (wN S 40 3 3) b) : ∃ T', Rl T0 w S0 (c + 1) (s + 3) T' (wR Y k 0 (some (sN S))) ∧ Mk S0 T S 47 k T' (wR Y k 0 (some (sN S))) := by
  obtain ⟨r1, r2, r3, r4, r5, r6, r7⟩ := hk
  have hf := TIfresh hR.1 (Nat.le_refl (sN S))
  have z := ti_wN0 S 40 3 3
  have hne : k ≠ sN S := by omega
  rw [sNwN] at y4
  have g1 : Rl T0 w S0 (c + 1) (s + 3) T Y := by
    rw [hY]
    exact RlwI0 (j := 2) (v := -1) (RlwI0 (j := 1) (v := -1) (RlwI0 (j := 0) (v := -1) (RlwN (κ := 40) (l := 3) (n := 3) hR) hf) hf) hf
  clear hY
  have p1 : TI (kr_w T (sN S) 48) Y := TIpr g1.1 hf (by rw [y4]; exact Nat.lt_succ_self _) (by rw [y1]; exact z.1) (by decide) (fun n q => by cases q; rw [y2]; exact z.2.1) (fun j t q => by cases q) (fun j t q => by cases q) (fun j lo hi q => by cases q) (fun j n lo hi q => by cases q) rfl
  have g2 := Rlpr g1 hR.2.1 p1
  have k1 : kr_w T (sN S) 48 k = 0 := (if_neg hne).trans r1
  have g3 := RlwR0 (j := 0) (v := some (sN S)) g2 k1 (by omega)
  have u1 : ∀ a, T a ≠ 0 → kr_w T (sN S) 48 a = T a := fun a ha => if_neg (fun e => ha (by rw [e]; exact hf))
  have e := ti_wN (S := S) (κ := 40) (l := 3) (s := 3) (k := k) hne
  have u2 : kr_w T (sN S) 48 (sN S) = 48 := if_pos rfl
  have u3 : ∀ a, a ≠ sN S → kr_w T (sN S) 48 a = T a := fun a ha => if_neg ha
  generalize kr_w T (sN S) 48 = T1 at *
  have p2 : TI (kr_w T1 k 47) (wR Y k 0 (some (sN S))) := TIpr g3.1 k1 (by rw [sNwR, y4]; omega) (by rw [sKwR, y1, e.1, r5]; rfl) (by decide) (fun n q => by cases q) (fun j t q => by
    match j, q with
    | 0, q =>
      cases q
      rw [ti_sR_eq]
      exact ⟨_, rfl, u2, by decide⟩
    | n + 1, q => cases q) (fun j t q => by cases q) (fun j lo hi q => by cases q) (fun j n lo hi q => by cases q) rfl
  refine ⟨_, Rlpr g3 r3 p2, if_pos rfl, fun a ha => (if_neg (fun q => ha (by rw [q]; exact r1))).trans (u1 a ha), ?_⟩
  rintro κ' a ha ⟨q1, q2, q3, q4, q5, q6, q7⟩
  have hb : a ≠ sN S := by omega
  have ea := ti_wN (S := S) (κ := 40) (l := 3) (s := 3) (k := a) hb
  have ha1 : T1 a = 0 := (u3 a hb).trans q1
  refine ⟨(if_neg ha).trans ha1, by rw [sNwR, y4]; omega, q3, q4, by rw [sKwR, y1, ea.1]; exact q5, fun j => ?_, fun j => ?_⟩
  · rw [sIwR, y5 a hb, ea.2.2.1]
    exact q6 j
  · rw [ti_sR_ne (fun x => ha x.1), y3, ea.2.2.2.1]
    exact q7 j
theorem ho_Shown1 {T0 T : Nat → Nat} {w : List Nat} {S0 S : AS} {c s k : Nat} (hR : Rl T0 w S0 c s T S) (hk : RawP S0 T S 20 k) : Ho (f_Shown_init1 S (some k)) (fun S' => ∃ T', Rl T0 w S0 (c + 1) (s + 3) T' S' ∧ Mk S0 T S 47 k T' S') := by
  obtain ⟨Y, hY, y1, y2, y3, y4, y5⟩ := w3f (wN S 40 3 3) (sN S) (-1)
  obtain ⟨T', h1, h2⟩ := mk_shown hR hk hY y1 y2 y3 y4 y5
  refine ⟨_, ?_, T', h1, h2⟩
  have z := ti_wN0 S 40 3 3
  have e := ti_wN (S := S) (κ := 40) (l := 3) (s := 3) (k := k) (by have := hk.2.1; omega)
  unfold f_Shown_init1
  rw [Option.bind_some, nA_s (3 : Int32) 3 tv3 (by decide), Option.bind_some]
  rw [bI_s (n := 3) (0 : Int32) 0 _ z.1 z.2.1 (by decide) (by decide), Option.bind_some]
  rw [bI_s (S := wI (wN S 40 3 3) (sN S) 0 (-1)) (n := 3) (1 : Int32) 1 _ z.1 z.2.1 (by decide) (by decide), Option.bind_some]
  rw [bI_s (S := wI (wI (wN S 40 3 3) (sN S) 0 (-1)) (sN S) 1 (-1)) (n := 3) (2 : Int32) 2 _ z.1 z.2.1 (by decide) (by decide), Option.bind_some, ← hY]
  rw [ti_pR (by rw [y1]; exact e.1.trans hk.2.2.2.2.1) (pb_k (by rw [y1, z.1]; decide)), Option.bind_some]
theorem ho_Shown2s {T0 T : Nat → Nat} {w : List Nat} {S0 S : AS} {c s k : Nat} {x : Option Nat} {Q : AS → Prop} (hR : Rl T0 w S0 c s T S) (hk : RawP S0 T S 20 k) (h : ∀ T' S', Rl T0 w S0 (c + 1) (s + 3) T' S' → Mk S0 T S 47 k T' S' → Ho (f_Shown_init2_L25 kr_FU S' (some k) x (0 : Int32)) Q) : Ho (f_Shown_init2 S (some k) x) Q := by
  obtain ⟨Y, hY, y1, y2, y3, y4, y5⟩ := w3f (wN S 40 3 3) (sN S) (-1)
  obtain ⟨T', h1, h2⟩ := mk_shown hR hk hY y1 y2 y3 y4 y5
  have z := ti_wN0 S 40 3 3
  have e := ti_wN (S := S) (κ := 40) (l := 3) (s := 3) (k := k) (by have := hk.2.1; omega)
  unfold f_Shown_init2
  rw [Option.bind_some, nA_s (3 : Int32) 3 tv3 (by decide), Option.bind_some]
  rw [bI_s (n := 3) (0 : Int32) 0 _ z.1 z.2.1 (by decide) (by decide), Option.bind_some]
  rw [bI_s (S := wI (wN S 40 3 3) (sN S) 0 (-1)) (n := 3) (1 : Int32) 1 _ z.1 z.2.1 (by decide) (by decide), Option.bind_some]
  rw [bI_s (S := wI (wI (wN S 40 3 3) (sN S) 0 (-1)) (sN S) 1 (-1)) (n := 3) (2 : Int32) 2 _ z.1 z.2.1 (by decide) (by decide), Option.bind_some, ← hY]
  rw [ti_pR (by rw [y1]; exact e.1.trans hk.2.2.2.2.1) (pb_k (by rw [y1, z.1]; decide)), Option.bind_some]
  exact h T' _ h1 h2
theorem ho_Attempt {T0 T : Nat → Nat} {w : List Nat} {S0 S : AS} {c s k : Nat} {a2 a3 : Int32} {p f : Option Nat} (hR : Rl T0 w S0 c s T S) (hk : RawP S0 T S 11 k) (hp : Tx T 13 p) (hf : Tx T 40 f) : Ho (f_Attempt_init S (some k) p a2 a3 f) (fun S' => ∃ T', Rl T0 w S0 (c + 2) (s + 23) T' S' ∧ Mk S0 T S 42 k T' S') := by
  unfold f_Attempt_init
  rw [Option.bind_some]
  refine r_nO hR (by decide) (fun S2 g1 rw1 kp1 => ?_)
  refine r_bind (ho_Shown1 g1 rw1) (fun S3 hh => ?_)
  obtain ⟨T', g2, m1, m2, m3⟩ := hh
  have hne : k ≠ sN S := by have := hk.2.1; omega
  have hk2 := m3 11 k hne (kp1 11 k hk)
  have hT0 : T' (sN S) ≠ 0 := by rw [m1]; decide
  have hs : Tx T' 47 (some (sN S)) := ⟨_, rfl, m1, by decide⟩
  have hp2 := hp.up m2
  have hf2 := hf.up m2
  have hkeep : ∀ κ' a, a ≠ k → RawP S0 T S κ' a → RawP S0 T' S3 κ' a := fun κ' a ha hr => m3 κ' a (by have := hr.2.1; omega) (kp1 κ' a hr)
  clear m3 kp1 hk hR
  have b0 := Bd0 g2 hk2
  have e := hk2.2.2.2.2.1
  have hsb := pb_tx g2.1 hs
  have hpb := pb_tx g2.1 hp2
  have hfb := pb_tx g2.1 hf2
  have g := BdR (BdI (BdI (BdR (BdI (BdI (BdI (BdR b0 4 (some (sN S))) 5 0) 6 (-1)) 9 (-1)) 0 p) 1 a2) 2 a3) 3 f
  have pr := TIpr (τ := 42) g.1.1 g.2.1 g.2.2.1 (g.2.2.2.2.2.1.trans rfl) (by decide) (fun n q => by cases q) (fun j t q => by
    match j, q with
    | 0, q =>
      cases q
      show Tx T' 13 (sR (wR (wR (wR S3 k 4 (some (sN S))) k 0 p) k 3 f) k 0)
      rw [ti_sR_ne (by omega), ti_sR_eq]
      exact hp2
    | 1, q => cases q
    | 2, q => cases q
    | 3, q =>
      cases q
      show Tx T' 40 (sR (wR (wR (wR S3 k 4 (some (sN S))) k 0 p) k 3 f) k 3)
      rw [ti_sR_eq]
      exact hf2
    | 4, q =>
      cases q
      show Tx T' 47 (sR (wR (wR (wR S3 k 4 (some (sN S))) k 0 p) k 3 f) k 4)
      rw [ti_sR_ne (by omega), ti_sR_ne (by omega), ti_sR_eq]
      exact hs
    | n + 5, q => cases q) (fun j t q => by cases q) (fun j lo hi q => by cases q) (fun j n lo hi q => by cases q) rfl
  have fin := BdE g pr
  refine ⟨_, ?_, _, Rlweak fin.1 (fun _ z => z) (by omega) (by omega), fin.2.1, fun a ha => (fin.2.2.1 a (by rw [m2 a ha]; exact ha)).trans (m2 a ha), fun κ' a ha hr => fin.2.2.2 κ' a ha (hkeep κ' a ha hr)⟩
  rw [ti_pR e hsb, Option.bind_some, ti_pI (by exact e), Option.bind_some, ti_pI (by exact e), Option.bind_some, ti_pI (by exact e), Option.bind_some, ti_pR (by exact e) (by exact hpb), Option.bind_some, ti_pI (by exact e), Option.bind_some, ti_pI (by exact e), Option.bind_some, ti_pR (by exact e) (by exact hfb), Option.bind_some]
