/-! ===== the whole relation, by components: class cells of S, reference cells of m ===== -/
def Kp (T T' : Nat → Nat) (cs : List Nat) (S S' : AS) : Prop := (∀ k, T k ≠ 0 → T' k = T k) ∧ (∀ k j, T k ≠ 0 → cl (T k) j ∈ cs → sI S' k j = sI S k j) ∧ (∀ k j, T k ≠ 0 → cr (T k) j ∈ cs → sR S' k j = sR S k j)
theorem Kp_rf (T : Nat → Nat) (cs : List Nat) (S : AS) : Kp T T cs S S := ⟨fun _ _ => rfl, fun _ _ _ _ => rfl, fun _ _ _ _ => rfl⟩
theorem Kp_of {T T' : Nat → Nat} {w cs : List Nat} {S S' : AS} {c s : Nat} (hR : Rl T w S c s T' S') (hw : cs.all (fun z => !w.contains z) = true) : Kp T T' cs S S' := by
  have no : ∀ z, z ∈ cs → ¬ z ∈ w := fun z hz q => by
    have := List.all_eq_true.mp hw z hz
    rw [List.contains_iff_mem.mpr q] at this
    cases this
  exact ⟨hR.ty, fun k j h q => hR.fI k j h (no _ q), fun k j h q => hR.fR k j h (no _ q)⟩
theorem Kp_off {T T' : Nat → Nat} {w cs : List Nat} {S S' : AS} {c s : Nat} (hR : Rl T w S c s T' S') (hw : ∀ z ∈ w, ¬ z ∈ cs) : Kp T T' cs S S' := ⟨hR.ty, fun k j h q => hR.fI k j h (fun z => hw _ z q), fun k j h q => hR.fR k j h (fun z => hw _ z q)⟩
theorem Kp.A {T T' : Nat → Nat} {cs : List Nat} {S S' : AS} (h : Kp T T' cs S S') {k τ : Nat} (hk : T k = τ) (hd : 40 ≤ kd τ) (hz : 100 * τ ∈ cs) (j : Nat) : sI S' k j = sI S k j := by
  refine h.2.1 k j ?_ ?_
  · rw [hk]
    rintro rfl
    exact absurd hd (by decide)
  · rw [hk, show cl τ j = 100 * τ from if_neg (by omega)]
    exact hz
theorem Kp.AR {T T' : Nat → Nat} {cs : List Nat} {S S' : AS} (h : Kp T T' cs S S') {k τ : Nat} (hk : T k = τ) (hd : 40 ≤ kd τ) (hz : 50000 + 100 * τ ∈ cs) (j : Nat) : sR S' k j = sR S k j := by
  refine h.2.2 k j ?_ ?_
  · rw [hk]
    rintro rfl
    exact absurd hd (by decide)
  · rw [hk, show cr τ j = 50000 + 100 * τ from congrArg (50000 + ·) (if_neg (by omega))]
    exact hz
theorem Kp.O {T T' : Nat → Nat} {cs : List Nat} {S S' : AS} (h : Kp T T' cs S S') {k τ j : Nat} (hk : T k = τ) (h0 : τ ≠ 0) (hz : cl τ j ∈ cs) : sI S' k j = sI S k j := h.2.1 k j (by rw [hk]; exact h0) (by rw [hk]; exact hz)
theorem Kp.R {T T' : Nat → Nat} {cs : List Nat} {S S' : AS} (h : Kp T T' cs S S') {k τ j : Nat} (hk : T k = τ) (h0 : τ ≠ 0) (hz : cr τ j ∈ cs) : sR S' k j = sR S k j := h.2.2 k j (by rw [hk]; exact h0) (by rw [hk]; exact hz)
theorem Kp.F {T T' : Nat → Nat} {cs : List Nat} {m m' : AS} (h : Kp T T' cs m m') (hT : TI T m) {j : Nat} (hz : cl 100 j ∈ cs) : sI m' 57 j = sI m 57 j := h.O hT.t9.1 (by decide) hz
theorem Kp.M {T T' : Nat → Nat} {cs : List Nat} {m m' : AS} (h : Kp T T' cs m m') (hT : TI T m) {j p : Nat} (hj : mft j = some p) (hd : 40 ≤ kd (100 + j)) (hz : 100 * (100 + j) ∈ cs) (i : Nat) : sI m' p i = sI m p i := by
  have h81 : j < 81 := gd_lt hj
  have e := List.all_eq_true.mp mft_ok j (List.mem_range.mpr h81)
  simp only [hj, Bool.and_eq_true, beq_iff_eq] at e
  exact h.A (md_at hT e.1 e.2).2.1 hd hz i
/-- a list's elements lie where they lay -/
theorem Kp.L {T T' : Nat → Nat} {cs : List Nat} {S S' : AS} (h : Kp T T' cs S S') (hT : TI T S) {q i : Nat} (hq : q < 7) (h1 : cr (20 + q) 1 ∈ cs) (h2 : cr (30 + q) 0 ∈ cs) (hi : (i : Int) < (sI S (lp q) 2).toInt) : lel S' (lp q) i = lel S (lp q) i := by
  obtain ⟨l1, d, l2, l3, l4, l5, l6⟩ := hT.t6 q hq
  have e1 : sR S' (lp q) 1 = sR S (lp q) 1 := h.R l1 (by omega) h1
  have hd : T d = 30 + q := by
    rcases l3 with l3 | l3
    · exact l3
    · subst l3
      rw [hT.t8.2.2.2.2.2.1] at l4
      omega
  have e2 : sR S' d i = sR S d i := by
    refine h.AR hd ?_ ?_ i
    · rw [(lp_all q hq).2.2.1]
      decide
    · rw [show cr (30 + q) 0 = 50000 + 100 * (30 + q) from congrArg (50000 + ·) (if_neg (by rw [(lp_all q hq).2.2.1]; decide))] at h2
      exact h2
  unfold lel
  rw [e1, l2]
  show (sR S' d i).getD 0 = (sR S d i).getD 0
  rw [e2]
def nn (v : Int32) : Nat := v.toNatClampNeg
theorem nn_o {n : Nat} (h : n < 301) : nn (Int32.ofNat n) = n := oc h
/-- how many: versions, attempts, sessions, codes, families, tokens, recoveries -/
def nV (m : AS) : Nat := nn (sI m 57 9)
def uA (m : AS) : Nat := nn (sI m 57 19)
def nS (m : AS) : Nat := nn (sI m 57 30)
def nC (m : AS) : Nat := nn (sI m 57 39)
def nF (m : AS) : Nat := nn (sI m 57 46)
def nT (m : AS) : Nat := nn (sI m 57 52)
def nR (m : AS) : Nat := nn (sI m 57 70)
/-- a list of the class against a number of the reference -/
def SZ (l j b : Nat) (S m : AS) : Prop := nn (sI m 57 j) ≤ b ∧ sI m 57 j = Int32.ofNat (nn (sI m 57 j)) ∧ sI S l 2 = sI m 57 j
/-- the row of minutes of who holds them in the field j -/
def mn (S : AS) (p j : Nat) : Nat := (sR S ((sR S p j).getD 0) 0).getD 0
def mok (v : Int32) : Prop := v = -1 ∨ (0 ≤ v.toInt ∧ v.toInt ≤ 30000)
def cNW (S m : AS) : Prop := sI S 4 0 = sI m 57 0 ∧ 0 ≤ (sI m 57 0).toInt ∧ (sI m 57 0).toInt ≤ 30000
def cPF (S _m : AS) : Prop := PF S
def cWgt (S _m : AS) : Prop := sI S 1 0 = 1 ∧ sI S 1 1 = 2 ∧ sI S 1 2 = 3
def cFac (S m : AS) : Prop := ∀ i, i < 6 → (∀ f, f < 3 → sI S (30 + 4 * i) f = sI m 58 (3 * i + f) ∧ sI S (31 + 4 * i) f = sI m 59 (3 * i + f) ∧ (sI m 58 (3 * i + f) = 1 → 0 ≤ (sI m 59 (3 * i + f)).toInt ∧ (sI m 59 (3 * i + f)).toInt ≤ 4)) ∧ sI S (29 + 4 * i) 3 = sI m 60 i
def WR (k v : Int32) : Prop := (k = -1 ∧ v = -1000) ∨ (k = v ∧ 0 ≤ k.toInt ∧ k.toInt ≤ 30000)
def cWrg (S m : AS) : Prop := ∀ i, i < 6 → WR (sI S (29 + 4 * i) 4) (sI m 61 (3 * i + 2)) ∧ WR (sI S (29 + 4 * i) 5) (sI m 61 (3 * i + 1)) ∧ WR (sI S (29 + 4 * i) 6) (sI m 61 (3 * i))
def cKn (S m : AS) : Prop := ∀ i, i < 6 → ∀ d, d < 6 → (bt (sI S (29 + 4 * i) 7) d = true ↔ sI m 62 (6 * i + d) ≠ 0) ∧ (bt (sI S (29 + 4 * i) 8) d = true ↔ sI m 63 (6 * i + d) ≠ 0)
def cCon (S m : AS) : Prop := ∀ c, c < 4 → (∀ i, i < 6 → sI S (32 + 4 * i) c = sI m 91 (4 * i + c)) ∧ sI S 20 c = sI m 91 (24 + c)
def cHlp (S m : AS) : Prop := ∀ i, i < 6 → sI S (29 + 4 * i) 10 = sI m 65 i
def cAwy (S m : AS) : Prop := ∀ i, i < 6 → sI S (29 + 4 * i) 11 = sI m 64 i
def cPts (S m : AS) : Prop := ∀ i, i < 3 → sI S 9 i = sI m 73 i ∧ sI S 10 i = sI m 74 i
def cLnk (S m : AS) : Prop := ∀ i, i < 6 → sI S 28 i = sI m 122 i
def fa (S : AS) (p j : Nat) : Nat := (sR S p j).getD 0
def FLW (S m : AS) (p v : Nat) : Prop := ∃ n, 1 ≤ n ∧ n ≤ 12 ∧ sI S p 5 = Int32.ofNat n ∧ sI m 66 v = Int32.ofNat n ∧ ∀ j k, j < 5 → k < n → sI S (fa S p j) k = sI m (67 + j) (12 * v + k)
def cVer (S m : AS) : Prop := SZ 17 9 8 S m ∧ ∀ v, v < nV m → FLW S m (lel S 17 v) v ∧ (∀ k : Nat, (k : Int) < (sI m 66 v).toInt → sI m 67 (12 * v + k) = 0 → 1 ≤ (sI m 69 (12 * v + k)).toInt) ∧ lel S 17 v ≠ fa S 4 5 ∧ (∀ j i, j < 5 → i < 5 → fa S (lel S 17 v) j ≠ fa S (fa S 4 5) i) ∧ ∀ u, u < nV m → lel S 17 u = lel S 17 v → u = v
def cDrB (_S m : AS) : Prop := ∀ k : Nat, (k : Int) < (sI m 66 8).toInt → sI m 67 (96 + k) = 0 → 1 ≤ (sI m 69 (96 + k)).toInt
def cAtt (S m : AS) : Prop := SZ 18 19 60 S m ∧ ∀ a, a < uA m → (∀ b, b < uA m → lel S 18 b = lel S 18 a → b = a) ∧
  (∃ i, i < 6 ∧ sR S (lel S 18 a) 0 = some (29 + 4 * i) ∧ sI m 75 a = Int32.ofNat i) ∧ (∃ d, d < 6 ∧ sI S (lel S 18 a) 1 = Int32.ofNat d ∧ sI m 76 a = Int32.ofNat d) ∧ (∃ d, d < 6 ∧ sI S (lel S 18 a) 2 = Int32.ofNat d ∧ sI m 77 a = Int32.ofNat d) ∧
  (∃ v, v < nV m ∧ sR S (lel S 18 a) 3 = some (lel S 17 v) ∧ sI m 78 a = Int32.ofNat v) ∧ (∃ x, sR S (lel S 18 a) 4 = some x)
def cAst (S m : AS) : Prop := (∀ a, uA m ≤ a → a < 60 → sI m 82 a = 0) ∧ ∀ a, a < uA m → sI S (lel S 18 a) 5 = sI m 80 a ∧ sI S (lel S 18 a) 8 = sI m 82 a ∧ sI S (lel S 18 a) 9 = sI m 83 a ∧ (sI m 80 a = 0 → sI S (lel S 18 a) 6 = sI m 79 a ∧ sI S (lel S 18 a) 7 = sI m 81 a ∧ (0 ≤ (sI m 82 a).toInt ∧ (sI m 82 a).toInt ≤ 11) ∧ 0 ≤ (sI m 81 a).toInt ∧ (sI m 81 a).toInt < (sI m 69 (12 * nn (sI m 78 a) + nn (sI m 79 a))).toInt)
def cAsh (S m : AS) : Prop := ∀ a, a < uA m → ∀ f, f < 3 → sI S (mn S (lel S 18 a) 4) f = sI m 84 (3 * a + f) ∧ mok (sI m 84 (3 * a + f))
def cSes (S m : AS) : Prop := SZ 19 30 60 S m ∧ ∀ s, s < nS m → sI S (lel S 19 s) 0 = Int32.ofNat s ∧ (∃ p, p < 6 ∧ sR S (lel S 19 s) 1 = some (29 + 4 * p) ∧ sI m 85 s = Int32.ofNat p) ∧
  ((sR S (lel S 19 s) 2 = none ∧ sI m 88 s = -1) ∨ ∃ o, o < s ∧ sR S (lel S 19 s) 2 = some (lel S 19 o) ∧ sI m 88 s = Int32.ofNat o) ∧ (∃ x, sR S (lel S 19 s) 3 = some x) ∧ sI S (lel S 19 s) 4 = sI m 86 s
def cUsd (S m : AS) : Prop := ∀ s, s < nS m → sI S (lel S 19 s) 5 = sI m 87 s
def cLiv (S m : AS) : Prop := (∀ s, s < nS m → sI S (lel S 19 s) 6 = sI m 89 s ∧ (sI m 89 s = 0 ∨ sI m 89 s = 1)) ∧ sI S 4 9 = Int32.ofNat (cnt (sI m 89) (nS m))
def cSsh (S m : AS) : Prop := ∀ s, s < nS m → ∀ f, f < 3 → sI S (mn S (lel S 19 s) 3) f = sI m 90 (3 * s + f) ∧ mok (sI m 90 (3 * s + f))
def cMin (S m : AS) : Prop := (∀ a b, a < uA m → b < uA m → mn S (lel S 18 a) 4 = mn S (lel S 18 b) 4 → a = b) ∧ (∀ a b, a < nS m → b < nS m → mn S (lel S 19 a) 3 = mn S (lel S 19 b) 3 → a = b) ∧ (∀ a b, a < uA m → b < nS m → mn S (lel S 18 a) 4 ≠ mn S (lel S 19 b) 3)
def cCod (S m : AS) : Prop := SZ 22 39 60 S m ∧ ∀ c, c < nC m → (∀ b, b < nC m → lel S 22 b = lel S 22 c → b = c) ∧ (∃ s, s < nS m ∧ sR S (lel S 22 c) 0 = some (lel S 19 s) ∧ sI m 93 c = Int32.ofNat s) ∧ (∃ v, v < 4 ∧ sI S (lel S 22 c) 1 = Int32.ofNat v ∧ sI m 94 c = Int32.ofNat v) ∧ (∃ v, v < 4 ∧ sI S (lel S 22 c) 2 = Int32.ofNat v ∧ sI m 95 c = Int32.ofNat v) ∧ sI S (lel S 22 c) 3 = sI m 96 c ∧ sI S (lel S 22 c) 4 = sI m 97 c ∧ sI S (lel S 22 c) 5 = sI m 98 c ∧ (sI m 98 c = -1 ∨ ∃ f, f < nF m ∧ sI m 98 c = Int32.ofNat f)
def cFre (S m : AS) : Prop := ∀ c, c < nC m → sI m 98 c = -1 → sI S (lel S 22 c) 6 = 0 ∧ sI S (lel S 22 c) 7 = 0 ∧ sI S (lel S 22 c) 10 = 0 ∧ sI S (lel S 22 c) 11 = 0
def cFam (S m : AS) : Prop := SZ 23 46 60 S m ∧ ∀ f, f < nF m → ∃ c, c < nC m ∧ lel S 23 f = lel S 22 c ∧ sI m 99 f = Int32.ofNat c ∧ sI m 98 c = Int32.ofNat f ∧ ∀ x, x < nC m → sI m 98 x = Int32.ofNat f → x = c
def cNum (S m : AS) : Prop := ∀ f, f < nF m → sI S (lel S 23 f) 7 = sI m 100 f ∧ (sI m 100 f ≠ 0 → sI S (lel S 23 f) 8 = sI m 101 f) ∧ sI S (lel S 23 f) 9 = sI m 102 f
def cGod (S m : AS) : Prop := (∀ x, nF m ≤ x → x < 60 → ∀ v, v < 4 → sI m 116 (60 * v + x) = 0) ∧ ∀ f, f < nF m → sI S (lel S 23 f) 6 = sI m 103 f ∧ (∀ v, v < 4 → (bt (sI S (lel S 23 f) 11) v = true ↔ sI m 116 (60 * v + f) = 1)) ∧ (sI m 103 f ≠ 0 → ∀ v, v < 4 → sI m 116 (60 * v + f) = 0)
def cTok (S m : AS) : Prop := SZ 24 52 200 S m ∧ ∀ t, t < nT m → (∃ f, f < nF m ∧ sR S (lel S 24 t) 0 = some (lel S 23 f) ∧ sI m 108 t = Int32.ofNat f) ∧ sI S (lel S 24 t) 1 = sI m 104 t ∧ (∃ v, v < 4 ∧ sI S (lel S 24 t) 2 = Int32.ofNat v ∧ sI m 105 t = Int32.ofNat v) ∧ sI S (lel S 24 t) 3 = sI m 106 t ∧ sI S (lel S 24 t) 4 = sI m 107 t ∧ (∃ k, k < 20 ∧ sI S (lel S 24 t) 5 = Int32.ofNat k ∧ sI m 109 t = Int32.ofNat k) ∧ sI S (lel S 24 t) 6 = sI m 110 t ∧ 0 ≤ (sI m 110 t).toInt ∧ (sI m 110 t).toInt ≤ 30010
def cAud (S m : AS) : Prop := ∀ f, f < nF m → ∀ v, v < 4 → (bt (sI S (lel S 23 f) 10) v = true ↔ ∃ t, t < nT m ∧ sI m 108 t = Int32.ofNat f ∧ sI m 105 t = Int32.ofNat v)
def cSrv (S m : AS) : Prop := ∀ v, v < 4 → (sI S (53 + v) 1 = 0 ↔ sI m 113 v ≠ 0)
def cNed (S m : AS) : Prop := ∀ v, v < 4 → sI S (53 + v) 0 = sI m 92 v
def cChe (S m : AS) : Prop := ∀ v, v < 4 → (∀ k, k < 20 → bt (sI S (53 + v) 2) k = bt (sI m 114 v) k) ∧ sI S (53 + v) 3 = sI m 115 v
def cKey (S m : AS) : Prop := KY (sI m 57 0).toInt S m
def cRec (S m : AS) : Prop := SZ 27 70 20 S m ∧ (∀ r, nR m ≤ r → r < 20 → sI m 120 r = 0 ∧ sI m 121 r = 0) ∧ ∀ r, r < nR m → (∀ b, b < nR m → lel S 27 b = lel S 27 r → b = r) ∧ (∃ i, i < 6 ∧ sR S (lel S 27 r) 0 = some (29 + 4 * i) ∧ sI m 117 r = Int32.ofNat i) ∧ sI S (lel S 27 r) 1 = sI m 118 r ∧ sI S (lel S 27 r) 2 = sI m 119 r ∧ sI S (lel S 27 r) 3 = sI m 120 r ∧ (0 ≤ (sI m 120 r).toInt ∧ (sI m 120 r).toInt < 64) ∧ sI S (lel S 27 r) 4 = sI m 121 r
def cAU (S m : AS) : Prop := AU 0 (sI m 89) (nS m) S m
