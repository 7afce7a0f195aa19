/-! ===== the law's rows (in S) against the reference's (in m) ===== -/
def mi (v : Int32) : Prop := 0 ≤ v.toInt ∧ v.toInt ≤ 30000
def q01 (v : Int32) : Prop := v = 0 ∨ v = 1
/-- a number: the law's at j, the reference's at i, at most b -/
def lSz (j i b n : Nat) (S m : AS) : Prop := sI S 127 j = Int32.ofNat n ∧ sI m 57 i = Int32.ofNat n ∧ n ≤ b
def lNow (S m : AS) : Prop := sI S 127 0 = sI m 57 0 ∧ mi (sI m 57 0)
def lAud (S m : AS) : Prop := sI S 127 9 = sI m 57 77 ∧ sI S 127 10 = sI m 57 81
/-- both hold one small number -/
def sV (b : Nat) (v w : Int32) : Prop := ∃ n, n < b ∧ v = Int32.ofNat n ∧ w = Int32.ofNat n
def lSp (ns : Nat) (S m : AS) : Prop := ∀ j, j < ns → sV 3 (sI S 133 (4 * j)) (sI m 85 j) ∧ (sI S 133 (4 * j + 1) = sI m 86 j ∧ mi (sI m 86 j)) ∧ ∃ o, o ≤ j ∧ sI m 88 j + 1 = Int32.ofNat o
def lUsd (ns : Nat) (S m : AS) : Prop := ∀ j, j < ns → sI S 133 (4 * j + 2) = sI m 87 j ∧ mi (sI m 87 j)
def lLiv (ns : Nat) (S m : AS) : Prop := ∀ j, j < ns → (sI m 89 j = 1 ∧ sI S 133 (4 * j + 3) = sI m 88 j + 1) ∨ (sI m 89 j = 0 ∧ sI S 133 (4 * j + 3) = sI m 88 j + 1 + 100)
def lSsh (ns : Nat) (S m : AS) : Prop := ∀ j, j < ns → ∀ f, f < 3 → sI S 134 (3 * j + f) = sI m 90 (3 * j + f) ∧ mok (sI m 90 (3 * j + f))
def lCod (ns nc : Nat) (S m : AS) : Prop := ∀ k, k < nc → sV ns (sI S 135 (6 * k)) (sI m 93 k) ∧ sV 4 (sI S 135 (6 * k + 1)) (sI m 94 k) ∧ sV 4 (sI S 135 (6 * k + 2)) (sI m 95 k) ∧ sV 16 (sI S 135 (6 * k + 3)) (sI m 96 k) ∧ sI S 135 (6 * k + 4) = sI m 97 k ∧ mi (sI m 97 k)
def lCfa (nc nf : Nat) (S m : AS) : Prop := ∀ k, k < nc → (sI S 135 (6 * k + 5) = 0 ∧ sI m 98 k = -1) ∨ ∃ f, f < nf ∧ sI S 135 (6 * k + 5) = Int32.ofNat (f + 1) ∧ sI m 98 k = Int32.ofNat f
def lFam (nc nf : Nat) (S m : AS) : Prop := ∀ i, i < nf → sV nc (sI S 136 (5 * i)) (sI m 99 i)
def lNum (nf nt : Nat) (S m : AS) : Prop := ∀ i, i < nf → sV nt (sI S 136 (5 * i + 1)) (sI m 100 i) ∧ (sI S 136 (5 * i + 2) = sI m 101 i ∧ mi (sI m 101 i)) ∧ sI S 136 (5 * i + 3) = sI m 102 i
def lGod (nf : Nat) (S m : AS) : Prop := ∀ i, i < nf → sI S 136 (5 * i + 4) = sI m 103 i ∧ q01 (sI m 103 i)
def lTok (nf nk nt : Nat) (S m : AS) : Prop := ∀ i, i < nt → (∃ cl au ac sc, cl < 4 ∧ au < 4 ∧ ac < 4 ∧ sc < 16 ∧ sI S 137 (3 * i) = Int32.ofNat (cl + 10 * au + 100 * ac + 1000 * sc) ∧ sI m 104 i = Int32.ofNat cl ∧ sI m 105 i = Int32.ofNat au ∧ sI m 107 i = Int32.ofNat ac ∧ sI m 106 i = Int32.ofNat sc) ∧
  (∃ fa ke, fa < nf ∧ ke < nk ∧ sI S 137 (3 * i + 1) = Int32.ofNat (fa + 100 * ke) ∧ sI m 108 i = Int32.ofNat fa ∧ sI m 109 i = Int32.ofNat ke) ∧ sI S 137 (3 * i + 2) = sI m 110 i ∧ 0 ≤ (sI m 110 i).toInt ∧ (sI m 110 i).toInt ≤ 30010
def lKey (nk : Nat) (S m : AS) : Prop := sV nk (sI S 127 6) (sI m 57 61) ∧ ((sI S 127 7 = 0 ∧ sI m 57 62 = -1) ∨ ∃ w, w < nk ∧ sI S 127 7 = Int32.ofNat (w + 1) ∧ sI m 57 62 = Int32.ofNat w ∧ sI S 127 8 = sI m 57 63 ∧ (sI m 57 0).toInt < (sI m 57 63).toInt ∧ (sI m 57 63).toInt ≤ 30010)
def lOut (S m : AS) : Prop := ∀ i, i < 10 → (sI S 138 (2 * i) = sI m 111 i ∧ q01 (sI m 111 i)) ∧ ((sI S 138 (2 * i + 1) = 0 ∧ sI m 112 i = -1) ∨ (sI S 138 (2 * i + 1) = sI m 112 i ∧ 0 < (sI m 112 i).toInt))
def lSrv (S m : AS) : Prop := ∀ s, s < 4 → (sI S 139 (4 * s) = sI m 113 s ∧ q01 (sI m 113 s)) ∧ sI S 139 (4 * s + 1) = sI m 114 s ∧ sI S 139 (4 * s + 2) = sI m 115 s ∧ mi (sI m 115 s)
def lTol (nf : Nat) (S m : AS) : Prop := ∀ s, s < 4 → (∀ f, f < 10 → (bt (sI S 139 (4 * s + 3)) f = true ↔ sI m 116 (60 * s + f) = 1) ∧ q01 (sI m 116 (60 * s + f))) ∧ (∀ f, nf ≤ f → f < 10 → sI m 116 (60 * s + f) = 0) ∧ ∀ f, f < nf → sI m 103 f = 1 → sI m 116 (60 * s + f) = 0
def lCon (S m : AS) : Prop := ∀ c, c < 4 → (∀ p, p < 3 → sV 16 (sI S 140 (4 * p + c)) (sI m 91 (4 * p + c))) ∧ sV 16 (sI S 140 (12 + c)) (sI m 91 (24 + c)) ∧ sV 7 (sI S 140 (16 + c)) (sI m 92 c)
def lFac (S m : AS) : Prop := ∀ p, p < 3 → (∀ f, f < 3 → sV 3 (sI S 129 (12 * p + f)) (sI m 58 (3 * p + f)) ∧ sI S 129 (12 * p + f + 3) = sI m 59 (3 * p + f)) ∧ sI S 129 (12 * p + 6) = sI m 60 p
def lWrg (S m : AS) : Prop := ∀ p, p < 3 → ∀ k, k < 3 → (sI S 129 (12 * p + 7 + k) = 0 ∧ sI m 61 (3 * p + k) = -1000) ∨ (sI S 129 (12 * p + 7 + k) = sI m 61 (3 * p + k) + 1 ∧ mi (sI m 61 (3 * p + k)))
def lKn (S m : AS) : Prop := ∀ p, p < 3 → ∀ d, d < 3 → ((bt (sI S 129 (12 * p + 10)) d = true ↔ sI m 62 (6 * p + d) = 1) ∧ q01 (sI m 62 (6 * p + d))) ∧ (bt (sI S 129 (12 * p + 11)) d = true ↔ sI m 63 (6 * p + d) = 1) ∧ q01 (sI m 63 (6 * p + d))
def lHlp (S m : AS) : Prop := ∀ p, p < 3 → (bt (sI S 127 13) p = true ↔ sI m 65 p = 1) ∧ q01 (sI m 65 p) ∧ sI m 64 p = 0
def lAtt (na : Nat) (S m : AS) : Prop := ∀ i, i < na → sV 3 (sI S 130 (6 * i)) (sI m 75 i) ∧ sV 3 (sI S 130 (6 * i + 1)) (sI m 76 i) ∧ sV 3 (sI S 130 (6 * i + 2)) (sI m 77 i) ∧ sI m 78 i = 0
def lAs1 (ns : Nat) (S m : AS) (i : Nat) : Prop := sI S 130 (6 * i + 4) = sI m 80 i ∧ sV 13 (sI S 131 (2 * i)) (sI m 82 i) ∧
  ((sI m 80 i = 0 ∧ (∃ k, k < 7 ∧ sI S 130 (6 * i + 3) = Int32.ofNat k ∧ sI m 79 i = Int32.ofNat k ∧ sI m 67 k = 0) ∧ sV 4 (sI S 130 (6 * i + 5)) (sI m 81 i) ∧ sI m 83 i = -1) ∨ (sI m 80 i = 1 ∧ ∃ s, s < ns ∧ sI S 131 (2 * i + 1) = Int32.ofNat (s + 1) ∧ sI m 83 i = Int32.ofNat s) ∨ (sI m 80 i = 2 ∧ sI m 83 i = -1))
def lAst (ns na : Nat) (S m : AS) : Prop := ∀ i, i < na → lAs1 ns S m i
def lAsh (na : Nat) (S m : AS) : Prop := ∀ i, i < na → ∀ f, f < 3 → sI S 132 (3 * i + f) = sI m 84 (3 * i + f) ∧ mok (sI m 84 (3 * i + f))
/-- a step's next one -/
def qnx (v : Int32) : Prop := v = -1 ∨ ∃ k, k < 7 ∧ v = Int32.ofNat k
def lFlo (S m : AS) : Prop := sI m 57 9 = 1 ∧ ∀ k, k < 7 → ∃ kd a, kd < 7 ∧ a < 7 ∧ (kd = 0 ∨ kd = 3 → a < 3) ∧ sI S 128 (5 * k) = Int32.ofNat kd ∧ sI m 67 k = Int32.ofNat kd ∧ sI S 128 (5 * k + 1) = Int32.ofNat a ∧ sI m 68 k = Int32.ofNat a ∧ (sI S 128 (5 * k + 2) = sI m 69 k ∧ (kd = 0 → 1 ≤ (sI m 69 k).toInt ∧ (sI m 69 k).toInt ≤ 3)) ∧ (sI S 128 (5 * k + 3) = sI m 70 k ∧ qnx (sI m 70 k)) ∧ sI S 128 (5 * k + 4) = sI m 71 k ∧ qnx (sI m 71 k)
/-- all of it -/
def LW (ns nc nf nt nk na : Nat) (S m : AS) : Prop :=
  (lSz 1 30 14 ns S m ∧ lSz 2 39 10 nc S m ∧ lSz 3 46 10 nf S m ∧ lSz 4 52 20 nt S m ∧ lSz 5 60 10 nk S m ∧ lSz 11 19 10 na S m) ∧
  (lNow S m ∧ lAud S m ∧ lKey nk S m ∧ lHlp S m) ∧ lFlo S m ∧ (lFac S m ∧ lWrg S m ∧ lKn S m) ∧ (lAtt na S m ∧ lAst ns na S m ∧ lAsh na S m) ∧ (lSp ns S m ∧ lUsd ns S m ∧ lLiv ns S m ∧ lSsh ns S m) ∧
  (lCod ns nc S m ∧ lCfa nc nf S m ∧ lFam nc nf S m ∧ lNum nf nt S m ∧ lGod nf S m) ∧ lTok nf nk nt S m ∧ lOut S m ∧ (lSrv S m ∧ lTol nf S m) ∧ lCon S m
