section
/-! ===== each component rests on its cells ===== -/
def ZZ (S m : AS) : Prop := SZ 17 9 8 S m ∧ SZ 18 19 60 S m ∧ SZ 19 30 60 S m ∧ SZ 22 39 60 S m ∧ SZ 23 46 60 S m ∧ SZ 24 52 200 S m ∧ SZ 27 70 20 S m
/-- the types of places, that of the weights' row included -/
def TV (T : Nat → Nat) (S : AS) : Prop := TI T S ∧ T 1 = 52
def BB (T Tm : Nat → Nat) (S m : AS) : Prop := TV T S ∧ PF S ∧ TI Tm m ∧ ZZ S m
theorem SZ_lt {l j b i : Nat} {S m : AS} (h : SZ l j b S m) (hb : b ≤ 200) (hi : i < nn (sI m 57 j)) : (i : Int) < (sI S l 2).toInt := by
  rw [h.2.2, h.2.1, oi (by have := h.1; omega)]
  omega
section
variable {T T' Tm Tm' : Nat → Nat} {S S' m m' : AS} {cs ds : List Nat}
theorem zV (b : BB T Tm S m) : SZ 17 9 8 S m := b.2.2.2.1
theorem tyV (b : BB T Tm S m) {i : Nat} (hi : i < nV m) : T (lel S 17 i) = 40 := (lel_at b.1.1 (q := 0) (by decide) (SZ_lt (zV b) (by decide) hi)).1
theorem atV (b : BB T Tm S m) {i : Nat} (hi : i < nV m) : sR S ((sR S 17 1).getD 0) i = some (lel S 17 i) := (lel_at b.1.1 (q := 0) (by decide) (SZ_lt (zV b) (by decide) hi)).2
theorem lV (b : BB T Tm S m) (k : Kp T T' cs S S') (h1 : 52001 ∈ cs) (h2 : 53000 ∈ cs) {i : Nat} (hi : i < nV m) : lel S' 17 i = lel S 17 i := k.L b.1.1 (q := 0) (by decide) (by rw [show cr (20 + 0) 1 = 52001 by decide]; exact h1) (by rw [show cr (30 + 0) 0 = 53000 by decide]; exact h2) (SZ_lt (zV b) (by decide) hi)
theorem eqV (b : BB T Tm S m) (q : Kp Tm Tm' ds m m') (h : 10009 ∈ ds) : sI m' 57 9 = sI m 57 9 := q.F b.2.2.1 (by rw [show cl 100 9 = 10009 by decide]; exact h)
theorem enV (b : BB T Tm S m) (q : Kp Tm Tm' ds m m') (h : 10009 ∈ ds) : nV m' = nV m := by
  unfold nV
  rw [eqV b q h]
theorem fzV (b : BB T Tm S m) (k : Kp T T' cs S S') (q : Kp Tm Tm' ds m m') (h1 : 2002 ∈ cs) (h2 : 10009 ∈ ds) : SZ 17 9 8 S' m' := by
  unfold SZ
  rw [eqV b q h2, k.O (k := 17) (j := 2) (b.1.1.t6 0 (by decide)).1 (by decide) (by rw [show cl (20 + 0) 2 = 2002 by decide]; exact h1)]
  exact zV b
theorem zA (b : BB T Tm S m) : SZ 18 19 60 S m := b.2.2.2.2.1
theorem tyA (b : BB T Tm S m) {i : Nat} (hi : i < uA m) : T (lel S 18 i) = 42 := (lel_at b.1.1 (q := 1) (by decide) (SZ_lt (zA b) (by decide) hi)).1
theorem atA (b : BB T Tm S m) {i : Nat} (hi : i < uA m) : sR S ((sR S 18 1).getD 0) i = some (lel S 18 i) := (lel_at b.1.1 (q := 1) (by decide) (SZ_lt (zA b) (by decide) hi)).2
theorem lA (b : BB T Tm S m) (k : Kp T T' cs S S') (h1 : 52101 ∈ cs) (h2 : 53100 ∈ cs) {i : Nat} (hi : i < uA m) : lel S' 18 i = lel S 18 i := k.L b.1.1 (q := 1) (by decide) (by rw [show cr (20 + 1) 1 = 52101 by decide]; exact h1) (by rw [show cr (30 + 1) 0 = 53100 by decide]; exact h2) (SZ_lt (zA b) (by decide) hi)
theorem eqA (b : BB T Tm S m) (q : Kp Tm Tm' ds m m') (h : 10019 ∈ ds) : sI m' 57 19 = sI m 57 19 := q.F b.2.2.1 (by rw [show cl 100 19 = 10019 by decide]; exact h)
theorem enA (b : BB T Tm S m) (q : Kp Tm Tm' ds m m') (h : 10019 ∈ ds) : uA m' = uA m := by
  unfold uA
  rw [eqA b q h]
theorem fzA (b : BB T Tm S m) (k : Kp T T' cs S S') (q : Kp Tm Tm' ds m m') (h1 : 2102 ∈ cs) (h2 : 10019 ∈ ds) : SZ 18 19 60 S' m' := by
  unfold SZ
  rw [eqA b q h2, k.O (k := 18) (j := 2) (b.1.1.t6 1 (by decide)).1 (by decide) (by rw [show cl (20 + 1) 2 = 2102 by decide]; exact h1)]
  exact zA b
theorem zS (b : BB T Tm S m) : SZ 19 30 60 S m := b.2.2.2.2.2.1
theorem tyS (b : BB T Tm S m) {i : Nat} (hi : i < nS m) : T (lel S 19 i) = 43 := (lel_at b.1.1 (q := 2) (by decide) (SZ_lt (zS b) (by decide) hi)).1
theorem atS (b : BB T Tm S m) {i : Nat} (hi : i < nS m) : sR S ((sR S 19 1).getD 0) i = some (lel S 19 i) := (lel_at b.1.1 (q := 2) (by decide) (SZ_lt (zS b) (by decide) hi)).2
theorem lS (b : BB T Tm S m) (k : Kp T T' cs S S') (h1 : 52201 ∈ cs) (h2 : 53200 ∈ cs) {i : Nat} (hi : i < nS m) : lel S' 19 i = lel S 19 i := k.L b.1.1 (q := 2) (by decide) (by rw [show cr (20 + 2) 1 = 52201 by decide]; exact h1) (by rw [show cr (30 + 2) 0 = 53200 by decide]; exact h2) (SZ_lt (zS b) (by decide) hi)
theorem eqS (b : BB T Tm S m) (q : Kp Tm Tm' ds m m') (h : 10030 ∈ ds) : sI m' 57 30 = sI m 57 30 := q.F b.2.2.1 (by rw [show cl 100 30 = 10030 by decide]; exact h)
theorem enS (b : BB T Tm S m) (q : Kp Tm Tm' ds m m') (h : 10030 ∈ ds) : nS m' = nS m := by
  unfold nS
  rw [eqS b q h]
theorem fzS (b : BB T Tm S m) (k : Kp T T' cs S S') (q : Kp Tm Tm' ds m m') (h1 : 2202 ∈ cs) (h2 : 10030 ∈ ds) : SZ 19 30 60 S' m' := by
  unfold SZ
  rw [eqS b q h2, k.O (k := 19) (j := 2) (b.1.1.t6 2 (by decide)).1 (by decide) (by rw [show cl (20 + 2) 2 = 2202 by decide]; exact h1)]
  exact zS b
theorem zC (b : BB T Tm S m) : SZ 22 39 60 S m := b.2.2.2.2.2.2.1
theorem tyC (b : BB T Tm S m) {i : Nat} (hi : i < nC m) : T (lel S 22 i) = 44 := (lel_at b.1.1 (q := 3) (by decide) (SZ_lt (zC b) (by decide) hi)).1
theorem atC (b : BB T Tm S m) {i : Nat} (hi : i < nC m) : sR S ((sR S 22 1).getD 0) i = some (lel S 22 i) := (lel_at b.1.1 (q := 3) (by decide) (SZ_lt (zC b) (by decide) hi)).2
theorem lC (b : BB T Tm S m) (k : Kp T T' cs S S') (h1 : 52301 ∈ cs) (h2 : 53300 ∈ cs) {i : Nat} (hi : i < nC m) : lel S' 22 i = lel S 22 i := k.L b.1.1 (q := 3) (by decide) (by rw [show cr (20 + 3) 1 = 52301 by decide]; exact h1) (by rw [show cr (30 + 3) 0 = 53300 by decide]; exact h2) (SZ_lt (zC b) (by decide) hi)
theorem eqC (b : BB T Tm S m) (q : Kp Tm Tm' ds m m') (h : 10039 ∈ ds) : sI m' 57 39 = sI m 57 39 := q.F b.2.2.1 (by rw [show cl 100 39 = 10039 by decide]; exact h)
theorem enC (b : BB T Tm S m) (q : Kp Tm Tm' ds m m') (h : 10039 ∈ ds) : nC m' = nC m := by
  unfold nC
  rw [eqC b q h]
theorem fzC (b : BB T Tm S m) (k : Kp T T' cs S S') (q : Kp Tm Tm' ds m m') (h1 : 2302 ∈ cs) (h2 : 10039 ∈ ds) : SZ 22 39 60 S' m' := by
  unfold SZ
  rw [eqC b q h2, k.O (k := 22) (j := 2) (b.1.1.t6 3 (by decide)).1 (by decide) (by rw [show cl (20 + 3) 2 = 2302 by decide]; exact h1)]
  exact zC b
theorem zF (b : BB T Tm S m) : SZ 23 46 60 S m := b.2.2.2.2.2.2.2.1
theorem tyF (b : BB T Tm S m) {i : Nat} (hi : i < nF m) : T (lel S 23 i) = 44 := (lel_at b.1.1 (q := 4) (by decide) (SZ_lt (zF b) (by decide) hi)).1
theorem atF (b : BB T Tm S m) {i : Nat} (hi : i < nF m) : sR S ((sR S 23 1).getD 0) i = some (lel S 23 i) := (lel_at b.1.1 (q := 4) (by decide) (SZ_lt (zF b) (by decide) hi)).2
theorem lF (b : BB T Tm S m) (k : Kp T T' cs S S') (h1 : 52401 ∈ cs) (h2 : 53400 ∈ cs) {i : Nat} (hi : i < nF m) : lel S' 23 i = lel S 23 i := k.L b.1.1 (q := 4) (by decide) (by rw [show cr (20 + 4) 1 = 52401 by decide]; exact h1) (by rw [show cr (30 + 4) 0 = 53400 by decide]; exact h2) (SZ_lt (zF b) (by decide) hi)
theorem eqF (b : BB T Tm S m) (q : Kp Tm Tm' ds m m') (h : 10046 ∈ ds) : sI m' 57 46 = sI m 57 46 := q.F b.2.2.1 (by rw [show cl 100 46 = 10046 by decide]; exact h)
theorem enF (b : BB T Tm S m) (q : Kp Tm Tm' ds m m') (h : 10046 ∈ ds) : nF m' = nF m := by
  unfold nF
  rw [eqF b q h]
theorem fzF (b : BB T Tm S m) (k : Kp T T' cs S S') (q : Kp Tm Tm' ds m m') (h1 : 2402 ∈ cs) (h2 : 10046 ∈ ds) : SZ 23 46 60 S' m' := by
  unfold SZ
  rw [eqF b q h2, k.O (k := 23) (j := 2) (b.1.1.t6 4 (by decide)).1 (by decide) (by rw [show cl (20 + 4) 2 = 2402 by decide]; exact h1)]
  exact zF b
theorem zT (b : BB T Tm S m) : SZ 24 52 200 S m := b.2.2.2.2.2.2.2.2.1
theorem tyT (b : BB T Tm S m) {i : Nat} (hi : i < nT m) : T (lel S 24 i) = 45 := (lel_at b.1.1 (q := 5) (by decide) (SZ_lt (zT b) (by decide) hi)).1
theorem atT (b : BB T Tm S m) {i : Nat} (hi : i < nT m) : sR S ((sR S 24 1).getD 0) i = some (lel S 24 i) := (lel_at b.1.1 (q := 5) (by decide) (SZ_lt (zT b) (by decide) hi)).2
theorem lT (b : BB T Tm S m) (k : Kp T T' cs S S') (h1 : 52501 ∈ cs) (h2 : 53500 ∈ cs) {i : Nat} (hi : i < nT m) : lel S' 24 i = lel S 24 i := k.L b.1.1 (q := 5) (by decide) (by rw [show cr (20 + 5) 1 = 52501 by decide]; exact h1) (by rw [show cr (30 + 5) 0 = 53500 by decide]; exact h2) (SZ_lt (zT b) (by decide) hi)
theorem eqT (b : BB T Tm S m) (q : Kp Tm Tm' ds m m') (h : 10052 ∈ ds) : sI m' 57 52 = sI m 57 52 := q.F b.2.2.1 (by rw [show cl 100 52 = 10052 by decide]; exact h)
theorem enT (b : BB T Tm S m) (q : Kp Tm Tm' ds m m') (h : 10052 ∈ ds) : nT m' = nT m := by
  unfold nT
  rw [eqT b q h]
theorem fzT (b : BB T Tm S m) (k : Kp T T' cs S S') (q : Kp Tm Tm' ds m m') (h1 : 2502 ∈ cs) (h2 : 10052 ∈ ds) : SZ 24 52 200 S' m' := by
  unfold SZ
  rw [eqT b q h2, k.O (k := 24) (j := 2) (b.1.1.t6 5 (by decide)).1 (by decide) (by rw [show cl (20 + 5) 2 = 2502 by decide]; exact h1)]
  exact zT b
theorem zR (b : BB T Tm S m) : SZ 27 70 20 S m := b.2.2.2.2.2.2.2.2.2
theorem tyR (b : BB T Tm S m) {i : Nat} (hi : i < nR m) : T (lel S 27 i) = 46 := (lel_at b.1.1 (q := 6) (by decide) (SZ_lt (zR b) (by decide) hi)).1
theorem atR (b : BB T Tm S m) {i : Nat} (hi : i < nR m) : sR S ((sR S 27 1).getD 0) i = some (lel S 27 i) := (lel_at b.1.1 (q := 6) (by decide) (SZ_lt (zR b) (by decide) hi)).2
theorem lR (b : BB T Tm S m) (k : Kp T T' cs S S') (h1 : 52601 ∈ cs) (h2 : 53600 ∈ cs) {i : Nat} (hi : i < nR m) : lel S' 27 i = lel S 27 i := k.L b.1.1 (q := 6) (by decide) (by rw [show cr (20 + 6) 1 = 52601 by decide]; exact h1) (by rw [show cr (30 + 6) 0 = 53600 by decide]; exact h2) (SZ_lt (zR b) (by decide) hi)
theorem eqR (b : BB T Tm S m) (q : Kp Tm Tm' ds m m') (h : 10070 ∈ ds) : sI m' 57 70 = sI m 57 70 := q.F b.2.2.1 (by rw [show cl 100 70 = 10070 by decide]; exact h)
theorem enR (b : BB T Tm S m) (q : Kp Tm Tm' ds m m') (h : 10070 ∈ ds) : nR m' = nR m := by
  unfold nR
  rw [eqR b q h]
theorem fzR (b : BB T Tm S m) (k : Kp T T' cs S S') (q : Kp Tm Tm' ds m m') (h1 : 2602 ∈ cs) (h2 : 10070 ∈ ds) : SZ 27 70 20 S' m' := by
  unfold SZ
  rw [eqR b q h2, k.O (k := 27) (j := 2) (b.1.1.t6 6 (by decide)).1 (by decide) (by rw [show cl (20 + 6) 2 = 2602 by decide]; exact h1)]
  exact zR b
/-- the minutes' rows -/
theorem tyM {p j τ : Nat} (hT : TI T S) (hp : T p = τ) (h : ft τ j = some 47) : ∃ x, sR S p j = some x ∧ T x = 47 ∧ sR S x 0 = some (mn S p j) ∧ T (mn S p j) = 48 := by
  obtain ⟨x, e, h1, h2⟩ := hT.t2 p j 47 (by rw [hp]; exact h)
  obtain ⟨y, e', g1, g2⟩ := hT.t2 x 0 48 (by rw [h1]; rfl)
  have : mn S p j = y := by
    unfold mn
    rw [e]
    show (sR S x 0).getD 0 = y
    rw [e']
    rfl
  exact ⟨x, e, h1, by rw [this]; exact e', by rw [this]; exact g1⟩
theorem mn_k {p j τ : Nat} (hT : TI T S) (hp : T p = τ) (h0 : τ ≠ 0) (h : ft τ j = some 47) (k : Kp T T' cs S S') (h1 : cr τ j ∈ cs) (h2 : 54700 ∈ cs) : mn S' p j = mn S p j := by
  obtain ⟨x, e, h3, -⟩ := tyM hT hp h
  unfold mn
  rw [k.R hp h0 h1, e]
  show (sR S' x 0).getD 0 = (sR S x 0).getD 0
  rw [k.R (j := 0) h3 (by decide) (by rw [show cr 47 0 = 54700 by decide]; exact h2)]
/-- the flows' rows -/
theorem tyW {p j : Nat} (hT : TI T S) (hp : T p = 40) (hj : j < 5) : sR S p j = some (fa S p j) ∧ T (fa S p j) = 41 := by
  obtain ⟨y, e', g1, g2⟩ := hT.t2 p j 41 (by
    rw [hp]
    match j, hj with
    | 0, _ => rfl
    | 1, _ => rfl
    | 2, _ => rfl
    | 3, _ => rfl
    | 4, _ => rfl)
  unfold fa
  rw [e']
  exact ⟨rfl, g1⟩
theorem fa_k {p j : Nat} (hp : T p = 40) (hj : j < 5) (k : Kp T T' cs S S') (h : 54000 ∈ cs ∧ 54001 ∈ cs ∧ 54002 ∈ cs ∧ 54003 ∈ cs ∧ 54004 ∈ cs) : fa S' p j = fa S p j := by
  unfold fa
  rw [k.R (j := j) hp (by decide) (by
    obtain ⟨h0, h1, h2, h3, h4⟩ := h
    match j, hj with
    | 0, _ => exact h0
    | 1, _ => exact h1
    | 2, _ => exact h2
    | 3, _ => exact h3
    | 4, _ => exact h4)]
theorem tyD (hT : TI T S) : sR S 4 5 = some (fa S 4 5) ∧ T (fa S 4 5) = 40 := by
  obtain ⟨y, e', g1, g2⟩ := hT.t2 4 5 40 (by rw [(kt4 hT).1]; rfl)
  unfold fa
  rw [e']
  exact ⟨rfl, g1⟩
theorem faD_k (hT : TI T S) (k : Kp T T' cs S S') (h : 50105 ∈ cs) : fa S' 4 5 = fa S 4 5 := by
  unfold fa
  rw [k.R (j := 5) (kt4 hT).1 (by decide) (by rw [show cr 1 5 = 50105 by decide]; exact h)]
def k_cNW : List Nat := [100]
def m_cNW : List Nat := [10000]
theorem cNW_fr (b : BB T Tm S m) (h : cNW S m) (k : Kp T T' k_cNW S S') (q : Kp Tm Tm' m_cNW m m') : cNW S' m' := by
  unfold cNW at *
  rw [k.O (j := 0) (kt4 b.1.1).1 (by decide) (by decide), q.F (j := 0) b.2.2.1 (by decide)]
  exact h
def k_cPF : List Nat := [50500, 51301, 51302, 51309, 1300, 50900]
def m_cPF : List Nat := []
theorem cPF_fr (b : BB T Tm S m) (h : cPF S m) (k : Kp T T' k_cPF S S') (q : Kp Tm Tm' m_cPF m m') : cPF S' m' := by
  refine ⟨fun i hi => ?_, fun i hi => ?_⟩
  · obtain ⟨t1, -⟩ := kt_P b.1.1 b.2.1 hi
    rw [k.AR (kt4 b.1.1).2.2.2.2.1 (by decide) (by decide), k.R (j := 1) t1 (by decide) (by decide), k.R (j := 2) t1 (by decide) (by decide), k.R (j := 9) t1 (by decide) (by decide), k.O (j := 0) t1 (by decide) (by decide)]
    exact h.1 i hi
  · rw [k.AR (kt4 b.1.1).2.2.2.2.2.2.2.2.1 (by decide) (by decide)]
    exact h.2 i hi
def k_cWgt : List Nat := [5200, 5201, 5202]
def m_cWgt : List Nat := []
theorem cWgt_fr (b : BB T Tm S m) (h : cWgt S m) (k : Kp T T' k_cWgt S S') (q : Kp Tm Tm' m_cWgt m m') : cWgt S' m' := by
  unfold cWgt at *
  rw [k.O (j := 0) b.1.2 (by decide) (by decide), k.O (j := 1) b.1.2 (by decide) (by decide), k.O (j := 2) b.1.2 (by decide) (by decide)]
  exact h
def k_cFac : List Nat := [1400, 1500, 1303]
def m_cFac : List Nat := [10100, 10200, 10300]
theorem cFac_fr (b : BB T Tm S m) (h : cFac S m) (k : Kp T T' k_cFac S S') (q : Kp Tm Tm' m_cFac m m') : cFac S' m' := by
  intro i hi
  obtain ⟨t1, t2, t3, t4⟩ := kt_P b.1.1 b.2.1 hi
  refine ⟨fun f hf => ?_, ?_⟩
  · rw [k.A t2 (by decide) (by decide), k.A t3 (by decide) (by decide), q.M b.2.2.1 (j := 1) (p := 58) rfl (by decide) (by decide), q.M b.2.2.1 (j := 2) (p := 59) rfl (by decide) (by decide)]
    exact (h i hi).1 f hf
  · rw [k.O (j := 3) t1 (by decide) (by decide), q.M b.2.2.1 (j := 3) (p := 60) rfl (by decide) (by decide)]
    exact (h i hi).2
def k_cWrg : List Nat := [1304, 1305, 1306]
def m_cWrg : List Nat := [10400]
theorem cWrg_fr (b : BB T Tm S m) (h : cWrg S m) (k : Kp T T' k_cWrg S S') (q : Kp Tm Tm' m_cWrg m m') : cWrg S' m' := by
  intro i hi
  obtain ⟨t1, -⟩ := kt_P b.1.1 b.2.1 hi
  rw [k.O (j := 4) t1 (by decide) (by decide), k.O (j := 5) t1 (by decide) (by decide), k.O (j := 6) t1 (by decide) (by decide), q.M b.2.2.1 (j := 4) (p := 61) rfl (by decide) (by decide), q.M b.2.2.1 (j := 4) (p := 61) rfl (by decide) (by decide), q.M b.2.2.1 (j := 4) (p := 61) rfl (by decide) (by decide)]
  exact h i hi
def k_cKn : List Nat := [1307, 1308]
def m_cKn : List Nat := [10500, 10600]
theorem cKn_fr (b : BB T Tm S m) (h : cKn S m) (k : Kp T T' k_cKn S S') (q : Kp Tm Tm' m_cKn m m') : cKn S' m' := by
  intro i hi d hd
  obtain ⟨t1, -⟩ := kt_P b.1.1 b.2.1 hi
  rw [k.O (j := 7) t1 (by decide) (by decide), k.O (j := 8) t1 (by decide) (by decide), q.M b.2.2.1 (j := 5) (p := 62) rfl (by decide) (by decide), q.M b.2.2.1 (j := 6) (p := 63) rfl (by decide) (by decide)]
  exact h i hi d hd
def k_cCon : List Nat := [1600, 800]
def m_cCon : List Nat := [13700]
theorem cCon_fr (b : BB T Tm S m) (h : cCon S m) (k : Kp T T' k_cCon S S') (q : Kp Tm Tm' m_cCon m m') : cCon S' m' := by
  intro c hc
  refine ⟨fun i hi => ?_, ?_⟩
  · rw [k.A (kt_P b.1.1 b.2.1 hi).2.2.2 (by decide) (by decide), q.M b.2.2.1 (j := 37) (p := 91) rfl (by decide) (by decide)]
    exact (h c hc).1 i hi
  · rw [k.A (kt4 b.1.1).2.2.2.2.2.2.2.1 (by decide) (by decide), q.M b.2.2.1 (j := 37) (p := 91) rfl (by decide) (by decide)]
    exact (h c hc).2
def k_cHlp : List Nat := [1310]
def m_cHlp : List Nat := [10800]
theorem cHlp_fr (b : BB T Tm S m) (h : cHlp S m) (k : Kp T T' k_cHlp S S') (q : Kp Tm Tm' m_cHlp m m') : cHlp S' m' := by
  intro i hi
  rw [k.O (j := 10) (kt_P b.1.1 b.2.1 hi).1 (by decide) (by decide), q.M b.2.2.1 (j := 8) (p := 65) rfl (by decide) (by decide)]
  exact h i hi
def k_cAwy : List Nat := [1311]
def m_cAwy : List Nat := [10700]
theorem cAwy_fr (b : BB T Tm S m) (h : cAwy S m) (k : Kp T T' k_cAwy S S') (q : Kp Tm Tm' m_cAwy m m') : cAwy S' m' := by
  intro i hi
  rw [k.O (j := 11) (kt_P b.1.1 b.2.1 hi).1 (by decide) (by decide), q.M b.2.2.1 (j := 7) (p := 64) rfl (by decide) (by decide)]
  exact h i hi
def k_cPts : List Nat := [600, 700]
def m_cPts : List Nat := [11700, 11800]
theorem cPts_fr (b : BB T Tm S m) (h : cPts S m) (k : Kp T T' k_cPts S S') (q : Kp Tm Tm' m_cPts m m') : cPts S' m' := by
  intro i hi
  obtain ⟨-, -, -, -, -, t9, t10, -⟩ := kt4 b.1.1
  rw [k.A t9 (by decide) (by decide), k.A t10 (by decide) (by decide), q.M b.2.2.1 (j := 17) (p := 73) rfl (by decide) (by decide), q.M b.2.2.1 (j := 18) (p := 74) rfl (by decide) (by decide)]
  exact h i hi
def k_cLnk : List Nat := [1200]
def m_cLnk : List Nat := [17600]
theorem cLnk_fr (b : BB T Tm S m) (h : cLnk S m) (k : Kp T T' k_cLnk S S') (q : Kp Tm Tm' m_cLnk m m') : cLnk S' m' := by
  intro i hi
  rw [k.A (kt4 b.1.1).2.2.2.2.2.2.2.2.2.2.2 (by decide) (by decide), q.M b.2.2.1 (j := 76) (p := 122) rfl (by decide) (by decide)]
  exact h i hi
def k_cVer : List Nat := [2002, 52001, 53000, 4005, 4100, 54000, 54001, 54002, 54003, 54004, 50105]
def m_cVer : List Nat := [10009, 11000, 11100, 11200, 11300, 11400, 11500]
theorem cVer_fr (b : BB T Tm S m) (h : cVer S m) (k : Kp T T' k_cVer S S') (q : Kp Tm Tm' m_cVer m m') : cVer S' m' := by
  refine ⟨fzV b k q (by decide) (by decide), fun v hv => ?_⟩
  rw [enV b q (by decide)] at hv
  obtain ⟨h1, h2, h3, h4, h5⟩ := h.2 v hv
  have ev := lV b k (by decide) (by decide) hv
  have tv := tyV b hv
  rw [ev, faD_k b.1.1 k (by decide), q.M b.2.2.1 (j := 10) (p := 66) rfl (by decide) (by decide)]
  refine ⟨?_, fun x hx => ?_, h3, fun j i hj hi => ?_, fun u hu e => ?_⟩
  · obtain ⟨n, g1, g2, g3, g4, g5⟩ := h1
    refine ⟨n, g1, g2, by rw [k.O (j := 5) tv (by decide) (by decide)]; exact g3, by rw [q.M b.2.2.1 (j := 10) (p := 66) rfl (by decide) (by decide)]; exact g4, fun j x hj hx => ?_⟩
    rw [fa_k tv hj k (by decide), k.A (tyW b.1.1 tv hj).2 (by decide) (by decide)]
    have e : sI m' (67 + j) (12 * v + x) = sI m (67 + j) (12 * v + x) := by
      match j, hj with
      | 0, _ => exact q.M b.2.2.1 (j := 11) (p := 67) rfl (by decide) (by decide) _
      | 1, _ => exact q.M b.2.2.1 (j := 12) (p := 68) rfl (by decide) (by decide) _
      | 2, _ => exact q.M b.2.2.1 (j := 13) (p := 69) rfl (by decide) (by decide) _
      | 3, _ => exact q.M b.2.2.1 (j := 14) (p := 70) rfl (by decide) (by decide) _
      | 4, _ => exact q.M b.2.2.1 (j := 15) (p := 71) rfl (by decide) (by decide) _
    rw [e]
    exact g5 j x hj hx
  · rw [q.M b.2.2.1 (j := 11) (p := 67) rfl (by decide) (by decide), q.M b.2.2.1 (j := 13) (p := 69) rfl (by decide) (by decide)]
    exact h2 x hx
  · rw [fa_k tv hj k (by decide), fa_k (tyD b.1.1).2 hi k (by decide)]
    exact h4 j i hj hi
  · rw [enV b q (by decide)] at hu
    rw [lV b k (by decide) (by decide) hu] at e
    exact h5 u hu e
def k_cDrB : List Nat := []
def m_cDrB : List Nat := [11000, 11100, 11300]
theorem cDrB_fr (b : BB T Tm S m) (h : cDrB S m) (k : Kp T T' k_cDrB S S') (q : Kp Tm Tm' m_cDrB m m') : cDrB S' m' := by
  intro x hx
  rw [q.M b.2.2.1 (j := 10) (p := 66) rfl (by decide) (by decide)] at hx
  rw [q.M b.2.2.1 (j := 11) (p := 67) rfl (by decide) (by decide), q.M b.2.2.1 (j := 13) (p := 69) rfl (by decide) (by decide)]
  exact h x hx
def k_cAtt : List Nat := [2102, 52101, 53100, 54200, 4201, 4202, 54203, 54204, 2002, 52001, 53000]
def m_cAtt : List Nat := [10019, 12000, 12100, 12200, 12300, 10009]
theorem cAtt_fr (b : BB T Tm S m) (h : cAtt S m) (k : Kp T T' k_cAtt S S') (q : Kp Tm Tm' m_cAtt m m') : cAtt S' m' := by
  refine ⟨fzA b k q (by decide) (by decide), fun a ha => ?_⟩
  rw [enA b q (by decide)] at ha
  obtain ⟨h1, ⟨i, i1, i2, i3⟩, ⟨d, d1, d2, d3⟩, ⟨p, p1, p2, p3⟩, ⟨v, v1, v2, v3⟩, ⟨x, x1⟩⟩ := h.2 a ha
  have ea := lA b k (by decide) (by decide) ha
  have ta := tyA b ha
  rw [ea, k.R (j := 0) ta (by decide) (by decide), k.O (j := 1) ta (by decide) (by decide), k.O (j := 2) ta (by decide) (by decide), k.R (j := 3) ta (by decide) (by decide), k.R (j := 4) ta (by decide) (by decide), q.M b.2.2.1 (j := 20) (p := 75) rfl (by decide) (by decide), q.M b.2.2.1 (j := 21) (p := 76) rfl (by decide) (by decide), q.M b.2.2.1 (j := 22) (p := 77) rfl (by decide) (by decide), q.M b.2.2.1 (j := 23) (p := 78) rfl (by decide) (by decide)]
  refine ⟨fun c hc e => ?_, ⟨i, i1, i2, i3⟩, ⟨d, d1, d2, d3⟩, ⟨p, p1, p2, p3⟩, ⟨v, by rw [enV b q (by decide)]; exact v1, by rw [lV b k (by decide) (by decide) v1]; exact v2, v3⟩, ⟨x, x1⟩⟩
  rw [enA b q (by decide)] at hc
  rw [lA b k (by decide) (by decide) hc] at e
  exact h1 c hc e
def k_cAst : List Nat := [52101, 53100, 4205, 4206, 4207, 4208, 4209]
def m_cAst : List Nat := [10019, 12300, 12400, 12500, 12600, 12700, 12800, 11300]
theorem cAst_fr (b : BB T Tm S m) (h : cAst S m) (k : Kp T T' k_cAst S S') (q : Kp Tm Tm' m_cAst m m') : cAst S' m' := by
  refine ⟨fun a ha ha2 => ?_, fun a ha => ?_⟩
  · rw [enA b q (by decide)] at ha
    rw [q.M b.2.2.1 (j := 27) (p := 82) rfl (by decide) (by decide)]
    exact h.1 a ha ha2
  · rw [enA b q (by decide)] at ha
    have ta := tyA b ha
    rw [lA b k (by decide) (by decide) ha, k.O (j := 5) ta (by decide) (by decide), k.O (j := 8) ta (by decide) (by decide), k.O (j := 9) ta (by decide) (by decide), k.O (j := 6) ta (by decide) (by decide), k.O (j := 7) ta (by decide) (by decide), q.M b.2.2.1 (j := 23) (p := 78) rfl (by decide) (by decide), q.M b.2.2.1 (j := 24) (p := 79) rfl (by decide) (by decide), q.M b.2.2.1 (j := 25) (p := 80) rfl (by decide) (by decide), q.M b.2.2.1 (j := 26) (p := 81) rfl (by decide) (by decide), q.M b.2.2.1 (j := 27) (p := 82) rfl (by decide) (by decide), q.M b.2.2.1 (j := 28) (p := 83) rfl (by decide) (by decide), q.M b.2.2.1 (j := 13) (p := 69) rfl (by decide) (by decide)]
    exact h.2 a ha
def k_cAsh : List Nat := [52101, 53100, 54204, 54700, 4800]
def m_cAsh : List Nat := [10019, 12900]
theorem cAsh_fr (b : BB T Tm S m) (h : cAsh S m) (k : Kp T T' k_cAsh S S') (q : Kp Tm Tm' m_cAsh m m') : cAsh S' m' := by
  intro a ha f hf
  rw [enA b q (by decide)] at ha
  have ta := tyA b ha
  obtain ⟨x, x1, x2, x3, x4⟩ := tyM b.1.1 ta (j := 4) rfl
  rw [lA b k (by decide) (by decide) ha, mn_k b.1.1 ta (by decide) rfl k (by decide) (by decide), k.A x4 (by decide) (by decide), q.M b.2.2.1 (j := 29) (p := 84) rfl (by decide) (by decide)]
  exact h a ha f hf
def k_cSes : List Nat := [2202, 52201, 53200, 4300, 54301, 54302, 54303, 4304]
def m_cSes : List Nat := [10030, 13100, 13400, 13200]
theorem cSes_fr (b : BB T Tm S m) (h : cSes S m) (k : Kp T T' k_cSes S S') (q : Kp Tm Tm' m_cSes m m') : cSes S' m' := by
  refine ⟨fzS b k q (by decide) (by decide), fun s hs => ?_⟩
  rw [enS b q (by decide)] at hs
  obtain ⟨h1, ⟨p, p1, p2, p3⟩, h3, ⟨x, x1⟩, h5⟩ := h.2 s hs
  have ts := tyS b hs
  rw [lS b k (by decide) (by decide) hs, k.O (j := 0) ts (by decide) (by decide), k.R (j := 1) ts (by decide) (by decide), k.R (j := 2) ts (by decide) (by decide), k.R (j := 3) ts (by decide) (by decide), k.O (j := 4) ts (by decide) (by decide), q.M b.2.2.1 (j := 31) (p := 85) rfl (by decide) (by decide), q.M b.2.2.1 (j := 34) (p := 88) rfl (by decide) (by decide), q.M b.2.2.1 (j := 32) (p := 86) rfl (by decide) (by decide)]
  refine ⟨h1, ⟨p, p1, p2, p3⟩, ?_, ⟨x, x1⟩, h5⟩
  rcases h3 with h3 | ⟨o, o1, o2, o3⟩
  · exact Or.inl h3
  · exact Or.inr ⟨o, o1, by rw [lS b k (by decide) (by decide) (Nat.lt_trans o1 hs)]; exact o2, o3⟩
def k_cUsd : List Nat := [52201, 53200, 4305]
def m_cUsd : List Nat := [10030, 13300]
theorem cUsd_fr (b : BB T Tm S m) (h : cUsd S m) (k : Kp T T' k_cUsd S S') (q : Kp Tm Tm' m_cUsd m m') : cUsd S' m' := by
  intro s hs
  rw [enS b q (by decide)] at hs
  rw [lS b k (by decide) (by decide) hs, k.O (j := 5) (tyS b hs) (by decide) (by decide), q.M b.2.2.1 (j := 33) (p := 87) rfl (by decide) (by decide)]
  exact h s hs
def k_cLiv : List Nat := [52201, 53200, 4306, 109]
def m_cLiv : List Nat := [10030, 13500]
theorem cLiv_fr (b : BB T Tm S m) (h : cLiv S m) (k : Kp T T' k_cLiv S S') (q : Kp Tm Tm' m_cLiv m m') : cLiv S' m' := by
  have e : sI m' 89 = sI m 89 := funext fun x => q.M b.2.2.1 (j := 35) (p := 89) rfl (by decide) (by decide) x
  refine ⟨fun s hs => ?_, ?_⟩
  · rw [enS b q (by decide)] at hs
    rw [lS b k (by decide) (by decide) hs, k.O (j := 6) (tyS b hs) (by decide) (by decide), e]
    exact h.1 s hs
  · rw [k.O (j := 9) (kt4 b.1.1).1 (by decide) (by decide), e, enS b q (by decide)]
    exact h.2
def k_cSsh : List Nat := [52201, 53200, 54303, 54700, 4800]
def m_cSsh : List Nat := [10030, 13600]
theorem cSsh_fr (b : BB T Tm S m) (h : cSsh S m) (k : Kp T T' k_cSsh S S') (q : Kp Tm Tm' m_cSsh m m') : cSsh S' m' := by
  intro s hs f hf
  rw [enS b q (by decide)] at hs
  have ts := tyS b hs
  obtain ⟨x, x1, x2, x3, x4⟩ := tyM b.1.1 ts (j := 3) rfl
  rw [lS b k (by decide) (by decide) hs, mn_k b.1.1 ts (by decide) rfl k (by decide) (by decide), k.A x4 (by decide) (by decide), q.M b.2.2.1 (j := 36) (p := 90) rfl (by decide) (by decide)]
  exact h s hs f hf
def k_cMin : List Nat := [52101, 53100, 52201, 53200, 54204, 54303, 54700]
def m_cMin : List Nat := [10019, 10030]
theorem cMin_fr (b : BB T Tm S m) (h : cMin S m) (k : Kp T T' k_cMin S S') (q : Kp Tm Tm' m_cMin m m') : cMin S' m' := by
  have ea : ∀ a, a < uA m → mn S' (lel S' 18 a) 4 = mn S (lel S 18 a) 4 := fun a ha => by
    rw [lA b k (by decide) (by decide) ha]
    exact mn_k b.1.1 (tyA b ha) (by decide) rfl k (by decide) (by decide)
  have es : ∀ s, s < nS m → mn S' (lel S' 19 s) 3 = mn S (lel S 19 s) 3 := fun s hs => by
    rw [lS b k (by decide) (by decide) hs]
    exact mn_k b.1.1 (tyS b hs) (by decide) rfl k (by decide) (by decide)
  refine ⟨fun x y hx hy e => ?_, fun x y hx hy e => ?_, fun x y hx hy e => ?_⟩
  · rw [enA b q (by decide)] at hx hy
    rw [ea x hx, ea y hy] at e
    exact h.1 x y hx hy e
  · rw [enS b q (by decide)] at hx hy
    rw [es x hx, es y hy] at e
    exact h.2.1 x y hx hy e
  · rw [enA b q (by decide)] at hx
    rw [enS b q (by decide)] at hy
    rw [ea x hx, es y hy] at e
    exact h.2.2 x y hx hy e
def k_cCod : List Nat := [2302, 52301, 53300, 54400, 4401, 4402, 4403, 4404, 4405, 52201, 53200]
def m_cCod : List Nat := [10039, 14000, 14100, 14200, 14300, 14400, 14500, 10030, 10046]
theorem cCod_fr (b : BB T Tm S m) (h : cCod S m) (k : Kp T T' k_cCod S S') (q : Kp Tm Tm' m_cCod m m') : cCod S' m' := by
  refine ⟨fzC b k q (by decide) (by decide), fun c hc => ?_⟩
  rw [enC b q (by decide)] at hc
  obtain ⟨h1, ⟨s, s1, s2, s3⟩, h3, h4, h5, h6, h7, h8⟩ := h.2 c hc
  have tc := tyC b hc
  rw [lC b k (by decide) (by decide) hc, k.R (j := 0) tc (by decide) (by decide), k.O (j := 1) tc (by decide) (by decide), k.O (j := 2) tc (by decide) (by decide), k.O (j := 3) tc (by decide) (by decide), k.O (j := 4) tc (by decide) (by decide), k.O (j := 5) tc (by decide) (by decide), q.M b.2.2.1 (j := 40) (p := 93) rfl (by decide) (by decide), q.M b.2.2.1 (j := 41) (p := 94) rfl (by decide) (by decide), q.M b.2.2.1 (j := 42) (p := 95) rfl (by decide) (by decide), q.M b.2.2.1 (j := 43) (p := 96) rfl (by decide) (by decide), q.M b.2.2.1 (j := 44) (p := 97) rfl (by decide) (by decide), q.M b.2.2.1 (j := 45) (p := 98) rfl (by decide) (by decide), enS b q (by decide), enF b q (by decide)]
  refine ⟨fun d hd e => ?_, ⟨s, s1, by rw [lS b k (by decide) (by decide) s1]; exact s2, s3⟩, h3, h4, h5, h6, h7, h8⟩
  rw [enC b q (by decide)] at hd
  rw [lC b k (by decide) (by decide) hd] at e
  exact h1 d hd e
def k_cFre : List Nat := [52301, 53300, 4406, 4407, 4410, 4411]
def m_cFre : List Nat := [10039, 14500]
theorem cFre_fr (b : BB T Tm S m) (h : cFre S m) (k : Kp T T' k_cFre S S') (q : Kp Tm Tm' m_cFre m m') : cFre S' m' := by
  intro c hc
  rw [enC b q (by decide)] at hc
  have tc := tyC b hc
  rw [lC b k (by decide) (by decide) hc, k.O (j := 6) tc (by decide) (by decide), k.O (j := 7) tc (by decide) (by decide), k.O (j := 10) tc (by decide) (by decide), k.O (j := 11) tc (by decide) (by decide), q.M b.2.2.1 (j := 45) (p := 98) rfl (by decide) (by decide)]
  exact h c hc
def k_cFam : List Nat := [2402, 52401, 53400, 52301, 53300]
def m_cFam : List Nat := [10046, 10039, 14700, 14500]
theorem cFam_fr (b : BB T Tm S m) (h : cFam S m) (k : Kp T T' k_cFam S S') (q : Kp Tm Tm' m_cFam m m') : cFam S' m' := by
  refine ⟨fzF b k q (by decide) (by decide), fun f hf => ?_⟩
  rw [enF b q (by decide)] at hf
  obtain ⟨c, h1, h2, h3, h4, h5⟩ := h.2 f hf
  refine ⟨c, by rw [enC b q (by decide)]; exact h1, ?_, by rw [q.M b.2.2.1 (j := 47) (p := 99) rfl (by decide) (by decide)]; exact h3, by rw [q.M b.2.2.1 (j := 45) (p := 98) rfl (by decide) (by decide)]; exact h4, fun x hx e => h5 x (by rw [← enC b q (by decide)]; exact hx) (by rw [← q.M b.2.2.1 (j := 45) (p := 98) rfl (by decide) (by decide)]; exact e)⟩
  rw [lF b k (by decide) (by decide) hf, lC b k (by decide) (by decide) h1]
  exact h2
def k_cNum : List Nat := [52401, 53400, 4407, 4408, 4409]
def m_cNum : List Nat := [10046, 14800, 14900, 15000]
theorem cNum_fr (b : BB T Tm S m) (h : cNum S m) (k : Kp T T' k_cNum S S') (q : Kp Tm Tm' m_cNum m m') : cNum S' m' := by
  intro f hf
  rw [enF b q (by decide)] at hf
  have tf := tyF b hf
  rw [lF b k (by decide) (by decide) hf, k.O (j := 7) tf (by decide) (by decide), k.O (j := 8) tf (by decide) (by decide), k.O (j := 9) tf (by decide) (by decide), q.M b.2.2.1 (j := 48) (p := 100) rfl (by decide) (by decide), q.M b.2.2.1 (j := 49) (p := 101) rfl (by decide) (by decide), q.M b.2.2.1 (j := 50) (p := 102) rfl (by decide) (by decide)]
  exact h f hf
def k_cGod : List Nat := [52401, 53400, 4406, 4411]
def m_cGod : List Nat := [10046, 15100, 16900]
theorem cGod_fr (b : BB T Tm S m) (h : cGod S m) (k : Kp T T' k_cGod S S') (q : Kp Tm Tm' m_cGod m m') : cGod S' m' := by
  have e6 : sI m' 116 = sI m 116 := funext fun x => q.M b.2.2.1 (j := 69) (p := 116) rfl (by decide) (by decide) x
  refine ⟨fun x hx => ?_, fun f hf => ?_⟩
  · rw [enF b q (by decide)] at hx
    rw [e6]
    exact h.1 x hx
  · rw [enF b q (by decide)] at hf
    have tf := tyF b hf
    rw [lF b k (by decide) (by decide) hf, k.O (j := 6) tf (by decide) (by decide), k.O (j := 11) tf (by decide) (by decide), q.M b.2.2.1 (j := 51) (p := 103) rfl (by decide) (by decide), e6]
    exact h.2 f hf
def k_cTok : List Nat := [2502, 52501, 53500, 54500, 4501, 4502, 4503, 4504, 4505, 4506, 52401, 53400]
def m_cTok : List Nat := [10052, 15300, 15400, 15500, 15600, 15700, 15800, 15900, 10046]
theorem cTok_fr (b : BB T Tm S m) (h : cTok S m) (k : Kp T T' k_cTok S S') (q : Kp Tm Tm' m_cTok m m') : cTok S' m' := by
  refine ⟨fzT b k q (by decide) (by decide), fun t ht => ?_⟩
  rw [enT b q (by decide)] at ht
  obtain ⟨⟨f, f1, f2, f3⟩, hr⟩ := h.2 t ht
  have tt := tyT b ht
  rw [lT b k (by decide) (by decide) ht, k.R (j := 0) tt (by decide) (by decide), k.O (j := 1) tt (by decide) (by decide), k.O (j := 2) tt (by decide) (by decide), k.O (j := 3) tt (by decide) (by decide), k.O (j := 4) tt (by decide) (by decide), k.O (j := 5) tt (by decide) (by decide), k.O (j := 6) tt (by decide) (by decide), q.M b.2.2.1 (j := 53) (p := 104) rfl (by decide) (by decide), q.M b.2.2.1 (j := 54) (p := 105) rfl (by decide) (by decide), q.M b.2.2.1 (j := 55) (p := 106) rfl (by decide) (by decide), q.M b.2.2.1 (j := 56) (p := 107) rfl (by decide) (by decide), q.M b.2.2.1 (j := 57) (p := 108) rfl (by decide) (by decide), q.M b.2.2.1 (j := 58) (p := 109) rfl (by decide) (by decide), q.M b.2.2.1 (j := 59) (p := 110) rfl (by decide) (by decide)]
  exact ⟨⟨f, by rw [enF b q (by decide)]; exact f1, by rw [lF b k (by decide) (by decide) f1]; exact f2, f3⟩, hr⟩
def k_cAud : List Nat := [52401, 53400, 4410]
def m_cAud : List Nat := [10046, 10052, 15700, 15400]
theorem cAud_fr (b : BB T Tm S m) (h : cAud S m) (k : Kp T T' k_cAud S S') (q : Kp Tm Tm' m_cAud m m') : cAud S' m' := by
  intro f hf v hv
  rw [enF b q (by decide)] at hf
  have e1 : sI m' 108 = sI m 108 := funext fun x => q.M b.2.2.1 (j := 57) (p := 108) rfl (by decide) (by decide) x
  have e2 : sI m' 105 = sI m 105 := funext fun x => q.M b.2.2.1 (j := 54) (p := 105) rfl (by decide) (by decide) x
  rw [lF b k (by decide) (by decide) hf, k.O (j := 10) (tyF b hf) (by decide) (by decide), e1, e2, enT b q (by decide)]
  exact h f hf v hv
def k_cSrv : List Nat := [1701]
def m_cSrv : List Nat := [16600]
theorem cSrv_fr (b : BB T Tm S m) (h : cSrv S m) (k : Kp T T' k_cSrv S S') (q : Kp Tm Tm' m_cSrv m m') : cSrv S' m' := by
  intro v hv
  rw [k.O (j := 1) (kt_S b.1.1 b.2.1 hv) (by decide) (by decide), q.M b.2.2.1 (j := 66) (p := 113) rfl (by decide) (by decide)]
  exact h v hv
def k_cNed : List Nat := [1700]
def m_cNed : List Nat := [13800]
theorem cNed_fr (b : BB T Tm S m) (h : cNed S m) (k : Kp T T' k_cNed S S') (q : Kp Tm Tm' m_cNed m m') : cNed S' m' := by
  intro v hv
  rw [k.O (j := 0) (kt_S b.1.1 b.2.1 hv) (by decide) (by decide), q.M b.2.2.1 (j := 38) (p := 92) rfl (by decide) (by decide)]
  exact h v hv
def k_cChe : List Nat := [1702, 1703]
def m_cChe : List Nat := [16700, 16800]
theorem cChe_fr (b : BB T Tm S m) (h : cChe S m) (k : Kp T T' k_cChe S S') (q : Kp Tm Tm' m_cChe m m') : cChe S' m' := by
  intro v hv
  have t := kt_S b.1.1 b.2.1 hv
  rw [k.O (j := 2) t (by decide) (by decide), k.O (j := 3) t (by decide) (by decide), q.M b.2.2.1 (j := 67) (p := 114) rfl (by decide) (by decide), q.M b.2.2.1 (j := 68) (p := 115) rfl (by decide) (by decide)]
  exact h v hv
def k_cKey : List Nat := [1000, 1001, 1002, 1003, 1004, 1100]
def m_cKey : List Nat := [10000, 10060, 10061, 10062, 10063, 16400, 16500]
theorem cKey_fr (b : BB T Tm S m) (h : cKey S m) (k : Kp T T' k_cKey S S') (q : Kp Tm Tm' m_cKey m m') : cKey S' m' := by
  unfold cKey at *
  obtain ⟨-, -, -, -, -, -, -, -, -, t25, t26, -⟩ := kt4 b.1.1
  obtain ⟨c, g, h1, h2, h3, h4, h5, h6, h7, h8⟩ := h
  have e1 : sI m' 111 = sI m 111 := funext fun x => q.M b.2.2.1 (j := 64) (p := 111) rfl (by decide) (by decide) x
  have e2 : sI m' 112 = sI m 112 := funext fun x => q.M b.2.2.1 (j := 65) (p := 112) rfl (by decide) (by decide) x
  have e3 : ∀ x, sI S' 26 x = sI S 26 x := fun x => k.A t26 (by decide) (by decide) x
  refine ⟨c, g, h1, ?_, ?_, ?_, ?_, fun x hx => ?_, fun x hx => ?_, fun x hx => ?_⟩
  · rw [q.F (j := 60) b.2.2.1 (by decide), q.F (j := 61) b.2.2.1 (by decide)]
    exact h2
  · rw [k.O (j := 0) t25 (by decide) (by decide), k.O (j := 1) t25 (by decide) (by decide), k.O (j := 2) t25 (by decide) (by decide), k.O (j := 3) t25 (by decide) (by decide), q.F (j := 60) b.2.2.1 (by decide), q.F (j := 61) b.2.2.1 (by decide), q.F (j := 62) b.2.2.1 (by decide), q.F (j := 63) b.2.2.1 (by decide)]
    exact h3
  · rw [e2]
    exact h4
  · rw [q.F (j := 62) b.2.2.1 (by decide), e2]
    exact h5
  · rw [e2, e3]
    exact h6 x hx
  · rw [e1, e2]
    exact h7 x hx
  · unfold KP at *
    rw [k.O (j := 4) t25 (by decide) (by decide), q.F (j := 60) b.2.2.1 (by decide), q.F (j := 0) b.2.2.1 (by decide), e1, e2]
    exact h8 x hx
def k_cRec : List Nat := [2602, 52601, 53600, 54600, 4601, 4602, 4603, 4604]
def m_cRec : List Nat := [10070, 17100, 17200, 17300, 17400, 17500]
theorem cRec_fr (b : BB T Tm S m) (h : cRec S m) (k : Kp T T' k_cRec S S') (q : Kp Tm Tm' m_cRec m m') : cRec S' m' := by
  refine ⟨fzR b k q (by decide) (by decide), fun r hr hr2 => ?_, fun r hr => ?_⟩
  · rw [enR b q (by decide)] at hr
    rw [q.M b.2.2.1 (j := 74) (p := 120) rfl (by decide) (by decide), q.M b.2.2.1 (j := 75) (p := 121) rfl (by decide) (by decide)]
    exact h.2.1 r hr hr2
  · rw [enR b q (by decide)] at hr
    have tr := tyR b hr
    obtain ⟨h1, hh⟩ := h.2.2 r hr
    rw [lR b k (by decide) (by decide) hr, k.R (j := 0) tr (by decide) (by decide), k.O (j := 1) tr (by decide) (by decide), k.O (j := 2) tr (by decide) (by decide), k.O (j := 3) tr (by decide) (by decide), k.O (j := 4) tr (by decide) (by decide), q.M b.2.2.1 (j := 71) (p := 117) rfl (by decide) (by decide), q.M b.2.2.1 (j := 72) (p := 118) rfl (by decide) (by decide), q.M b.2.2.1 (j := 73) (p := 119) rfl (by decide) (by decide), q.M b.2.2.1 (j := 74) (p := 120) rfl (by decide) (by decide), q.M b.2.2.1 (j := 75) (p := 121) rfl (by decide) (by decide)]
    refine ⟨fun c hc e => ?_, hh⟩
    rw [enR b q (by decide)] at hc
    rw [lR b k (by decide) (by decide) hc] at e
    exact h1 c hc e
def k_cAU : List Nat := [202, 300]
def m_cAU : List Nat := [10077, 17800, 17900, 10030, 13500]
theorem cAU_fr (b : BB T Tm S m) (h : cAU S m) (k : Kp T T' k_cAU S S') (q : Kp Tm Tm' m_cAU m m') : cAU S' m' := by
  obtain ⟨-, t5, t6, -⟩ := kt4 b.1.1
  unfold cAU at *
  rw [enS b q (by decide)]
  exact AU_cong h (k.O (j := 2) t5 (by decide) (by decide)) (funext fun x => k.A t6 (by decide) (by decide) x) (q.F (j := 77) b.2.2.1 (by decide)) (funext fun x => q.M b.2.2.1 (j := 78) (p := 123) rfl (by decide) (by decide) x) (funext fun x => q.M b.2.2.1 (j := 79) (p := 124) rfl (by decide) (by decide) x) (funext fun x => q.M b.2.2.1 (j := 35) (p := 89) rfl (by decide) (by decide) x)
end
/-- all components -/
def FR (S m : AS) : Prop := cNW S m ∧ cPF S m ∧ cWgt S m ∧ cFac S m ∧ cWrg S m ∧ cKn S m ∧ cCon S m ∧ cHlp S m ∧ cAwy S m ∧ cPts S m ∧ cLnk S m ∧ cVer S m ∧ cDrB S m ∧ cAtt S m ∧ cAst S m ∧ cAsh S m ∧ cSes S m ∧ cUsd S m ∧ cLiv S m ∧ cSsh S m ∧ cMin S m ∧ cCod S m ∧ cFre S m ∧ cFam S m ∧ cNum S m ∧ cGod S m ∧ cTok S m ∧ cAud S m ∧ cSrv S m ∧ cNed S m ∧ cChe S m ∧ cKey S m ∧ cRec S m ∧ cAU S m
theorem FR.NW {S m : AS} (h : FR S m) : cNW S m := h.1
theorem FR.PF {S m : AS} (h : FR S m) : cPF S m := h.2.1
theorem FR.Wgt {S m : AS} (h : FR S m) : cWgt S m := h.2.2.1
theorem FR.Fac {S m : AS} (h : FR S m) : cFac S m := h.2.2.2.1
theorem FR.Wrg {S m : AS} (h : FR S m) : cWrg S m := h.2.2.2.2.1
theorem FR.Kn {S m : AS} (h : FR S m) : cKn S m := h.2.2.2.2.2.1
theorem FR.Con {S m : AS} (h : FR S m) : cCon S m := h.2.2.2.2.2.2.1
theorem FR.Hlp {S m : AS} (h : FR S m) : cHlp S m := h.2.2.2.2.2.2.2.1
theorem FR.Awy {S m : AS} (h : FR S m) : cAwy S m := h.2.2.2.2.2.2.2.2.1
theorem FR.Pts {S m : AS} (h : FR S m) : cPts S m := h.2.2.2.2.2.2.2.2.2.1
theorem FR.Lnk {S m : AS} (h : FR S m) : cLnk S m := h.2.2.2.2.2.2.2.2.2.2.1
theorem FR.Ver {S m : AS} (h : FR S m) : cVer S m := h.2.2.2.2.2.2.2.2.2.2.2.1
theorem FR.DrB {S m : AS} (h : FR S m) : cDrB S m := h.2.2.2.2.2.2.2.2.2.2.2.2.1
theorem FR.Att {S m : AS} (h : FR S m) : cAtt S m := h.2.2.2.2.2.2.2.2.2.2.2.2.2.1
theorem FR.Ast {S m : AS} (h : FR S m) : cAst S m := h.2.2.2.2.2.2.2.2.2.2.2.2.2.2.1
theorem FR.Ash {S m : AS} (h : FR S m) : cAsh S m := h.2.2.2.2.2.2.2.2.2.2.2.2.2.2.2.1
theorem FR.Ses {S m : AS} (h : FR S m) : cSes S m := h.2.2.2.2.2.2.2.2.2.2.2.2.2.2.2.2.1
theorem FR.Usd {S m : AS} (h : FR S m) : cUsd S m := h.2.2.2.2.2.2.2.2.2.2.2.2.2.2.2.2.2.1
theorem FR.Liv {S m : AS} (h : FR S m) : cLiv S m := h.2.2.2.2.2.2.2.2.2.2.2.2.2.2.2.2.2.2.1
theorem FR.Ssh {S m : AS} (h : FR S m) : cSsh S m := h.2.2.2.2.2.2.2.2.2.2.2.2.2.2.2.2.2.2.2.1
theorem FR.Min {S m : AS} (h : FR S m) : cMin S m := h.2.2.2.2.2.2.2.2.2.2.2.2.2.2.2.2.2.2.2.2.1
theorem FR.Cod {S m : AS} (h : FR S m) : cCod S m := h.2.2.2.2.2.2.2.2.2.2.2.2.2.2.2.2.2.2.2.2.2.1
theorem FR.Fre {S m : AS} (h : FR S m) : cFre S m := h.2.2.2.2.2.2.2.2.2.2.2.2.2.2.2.2.2.2.2.2.2.2.1
theorem FR.Fam {S m : AS} (h : FR S m) : cFam S m := h.2.2.2.2.2.2.2.2.2.2.2.2.2.2.2.2.2.2.2.2.2.2.2.1
theorem FR.Num {S m : AS} (h : FR S m) : cNum S m := h.2.2.2.2.2.2.2.2.2.2.2.2.2.2.2.2.2.2.2.2.2.2.2.2.1
theorem FR.God {S m : AS} (h : FR S m) : cGod S m := h.2.2.2.2.2.2.2.2.2.2.2.2.2.2.2.2.2.2.2.2.2.2.2.2.2.1
theorem FR.Tok {S m : AS} (h : FR S m) : cTok S m := h.2.2.2.2.2.2.2.2.2.2.2.2.2.2.2.2.2.2.2.2.2.2.2.2.2.2.1
theorem FR.Aud {S m : AS} (h : FR S m) : cAud S m := h.2.2.2.2.2.2.2.2.2.2.2.2.2.2.2.2.2.2.2.2.2.2.2.2.2.2.2.1
theorem FR.Srv {S m : AS} (h : FR S m) : cSrv S m := h.2.2.2.2.2.2.2.2.2.2.2.2.2.2.2.2.2.2.2.2.2.2.2.2.2.2.2.2.1
theorem FR.Ned {S m : AS} (h : FR S m) : cNed S m := h.2.2.2.2.2.2.2.2.2.2.2.2.2.2.2.2.2.2.2.2.2.2.2.2.2.2.2.2.2.1
theorem FR.Che {S m : AS} (h : FR S m) : cChe S m := h.2.2.2.2.2.2.2.2.2.2.2.2.2.2.2.2.2.2.2.2.2.2.2.2.2.2.2.2.2.2.1
theorem FR.Key {S m : AS} (h : FR S m) : cKey S m := h.2.2.2.2.2.2.2.2.2.2.2.2.2.2.2.2.2.2.2.2.2.2.2.2.2.2.2.2.2.2.2.1
theorem FR.Rec {S m : AS} (h : FR S m) : cRec S m := h.2.2.2.2.2.2.2.2.2.2.2.2.2.2.2.2.2.2.2.2.2.2.2.2.2.2.2.2.2.2.2.2.1
theorem FR.AU {S m : AS} (h : FR S m) : cAU S m := h.2.2.2.2.2.2.2.2.2.2.2.2.2.2.2.2.2.2.2.2.2.2.2.2.2.2.2.2.2.2.2.2.2
theorem FR_ZZ {S m : AS} (h : FR S m) : ZZ S m := ⟨h.Ver.1, h.Att.1, h.Ses.1, h.Cod.1, h.Fam.1, h.Tok.1, h.Rec.1⟩
theorem FR_BB {T Tm : Nat → Nat} {S m : AS} (hT : TV T S) (hm : TI Tm m) (h : FR S m) : BB T Tm S m := ⟨hT, h.PF, hm, FR_ZZ h⟩
def k_FR : List Nat := k_cNW ++ (k_cPF ++ (k_cWgt ++ (k_cFac ++ (k_cWrg ++ (k_cKn ++ (k_cCon ++ (k_cHlp ++ (k_cAwy ++ (k_cPts ++ (k_cLnk ++ (k_cVer ++ (k_cDrB ++ (k_cAtt ++ (k_cAst ++ (k_cAsh ++ (k_cSes ++ (k_cUsd ++ (k_cLiv ++ (k_cSsh ++ (k_cMin ++ (k_cCod ++ (k_cFre ++ (k_cFam ++ (k_cNum ++ (k_cGod ++ (k_cTok ++ (k_cAud ++ (k_cSrv ++ (k_cNed ++ (k_cChe ++ (k_cKey ++ (k_cRec ++ (k_cAU)))))))))))))))))))))))))))))))))
def m_FR : List Nat := m_cNW ++ (m_cPF ++ (m_cWgt ++ (m_cFac ++ (m_cWrg ++ (m_cKn ++ (m_cCon ++ (m_cHlp ++ (m_cAwy ++ (m_cPts ++ (m_cLnk ++ (m_cVer ++ (m_cDrB ++ (m_cAtt ++ (m_cAst ++ (m_cAsh ++ (m_cSes ++ (m_cUsd ++ (m_cLiv ++ (m_cSsh ++ (m_cMin ++ (m_cCod ++ (m_cFre ++ (m_cFam ++ (m_cNum ++ (m_cGod ++ (m_cTok ++ (m_cAud ++ (m_cSrv ++ (m_cNed ++ (m_cChe ++ (m_cKey ++ (m_cRec ++ (m_cAU)))))))))))))))))))))))))))))))))
theorem Kp_sub {T T' : Nat → Nat} {cs ds : List Nat} {S S' : AS} (h : Kp T T' cs S S') (hs : ∀ z, z ∈ ds → z ∈ cs) : Kp T T' ds S S' := ⟨h.1, fun k j a b => h.2.1 k j a (hs _ b), fun k j a b => h.2.2 k j a (hs _ b)⟩
theorem FR_fr {T T' Tm Tm' : Nat → Nat} {S S' m m' : AS} (hT : TV T S) (hm : TI Tm m) (h : FR S m) (k : Kp T T' k_FR S S') (q : Kp Tm Tm' m_FR m m') : FR S' m' := by
  have b := FR_BB hT hm h
  have K : ∀ {ds : List Nat}, ds.all (fun z => k_FR.contains z) = true → Kp T T' ds S S' := fun hs => Kp_sub k (fun z hz => List.contains_iff_mem.mp (List.all_eq_true.mp hs z hz))
  have Q : ∀ {ds : List Nat}, ds.all (fun z => m_FR.contains z) = true → Kp Tm Tm' ds m m' := fun hs => Kp_sub q (fun z hz => List.contains_iff_mem.mp (List.all_eq_true.mp hs z hz))
  exact ⟨cNW_fr b h.NW (K (by decide +kernel)) (Q (by decide +kernel)), cPF_fr b h.PF (K (by decide +kernel)) (Q (by decide +kernel)), cWgt_fr b h.Wgt (K (by decide +kernel)) (Q (by decide +kernel)), cFac_fr b h.Fac (K (by decide +kernel)) (Q (by decide +kernel)), cWrg_fr b h.Wrg (K (by decide +kernel)) (Q (by decide +kernel)), cKn_fr b h.Kn (K (by decide +kernel)) (Q (by decide +kernel)), cCon_fr b h.Con (K (by decide +kernel)) (Q (by decide +kernel)), cHlp_fr b h.Hlp (K (by decide +kernel)) (Q (by decide +kernel)), cAwy_fr b h.Awy (K (by decide +kernel)) (Q (by decide +kernel)), cPts_fr b h.Pts (K (by decide +kernel)) (Q (by decide +kernel)), cLnk_fr b h.Lnk (K (by decide +kernel)) (Q (by decide +kernel)), cVer_fr b h.Ver (K (by decide +kernel)) (Q (by decide +kernel)), cDrB_fr b h.DrB (K (by decide +kernel)) (Q (by decide +kernel)), cAtt_fr b h.Att (K (by decide +kernel)) (Q (by decide +kernel)), cAst_fr b h.Ast (K (by decide +kernel)) (Q (by decide +kernel)), cAsh_fr b h.Ash (K (by decide +kernel)) (Q (by decide +kernel)), cSes_fr b h.Ses (K (by decide +kernel)) (Q (by decide +kernel)), cUsd_fr b h.Usd (K (by decide +kernel)) (Q (by decide +kernel)), cLiv_fr b h.Liv (K (by decide +kernel)) (Q (by decide +kernel)), cSsh_fr b h.Ssh (K (by decide +kernel)) (Q (by decide +kernel)), cMin_fr b h.Min (K (by decide +kernel)) (Q (by decide +kernel)), cCod_fr b h.Cod (K (by decide +kernel)) (Q (by decide +kernel)), cFre_fr b h.Fre (K (by decide +kernel)) (Q (by decide +kernel)), cFam_fr b h.Fam (K (by decide +kernel)) (Q (by decide +kernel)), cNum_fr b h.Num (K (by decide +kernel)) (Q (by decide +kernel)), cGod_fr b h.God (K (by decide +kernel)) (Q (by decide +kernel)), cTok_fr b h.Tok (K (by decide +kernel)) (Q (by decide +kernel)), cAud_fr b h.Aud (K (by decide +kernel)) (Q (by decide +kernel)), cSrv_fr b h.Srv (K (by decide +kernel)) (Q (by decide +kernel)), cNed_fr b h.Ned (K (by decide +kernel)) (Q (by decide +kernel)), cChe_fr b h.Che (K (by decide +kernel)) (Q (by decide +kernel)), cKey_fr b h.Key (K (by decide +kernel)) (Q (by decide +kernel)), cRec_fr b h.Rec (K (by decide +kernel)) (Q (by decide +kernel)), cAU_fr b h.AU (K (by decide +kernel)) (Q (by decide +kernel))⟩
end
section
/-! ===== between the two calls of a case ===== -/
theorem m_FR_in : m_FR.all (fun z => decide (10000 ≤ z ∧ z < 50000)) = true := by decide +kernel
theorem k_FR_in : k_FR.all (fun z => decide ((z < 10000 ∨ 50000 ≤ z) ∧ z ≠ 99999)) = true := by decide +kernel
theorem FR_K {T T' : Nat → Nat} {w : List Nat} {S S' : AS} {c s : Nat} (hT : TV T S) (h : FR S S) (hR : Rl T (99999 :: w) S c s T' S') (hw : ∀ z ∈ w, z < 10000 ∨ 50000 ≤ z) : FR S S' :=
  FR_fr hT hT.1 h (Kp_rf T _ S) (Kp_off hR (fun z hz q => by
    have := of_decide_eq_true (List.all_eq_true.mp m_FR_in z q)
    rcases List.mem_cons.mp hz with rfl | hz
    · omega
    · have := hw z hz
      omega))
theorem FR_M {T T' : Nat → Nat} {w : List Nat} {S S' : AS} {c s : Nat} (hT : TV T S) (hm : TI T' S') (h : FR S S') (hR : Rl T w S c s T' S') (hw : ∀ z ∈ w, 10000 ≤ z ∧ z < 50000) : FR S' S' :=
  FR_fr hT hm h (Kp_off hR (fun z hz q => by
    have := of_decide_eq_true (List.all_eq_true.mp k_FR_in z q)
    have := hw z hz
    omega)) (Kp_rf T' _ S')
theorem m_FR_82 : ¬ 10082 ∈ m_FR := by decide +kernel
/-- what the reference says of its latest call counts for nothing -/
theorem FR_t {T Tm : Nat → Nat} {S m : AS} (hT : TV T S) (hm : TI Tm m) (h : FR S m) (v : Int32) : FR S (wI m 57 82 v) :=
  FR_fr hT hm h (Kp_rf T _ S) ⟨fun _ _ => rfl, fun k j h1 h2 => by
    rw [ti_sI_ne]
    rintro ⟨rfl, rfl⟩
    rw [hm.t9.1] at h2
    exact m_FR_82 h2, fun _ _ _ _ => rfl⟩
theorem FR_X {T Tm : Nat → Nat} {S m : AS} (hT : TV T S) (hm : TI Tm m) (h : FR S m) : FR (wX S) m := FR_fr hT hm h ⟨fun _ _ => rfl, fun _ _ _ _ => rfl, fun _ _ _ _ => rfl⟩ (Kp_rf Tm _ m) (T' := T)
/-- a new exception changes no cell -/
theorem sL_wX (S : AS) : sL (wX S) = sL S := rfl
/-! ===== the endings' bundle out of the relation, and back ===== -/
theorem ofNat_ne {o : Nat} (h : o < 301) : ¬ (-1 : Int32) = Int32.ofNat o := fun q => by
  have := congrArg Int32.toInt q
  rw [oi h, show (-1 : Int32).toInt = -1 from by decide] at this
  omega
theorem ses_inj {S m : AS} (h : FR S m) {a b : Nat} (ha : a < nS m) (hb : b < nS m) (e : lel S 19 a = lel S 19 b) : a = b := by
  have h1 := (h.Ses.2 a ha).1
  have z := h.Ses.1.1
  unfold nS at ha hb
  rw [e, (h.Ses.2 b hb).1] at h1
  exact (oinj (by omega) (by omega) h1).symm
theorem ST_of {T Tm : Nat → Nat} {S m : AS} (hT : TV T S) (hm : TI Tm m) (h : FR S m) : ST T S m (nS m) (nF m) (nT m) := by
  obtain ⟨a1, a2, a3⟩ := h.Ses.1
  obtain ⟨b1, b2, b3⟩ := h.Fam.1
  obtain ⟨c1, c2, c3⟩ := h.Tok.1
  have n60 : nS m ≤ 60 := a1
  have nf60 : nF m ≤ 60 := b1
  refine ⟨SJ_of hT.1 h.PF a1 b1 (a3.trans a2) (b3.trans b2), h.PF.2, MF_of hm, ⟨a1, b1, c1, a3.trans a2, a2, b3.trans b2, b2, c2, ?_⟩, fun s hs => ?_, fun f hf => ?_, h.Srv⟩
  · obtain ⟨-, t, -⟩ := md_at hm (j := 78) (p := 123) rfl rfl
    exact (hm.t1 123 (by rw [t]; decide)).2.2.2 1200 (by rw [t]; rfl)
  · obtain ⟨h1, h2, h3, -⟩ := h.Ses.2 s hs
    refine ⟨h1, h2, fun o ho => ?_⟩
    rcases h3 with ⟨q1, q2⟩ | ⟨o', q0, q1, q2⟩
    · rw [q1, q2]
      exact ⟨fun z => (nomatch z), fun z => absurd z (ofNat_ne (by omega))⟩
    · rw [q1, q2]
      constructor
      · intro z
        rw [ses_inj h (by omega) ho (Option.some.inj z)]
      · intro z
        rw [oinj (by omega) (by omega) z]
  · obtain ⟨c, h1, h2, h3, h4, -⟩ := h.Fam.2 f hf
    obtain ⟨-, ⟨s, s1, s2, s3⟩, -, -, -, -, h5, -⟩ := h.Cod.2 c h1
    have n60 := h.Cod.1.1
    refine ⟨by rw [h2, h5, h4], ⟨c, s, by unfold nC at h1; omega, s1, h3, s3, by rw [h2]; exact s2⟩, h.Aud f hf⟩
theorem EE_of {T : Nat → Nat} {S m : AS} (h : FR S m) : EE 0 T S m (nS m) (nF m) S m := ⟨KE_rf T S, ME_rf m, h.Liv.1, h.Liv.2, h.God.2, h.AU, h.God.1⟩
theorem EE_out {T : Nat → Nat} {S0 m0 S m : AS} {n nf : Nat} (hr : sR S = sR S0) (e1 : nS m = n) (e2 : nF m = nf) (h : EE 0 T S0 m0 n nf S m) : cLiv S m ∧ cGod S m ∧ cAU S m := by
  obtain ⟨-, -, h3, h4, h5, h6, h7⟩ := h
  have e : ∀ l i, lel S l i = lel S0 l i := fun l i => by
    unfold lel
    rw [hr]
  unfold cLiv cGod cAU
  rw [e1, e2]
  exact ⟨⟨fun s hs => by rw [e]; exact h3 s hs, h4⟩, ⟨h7, fun f hf => by rw [e]; exact h5 f hf⟩, h6⟩
/-! ===== pass ===== -/
theorem PI_of {T Tm : Nat → Nat} {S m : AS} (hT : TV T S) (hm : TI Tm m) (h : FR S m) : PI T (nS m) (nF m) (nT m) S m := by
  obtain ⟨-, -, -, -, -, -, -, -, -, t25, t26, -⟩ := kt4 hT.1
  exact ⟨ST_of hT hm h, EE_of h, ⟨t25, t26⟩, h.Key, ⟨h.NW.1, h.NW.2.1⟩, fun s hs => ⟨h.Usd s hs, (h.Ses.2 s hs).2.2.2.2⟩⟩
def P_pass (S m : AS) : Prop := cNW S m ∧ cLiv S m ∧ cGod S m ∧ cKey S m ∧ cAU S m
theorem FR_pass {S m : AS} (h : FR S m) : P_pass S m := ⟨h.NW, h.Liv, h.God, h.Key, h.AU⟩
theorem TI_t {T : Nat → Nat} {m : AS} (hm : TI T m) (v : Int32) : TI T (wI m 57 82 v) := TIwI hm hm.t9.1 (fun lo hi e => by cases e) (fun n lo hi e => by cases e) (by omega)
theorem h_pass {T Tm : Nat → Nat} {S m : AS} (hT : TV T S) (hm : TI Tm m) (h : FR S m) (a : Int32) : H2 (f_K_pass S (some 4) a) (f_M_pass m (some 57) a) (fun x y => AN [eA, eS] x.1 y.1 (sI y.2 57 82) ∧ P_pass x.2 y.2) := by
  unfold f_K_pass f_M_pass
  refine l_of (st_b2 (q_win S a 1 600)) (m_of (st_b2 (q_isIn m a 1 600)) ?_)
  by_cases c : (1 : Int32) ≤ a ∧ a ≤ 600
  · rw [if_pos c]
    refine l_of (st_bx (rA1 S)) (l_of (st_gIe h.NW.1) (m_of (st_F one0) (m_of st_gI ?_)))
    by_cases d : 30000 < sI m 57 0 + a
    · refine l_of (st_T d) (m_of (st_T d) ?_)
      unfold f_K_pass_B28 f_M_pass_B31 f_M_pass_B32
      refine l_of (st_bxe (rS0 S)) (m_of st_rv (m_p2 p_mayB (fun v m' p => ?_)))
      cases p
      refine m_of (st_T rfl) (h2_ret ⟨AN_e 1 rfl (ti_sI_eq _ _ _ _), FR_pass (FR_X hT (TI_t hm 2) (FR_t hT hm h 2))⟩)
    · refine l_of (st_F d) (m_of (st_F d) ?_)
      unfold f_K_pass_B28 f_M_pass_B32
      refine l_of (st_bx (rS1 S)) (m_of st_rv (m_p2 p_mayB (fun v m' p => ?_)))
      cases p
      refine m_of (st_F one0) ?_
      have a1 := Int32.le_iff_toInt_le.mp c.1
      have a2 := Int32.le_iff_toInt_le.mp c.2
      rw [show (1 : Int32).toInt = 1 from by decide] at a1
      rw [show (600 : Int32).toInt = 600 from by decide] at a2
      have an := natI (i := a) (by omega)
      have ea : a = Int32.ofNat a.toNatClampNeg := Int32.toInt_inj.mp (by rw [oi4 (by omega)]; exact an.symm)
      have hf := FR_t hT hm h 0
      have hp := PI_of hT (TI_t hm 0) hf
      have n60 : nS (wI m 57 82 0) ≤ 60 := hf.Ses.1.1
      have c60 := cnt_le (sI (wI m 57 82 0) 89) (nS (wI m 57 82 0))
      have nw : sI (wI m 57 82 0) 57 0 = sI m 57 0 := ti_sI_ne (by omega)
      have le : (sI m 57 0).toInt + a.toInt ≤ 30000 := by
        have e : (sI m 57 0 + a).toInt = (sI m 57 0).toInt + a.toInt := by
          rw [Int32.toInt_add]
          have := h.NW.2
          exact bm (by omega) (by omega)
        have := fun q => d (Int32.lt_iff_toInt_lt.mpr q)
        rw [e, show (30000 : Int32).toInt = 30000 from by decide] at this
        exact Int.not_lt.mp this
      refine l_of (st_gIe hf.Liv.2) ?_
      rw [ea]
      refine h2_mono (h_pass_L (mm := a.toNatClampNeg) (by omega) (Nat.le_trans c60 n60) a.toNatClampNeg 0 kr_FU kr_FU 0 S (wI m 57 82 0) (by omega) hp (by rw [nw]; omega) (Nat.zero_add _)) (fun x y p => ?_)
      obtain ⟨S', c', m', rfl, rfl, hp', x, ht⟩ := p
      have es : nS m' = nS (wI m 57 82 0) := by
        unfold nS
        rw [x.m (p := 57) (j := 30) (by rfl)]
      have ef : nF m' = nF (wI m 57 82 0) := by
        unfold nF
        rw [x.m (p := 57) (j := 46) (by rfl)]
      obtain ⟨o1, o2, o3⟩ := EE_out rfl es ef hp'.2.1
      refine ⟨AN_v ?_, ⟨hp'.2.2.2.2.1.1, hp'.2.2.2.2.1.2, by rw [ht, nw]; omega⟩, o1, o2, hp'.2.2.2.1, o3⟩
      show sI m' 57 82 = 0
      rw [x.m (p := 57) (j := 82) (by rfl), ti_sI_eq]
  · rw [if_neg c]
    refine l_of (st_bxe (rA0 S)) (m_of (st_T rfl) ?_)
    unfold f_M_pass_B31 f_M_pass_B32
    refine m_of st_rv (m_p2 p_mayB (fun v m' p => ?_))
    cases p
    exact m_of (st_T rfl) (h2_ret ⟨AN_e 0 rfl (ti_sI_eq _ _ _ _), FR_pass (FR_X hT (TI_t hm 1) (FR_t hT hm h 1))⟩)
theorem pr_pass {T Tm : Nat → Nat} {S m S1 m1 : AS} {k v a : Int32} (hT : TV T S) (hm : TI Tm m) (h : FR S m) (e1 : f_W_pass S (some 4) a (some 126) = some (k, S1)) (e2 : f_M_pass m (some 57) a = some (v, m1)) : WA P_pass (k, S1) (v, m1) := by
  unfold f_W_pass at e1
  exact W2 (by decide) (h_pass hT hm h a) (fun _ _ _ p => p) _ _ e1 e2
end
section
/-! ===== found or refused ===== -/
def IX (n : Nat) (a : Int32) : Prop := ∃ s, s < n ∧ a = Int32.ofNat s
theorem IX_iff {n : Nat} {a : Int32} (hn : n ≤ 300) : IX n a ↔ 0 ≤ a.toInt ∧ a.toInt < (n : Int) := by
  constructor
  · rintro ⟨s, h1, rfl⟩
    rw [oi (by omega)]
    omega
  · rintro ⟨h1, h2⟩
    refine ⟨a.toNatClampNeg, by have := natI h1; omega, ?_⟩
    exact Int32.toInt_inj.mp (by rw [oi (by have := natI h1; omega)]; exact (natI h1).symm)
theorem IX_lit {n : Nat} {a c : Int32} (hn : n ≤ 299) (hc : c.toInt = (n : Int)) : (0 ≤ a ∧ a ≤ c) ↔ IX (n + 1) a := by
  rw [IX_iff (by omega), Int32.le_iff_toInt_le, Int32.le_iff_toInt_le, hc, show (0 : Int32).toInt = 0 from by decide]
  omega
theorem IX_sub {n : Nat} {a : Int32} (hn : n ≤ 299) : (0 ≤ a ∧ a ≤ Int32.ofNat n - 1) ↔ IX n a := by
  have e : (Int32.ofNat n - 1).toInt = (n : Int) - 1 := by
    rw [Int32.toInt_sub, oi (by omega), show (1 : Int32).toInt = 1 from by decide]
    exact bm (by omega) (by omega)
  rw [IX_iff (by omega), Int32.le_iff_toInt_le, Int32.le_iff_toInt_le, e, show (0 : Int32).toInt = 0 from by decide]
  omega
theorem p_rI {S : AS} {a n : Int32} : Hp (f_K_requireIndex S a n) (fun q => (0 ≤ a.toInt ∧ a.toInt < n.toInt ∧ q = (.inl (), S)) ∨ (¬ (0 ≤ a.toInt ∧ a.toInt < n.toInt) ∧ q = (.inr eX, wX S))) := by
  unfold f_K_requireIndex f_K_requireIndex_B9
  refine p_if (fun c => p_ret (Or.inr ⟨fun q => by have := lt0.mp c; omega, rfl⟩)) (fun c => p_if (fun d => p_ret (Or.inl ⟨Int.not_lt.mp (fun q => c (lt0.mpr q)), Int32.lt_iff_toInt_lt.mp d, rfl⟩)) (fun d => p_ret (Or.inr ⟨fun q => d (Int32.lt_iff_toInt_lt.mpr q.2), rfl⟩)))
theorem p_bx {α β : Type} {x : Option ((α ⊕ String) × AS)} {F : α → AS → Option ((β ⊕ String) × AS)} {P : (α ⊕ String) × AS → Prop} {Q : (β ⊕ String) × AS → Prop} (hc : Hp x P) (h : ∀ v S', P (.inl v, S') → Hp (F v S') Q) (g : ∀ e S', P (.inr e, S') → Q (.inr e, S')) : Hp (kr_bx x F) Q := fun a ha => by
  match x, ha, hc with
  | some (.inl v, S'), ha, hc => exact h v S' (hc _ rfl) a ha
  | some (.inr v, S'), ha, hc =>
    cases ha
    exact g v S' (hc _ rfl)
section
variable {T Tm : Nat → Nat} {S m : AS}
theorem x_fS (b : BB T Tm S m) (a : Int32) : Hp (f_K_findSession S (some 4) a) (fun q => (∃ s, s < nS m ∧ a = Int32.ofNat s ∧ q = (.inl (some (lel S 19 s)), S)) ∨ (¬ IX (nS m) a ∧ q = (.inr eX, wX S))) := by
  have r := (K4F_of b.1.1).1 8 19 rfl
  obtain ⟨z1, z2, z3⟩ := zS b
  have zz : (sI S 19 2).toInt = (nS m : Int) := by
    rw [z3, z2]
    exact oi (Nat.lt_of_le_of_lt z1 (by decide))
  unfold f_K_findSession
  refine p_of (st_gRe r) (p_of st_rv (p_of st_size (p_bx p_rI (fun v S' p => ?_) (fun e S' p => ?_))))
  · rcases p with ⟨h1, h2, e⟩ | ⟨-, e⟩
    · cases e
      rw [zz] at h2
      obtain ⟨s, s1, rfl⟩ := (IX_iff (n := nS m) (Nat.le_trans z1 (by decide))).mpr ⟨h1, h2⟩
      refine p_of (st_gRe r) (p_of st_rv (p_of (st_get (oc (by have := z1; unfold nS at s1; omega)) (atS b s1)) (p_of st_cc (p_ret (Or.inl ⟨s, s1, rfl, rfl⟩)))))
    · cases e
  · rcases p with ⟨h1, h2, e⟩ | ⟨h, e⟩
    · cases e
    · cases e
      rw [zz, ← IX_iff (n := nS m) (Nat.le_trans z1 (by decide))] at h
      exact Or.inr ⟨h, rfl⟩
theorem x_MS (b : BB T Tm S m) (a : Int32) : Hp (f_M_isSession m (some 57) a) (fun q => (IX (nS m) a ∧ q = (1, m)) ∨ (¬ IX (nS m) a ∧ q = (0, m))) := by
  obtain ⟨z1, z2, z3⟩ := zS b
  have n2 : nS m ≤ 299 := Nat.le_trans z1 (by decide)
  unfold f_M_isSession
  refine p_of (st_gIe (v := Int32.ofNat (nS m)) z2) (p_of (st_b2 (q_isIn m a 0 _)) (p_of st_z (p_ret ?_)))
  by_cases c : IX (nS m) a
  · exact Or.inl ⟨c, by rw [if_pos ((IX_sub n2).mpr c)]⟩
  · exact Or.inr ⟨c, by rw [if_neg (fun q => c ((IX_sub n2).mp q))]⟩
/-- found on both sides, or refused on both -/
theorem h_fS (b : BB T Tm S m) (a : Int32) {γ : Type} {F : Option Nat → AS → Option ((γ ⊕ String) × AS)} {G : AS → Option (Int32 × AS)} {Q : (γ ⊕ String) × AS → Int32 × AS → Prop} (h1 : ∀ s, s < nS m → a = Int32.ofNat s → H2 (F (some (lel S 19 s)) S) (G (wI m 57 82 0)) Q) (h0 : Q (.inr eX, wX S) (0, wI m 57 82 1)) :
    H2 ((kr_rv S 22 (some 4)).bind fun _ => kr_bx (f_K_findSession S (some 4) a) F) ((kr_rv m 23 (some 57)).bind fun _ => kr_b2 (f_M_isSession m (some 57) a) fun v3 S2 => (kr_rv S2 23 (some 57)).bind fun _ => kr_b2 (f_M_may S2 (some 57) v3) fun v6 S5 => if v6 = 0 then some ((0 : Int32), S5) else G S5) Q := by
  refine l_of st_rv (m_of st_rv (m_p2 (x_MS b a) (fun v S2 p => ?_)))
  rcases p with ⟨p1, p2⟩ | ⟨p1, p2⟩
  · cases p2
    refine m_of st_rv (m_p2 p_may (fun v S5 p => ?_))
    cases p
    refine m_of (st_F one0) ?_
    rw [if_neg one0]
    refine l_bx (fun v S' e => ?_) (fun v S' e => ?_)
    · rcases x_fS b a _ e with ⟨s, s1, s2, e2⟩ | ⟨no, e2⟩
      · cases e2
        exact h1 s s1 s2
      · cases e2
    · rcases x_fS b a _ e with ⟨s, s1, s2, e2⟩ | ⟨no, e2⟩
      · cases e2
      · exact absurd p1 no
  · cases p2
    refine m_of st_rv (m_p2 p_may (fun v S5 p => ?_))
    cases p
    refine m_of (st_T rfl) ?_
    rw [if_pos rfl]
    refine l_bx (fun v S' e => ?_) (fun v S' e => ?_)
    · rcases x_fS b a _ e with ⟨s, s1, s2, e2⟩ | ⟨no, e2⟩
      · exact absurd ⟨s, s1, s2⟩ p1
      · cases e2
    · rcases x_fS b a _ e with ⟨s, s1, s2, e2⟩ | ⟨no, e2⟩
      · cases e2
      · cases e2
        exact h2_ret h0
theorem x_fA (b : BB T Tm S m) (a : Int32) : Hp (f_K_findAttempt S (some 4) a) (fun q => (∃ s, s < uA m ∧ a = Int32.ofNat s ∧ q = (.inl (some (lel S 18 s)), S)) ∨ (¬ IX (uA m) a ∧ q = (.inr eX, wX S))) := by
  have r := (K4F_of b.1.1).1 7 18 rfl
  obtain ⟨z1, z2, z3⟩ := zA b
  have zz : (sI S 18 2).toInt = (uA m : Int) := by
    rw [z3, z2]
    exact oi (Nat.lt_of_le_of_lt z1 (by decide))
  unfold f_K_findAttempt
  refine p_of (st_gRe r) (p_of st_rv (p_of st_size (p_bx p_rI (fun v S' p => ?_) (fun e S' p => ?_))))
  · rcases p with ⟨h1, h2, e⟩ | ⟨-, e⟩
    · cases e
      rw [zz] at h2
      obtain ⟨s, s1, rfl⟩ := (IX_iff (n := uA m) (Nat.le_trans z1 (by decide))).mpr ⟨h1, h2⟩
      refine p_of (st_gRe r) (p_of st_rv (p_of (st_get (oc (by have := z1; unfold uA at s1; omega)) (atA b s1)) (p_of st_cc (p_ret (Or.inl ⟨s, s1, rfl, rfl⟩)))))
    · cases e
  · rcases p with ⟨h1, h2, e⟩ | ⟨h, e⟩
    · cases e
    · cases e
      rw [zz, ← IX_iff (n := uA m) (Nat.le_trans z1 (by decide))] at h
      exact Or.inr ⟨h, rfl⟩
theorem x_MA (b : BB T Tm S m) (a : Int32) : Hp (f_M_isAttempt m (some 57) a) (fun q => (IX (uA m) a ∧ q = (1, m)) ∨ (¬ IX (uA m) a ∧ q = (0, m))) := by
  obtain ⟨z1, z2, z3⟩ := zA b
  have n2 : uA m ≤ 299 := Nat.le_trans z1 (by decide)
  unfold f_M_isAttempt
  refine p_of (st_gIe (v := Int32.ofNat (uA m)) z2) (p_of (st_b2 (q_isIn m a 0 _)) (p_of st_z (p_ret ?_)))
  by_cases c : IX (uA m) a
  · exact Or.inl ⟨c, by rw [if_pos ((IX_sub n2).mpr c)]⟩
  · exact Or.inr ⟨c, by rw [if_neg (fun q => c ((IX_sub n2).mp q))]⟩
/-- found on both sides, or refused on both -/
theorem h_fA (b : BB T Tm S m) (a : Int32) {γ : Type} {F : Option Nat → AS → Option ((γ ⊕ String) × AS)} {G : AS → Option (Int32 × AS)} {Q : (γ ⊕ String) × AS → Int32 × AS → Prop} (h1 : ∀ s, s < uA m → a = Int32.ofNat s → H2 (F (some (lel S 18 s)) S) (G (wI m 57 82 0)) Q) (h0 : Q (.inr eX, wX S) (0, wI m 57 82 1)) :
    H2 ((kr_rv S 22 (some 4)).bind fun _ => kr_bx (f_K_findAttempt S (some 4) a) F) ((kr_rv m 23 (some 57)).bind fun _ => kr_b2 (f_M_isAttempt m (some 57) a) fun v3 S2 => (kr_rv S2 23 (some 57)).bind fun _ => kr_b2 (f_M_may S2 (some 57) v3) fun v6 S5 => if v6 = 0 then some ((0 : Int32), S5) else G S5) Q := by
  refine l_of st_rv (m_of st_rv (m_p2 (x_MA b a) (fun v S2 p => ?_)))
  rcases p with ⟨p1, p2⟩ | ⟨p1, p2⟩
  · cases p2
    refine m_of st_rv (m_p2 p_may (fun v S5 p => ?_))
    cases p
    refine m_of (st_F one0) ?_
    rw [if_neg one0]
    refine l_bx (fun v S' e => ?_) (fun v S' e => ?_)
    · rcases x_fA b a _ e with ⟨s, s1, s2, e2⟩ | ⟨no, e2⟩
      · cases e2
        exact h1 s s1 s2
      · cases e2
    · rcases x_fA b a _ e with ⟨s, s1, s2, e2⟩ | ⟨no, e2⟩
      · cases e2
      · exact absurd p1 no
  · cases p2
    refine m_of st_rv (m_p2 p_may (fun v S5 p => ?_))
    cases p
    refine m_of (st_T rfl) ?_
    rw [if_pos rfl]
    refine l_bx (fun v S' e => ?_) (fun v S' e => ?_)
    · rcases x_fA b a _ e with ⟨s, s1, s2, e2⟩ | ⟨no, e2⟩
      · exact absurd ⟨s, s1, s2⟩ p1
      · cases e2
    · rcases x_fA b a _ e with ⟨s, s1, s2, e2⟩ | ⟨no, e2⟩
      · cases e2
      · cases e2
        exact h2_ret h0
theorem x_fF (b : BB T Tm S m) (a : Int32) : Hp (f_K_findFamily S (some 4) a) (fun q => (∃ s, s < nF m ∧ a = Int32.ofNat s ∧ q = (.inl (some (lel S 23 s)), S)) ∨ (¬ IX (nF m) a ∧ q = (.inr eX, wX S))) := by
  have r := (K4F_of b.1.1).1 13 23 rfl
  obtain ⟨z1, z2, z3⟩ := zF b
  have zz : (sI S 23 2).toInt = (nF m : Int) := by
    rw [z3, z2]
    exact oi (Nat.lt_of_le_of_lt z1 (by decide))
  unfold f_K_findFamily
  refine p_of (st_gRe r) (p_of st_rv (p_of st_size (p_bx p_rI (fun v S' p => ?_) (fun e S' p => ?_))))
  · rcases p with ⟨h1, h2, e⟩ | ⟨-, e⟩
    · cases e
      rw [zz] at h2
      obtain ⟨s, s1, rfl⟩ := (IX_iff (n := nF m) (Nat.le_trans z1 (by decide))).mpr ⟨h1, h2⟩
      refine p_of (st_gRe r) (p_of st_rv (p_of (st_get (oc (by have := z1; unfold nF at s1; omega)) (atF b s1)) (p_of st_cc (p_ret (Or.inl ⟨s, s1, rfl, rfl⟩)))))
    · cases e
  · rcases p with ⟨h1, h2, e⟩ | ⟨h, e⟩
    · cases e
    · cases e
      rw [zz, ← IX_iff (n := nF m) (Nat.le_trans z1 (by decide))] at h
      exact Or.inr ⟨h, rfl⟩
theorem x_MF (b : BB T Tm S m) (a : Int32) : Hp (f_M_isFamily m (some 57) a) (fun q => (IX (nF m) a ∧ q = (1, m)) ∨ (¬ IX (nF m) a ∧ q = (0, m))) := by
  obtain ⟨z1, z2, z3⟩ := zF b
  have n2 : nF m ≤ 299 := Nat.le_trans z1 (by decide)
  unfold f_M_isFamily
  refine p_of (st_gIe (v := Int32.ofNat (nF m)) z2) (p_of (st_b2 (q_isIn m a 0 _)) (p_of st_z (p_ret ?_)))
  by_cases c : IX (nF m) a
  · exact Or.inl ⟨c, by rw [if_pos ((IX_sub n2).mpr c)]⟩
  · exact Or.inr ⟨c, by rw [if_neg (fun q => c ((IX_sub n2).mp q))]⟩
/-- found on both sides, or refused on both -/
theorem h_fF (b : BB T Tm S m) (a : Int32) {γ : Type} {F : Option Nat → AS → Option ((γ ⊕ String) × AS)} {G : AS → Option (Int32 × AS)} {Q : (γ ⊕ String) × AS → Int32 × AS → Prop} (h1 : ∀ s, s < nF m → a = Int32.ofNat s → H2 (F (some (lel S 23 s)) S) (G (wI m 57 82 0)) Q) (h0 : Q (.inr eX, wX S) (0, wI m 57 82 1)) :
    H2 ((kr_rv S 22 (some 4)).bind fun _ => kr_bx (f_K_findFamily S (some 4) a) F) ((kr_rv m 23 (some 57)).bind fun _ => kr_b2 (f_M_isFamily m (some 57) a) fun v3 S2 => (kr_rv S2 23 (some 57)).bind fun _ => kr_b2 (f_M_may S2 (some 57) v3) fun v6 S5 => if v6 = 0 then some ((0 : Int32), S5) else G S5) Q := by
  refine l_of st_rv (m_of st_rv (m_p2 (x_MF b a) (fun v S2 p => ?_)))
  rcases p with ⟨p1, p2⟩ | ⟨p1, p2⟩
  · cases p2
    refine m_of st_rv (m_p2 p_may (fun v S5 p => ?_))
    cases p
    refine m_of (st_F one0) ?_
    rw [if_neg one0]
    refine l_bx (fun v S' e => ?_) (fun v S' e => ?_)
    · rcases x_fF b a _ e with ⟨s, s1, s2, e2⟩ | ⟨no, e2⟩
      · cases e2
        exact h1 s s1 s2
      · cases e2
    · rcases x_fF b a _ e with ⟨s, s1, s2, e2⟩ | ⟨no, e2⟩
      · cases e2
      · exact absurd p1 no
  · cases p2
    refine m_of st_rv (m_p2 p_may (fun v S5 p => ?_))
    cases p
    refine m_of (st_T rfl) ?_
    rw [if_pos rfl]
    refine l_bx (fun v S' e => ?_) (fun v S' e => ?_)
    · rcases x_fF b a _ e with ⟨s, s1, s2, e2⟩ | ⟨no, e2⟩
      · exact absurd ⟨s, s1, s2⟩ p1
      · cases e2
    · rcases x_fF b a _ e with ⟨s, s1, s2, e2⟩ | ⟨no, e2⟩
      · cases e2
      · cases e2
        exact h2_ret h0
theorem x_fT (b : BB T Tm S m) (a : Int32) : Hp (f_K_findToken S (some 4) a) (fun q => (∃ s, s < nT m ∧ a = Int32.ofNat s ∧ q = (.inl (some (lel S 24 s)), S)) ∨ (¬ IX (nT m) a ∧ q = (.inr eX, wX S))) := by
  have r := (K4F_of b.1.1).1 14 24 rfl
  obtain ⟨z1, z2, z3⟩ := zT b
  have zz : (sI S 24 2).toInt = (nT m : Int) := by
    rw [z3, z2]
    exact oi (Nat.lt_of_le_of_lt z1 (by decide))
  unfold f_K_findToken
  refine p_of (st_gRe r) (p_of st_rv (p_of st_size (p_bx p_rI (fun v S' p => ?_) (fun e S' p => ?_))))
  · rcases p with ⟨h1, h2, e⟩ | ⟨-, e⟩
    · cases e
      rw [zz] at h2
      obtain ⟨s, s1, rfl⟩ := (IX_iff (n := nT m) (Nat.le_trans z1 (by decide))).mpr ⟨h1, h2⟩
      refine p_of (st_gRe r) (p_of st_rv (p_of (st_get (oc (by have := z1; unfold nT at s1; omega)) (atT b s1)) (p_of st_cc (p_ret (Or.inl ⟨s, s1, rfl, rfl⟩)))))
    · cases e
  · rcases p with ⟨h1, h2, e⟩ | ⟨h, e⟩
    · cases e
    · cases e
      rw [zz, ← IX_iff (n := nT m) (Nat.le_trans z1 (by decide))] at h
      exact Or.inr ⟨h, rfl⟩
theorem x_MT (b : BB T Tm S m) (a : Int32) : Hp (f_M_isToken m (some 57) a) (fun q => (IX (nT m) a ∧ q = (1, m)) ∨ (¬ IX (nT m) a ∧ q = (0, m))) := by
  obtain ⟨z1, z2, z3⟩ := zT b
  have n2 : nT m ≤ 299 := Nat.le_trans z1 (by decide)
  unfold f_M_isToken
  refine p_of (st_gIe (v := Int32.ofNat (nT m)) z2) (p_of (st_b2 (q_isIn m a 0 _)) (p_of st_z (p_ret ?_)))
  by_cases c : IX (nT m) a
  · exact Or.inl ⟨c, by rw [if_pos ((IX_sub n2).mpr c)]⟩
  · exact Or.inr ⟨c, by rw [if_neg (fun q => c ((IX_sub n2).mp q))]⟩
/-- found on both sides, or refused on both -/
theorem h_fT (b : BB T Tm S m) (a : Int32) {γ : Type} {F : Option Nat → AS → Option ((γ ⊕ String) × AS)} {G : AS → Option (Int32 × AS)} {Q : (γ ⊕ String) × AS → Int32 × AS → Prop} (h1 : ∀ s, s < nT m → a = Int32.ofNat s → H2 (F (some (lel S 24 s)) S) (G (wI m 57 82 0)) Q) (h0 : Q (.inr eX, wX S) (0, wI m 57 82 1)) :
    H2 ((kr_rv S 22 (some 4)).bind fun _ => kr_bx (f_K_findToken S (some 4) a) F) ((kr_rv m 23 (some 57)).bind fun _ => kr_b2 (f_M_isToken m (some 57) a) fun v3 S2 => (kr_rv S2 23 (some 57)).bind fun _ => kr_b2 (f_M_may S2 (some 57) v3) fun v6 S5 => if v6 = 0 then some ((0 : Int32), S5) else G S5) Q := by
  refine l_of st_rv (m_of st_rv (m_p2 (x_MT b a) (fun v S2 p => ?_)))
  rcases p with ⟨p1, p2⟩ | ⟨p1, p2⟩
  · cases p2
    refine m_of st_rv (m_p2 p_may (fun v S5 p => ?_))
    cases p
    refine m_of (st_F one0) ?_
    rw [if_neg one0]
    refine l_bx (fun v S' e => ?_) (fun v S' e => ?_)
    · rcases x_fT b a _ e with ⟨s, s1, s2, e2⟩ | ⟨no, e2⟩
      · cases e2
        exact h1 s s1 s2
      · cases e2
    · rcases x_fT b a _ e with ⟨s, s1, s2, e2⟩ | ⟨no, e2⟩
      · cases e2
      · exact absurd p1 no
  · cases p2
    refine m_of st_rv (m_p2 p_may (fun v S5 p => ?_))
    cases p
    refine m_of (st_T rfl) ?_
    rw [if_pos rfl]
    refine l_bx (fun v S' e => ?_) (fun v S' e => ?_)
    · rcases x_fT b a _ e with ⟨s, s1, s2, e2⟩ | ⟨no, e2⟩
      · exact absurd ⟨s, s1, s2⟩ p1
      · cases e2
    · rcases x_fT b a _ e with ⟨s, s1, s2, e2⟩ | ⟨no, e2⟩
      · cases e2
      · cases e2
        exact h2_ret h0
theorem x_fR (b : BB T Tm S m) (a : Int32) : Hp (f_K_findRecovery S (some 4) a) (fun q => (∃ s, s < nR m ∧ a = Int32.ofNat s ∧ q = (.inl (some (lel S 27 s)), S)) ∨ (¬ IX (nR m) a ∧ q = (.inr eX, wX S))) := by
  have r := (K4F_of b.1.1).1 16 27 rfl
  obtain ⟨z1, z2, z3⟩ := zR b
  have zz : (sI S 27 2).toInt = (nR m : Int) := by
    rw [z3, z2]
    exact oi (Nat.lt_of_le_of_lt z1 (by decide))
  unfold f_K_findRecovery
  refine p_of (st_gRe r) (p_of st_rv (p_of st_size (p_bx p_rI (fun v S' p => ?_) (fun e S' p => ?_))))
  · rcases p with ⟨h1, h2, e⟩ | ⟨-, e⟩
    · cases e
      rw [zz] at h2
      obtain ⟨s, s1, rfl⟩ := (IX_iff (n := nR m) (Nat.le_trans z1 (by decide))).mpr ⟨h1, h2⟩
      refine p_of (st_gRe r) (p_of st_rv (p_of (st_get (oc (by have := z1; unfold nR at s1; omega)) (atR b s1)) (p_of st_cc (p_ret (Or.inl ⟨s, s1, rfl, rfl⟩)))))
    · cases e
  · rcases p with ⟨h1, h2, e⟩ | ⟨h, e⟩
    · cases e
    · cases e
      rw [zz, ← IX_iff (n := nR m) (Nat.le_trans z1 (by decide))] at h
      exact Or.inr ⟨h, rfl⟩
theorem x_MR (b : BB T Tm S m) (a : Int32) : Hp (f_M_isRecovery m (some 57) a) (fun q => (IX (nR m) a ∧ q = (1, m)) ∨ (¬ IX (nR m) a ∧ q = (0, m))) := by
  obtain ⟨z1, z2, z3⟩ := zR b
  have n2 : nR m ≤ 299 := Nat.le_trans z1 (by decide)
  unfold f_M_isRecovery
  refine p_of (st_gIe (v := Int32.ofNat (nR m)) z2) (p_of (st_b2 (q_isIn m a 0 _)) (p_of st_z (p_ret ?_)))
  by_cases c : IX (nR m) a
  · exact Or.inl ⟨c, by rw [if_pos ((IX_sub n2).mpr c)]⟩
  · exact Or.inr ⟨c, by rw [if_neg (fun q => c ((IX_sub n2).mp q))]⟩
/-- found on both sides, or refused on both -/
theorem h_fR (b : BB T Tm S m) (a : Int32) {γ : Type} {F : Option Nat → AS → Option ((γ ⊕ String) × AS)} {G : AS → Option (Int32 × AS)} {Q : (γ ⊕ String) × AS → Int32 × AS → Prop} (h1 : ∀ s, s < nR m → a = Int32.ofNat s → H2 (F (some (lel S 27 s)) S) (G (wI m 57 82 0)) Q) (h0 : Q (.inr eX, wX S) (0, wI m 57 82 1)) :
    H2 ((kr_rv S 22 (some 4)).bind fun _ => kr_bx (f_K_findRecovery S (some 4) a) F) ((kr_rv m 23 (some 57)).bind fun _ => kr_b2 (f_M_isRecovery m (some 57) a) fun v3 S2 => (kr_rv S2 23 (some 57)).bind fun _ => kr_b2 (f_M_may S2 (some 57) v3) fun v6 S5 => if v6 = 0 then some ((0 : Int32), S5) else G S5) Q := by
  refine l_of st_rv (m_of st_rv (m_p2 (x_MR b a) (fun v S2 p => ?_)))
  rcases p with ⟨p1, p2⟩ | ⟨p1, p2⟩
  · cases p2
    refine m_of st_rv (m_p2 p_may (fun v S5 p => ?_))
    cases p
    refine m_of (st_F one0) ?_
    rw [if_neg one0]
    refine l_bx (fun v S' e => ?_) (fun v S' e => ?_)
    · rcases x_fR b a _ e with ⟨s, s1, s2, e2⟩ | ⟨no, e2⟩
      · cases e2
        exact h1 s s1 s2
      · cases e2
    · rcases x_fR b a _ e with ⟨s, s1, s2, e2⟩ | ⟨no, e2⟩
      · cases e2
      · exact absurd p1 no
  · cases p2
    refine m_of st_rv (m_p2 p_may (fun v S5 p => ?_))
    cases p
    refine m_of (st_T rfl) ?_
    rw [if_pos rfl]
    refine l_bx (fun v S' e => ?_) (fun v S' e => ?_)
    · rcases x_fR b a _ e with ⟨s, s1, s2, e2⟩ | ⟨no, e2⟩
      · exact absurd ⟨s, s1, s2⟩ p1
      · cases e2
    · rcases x_fR b a _ e with ⟨s, s1, s2, e2⟩ | ⟨no, e2⟩
      · cases e2
      · cases e2
        exact h2_ret h0
theorem x_fp (b : BB T Tm S m) (a : Int32) : Hp (f_K_findPerson S (some 4) a) (fun q => (∃ i, i < 6 ∧ a = Int32.ofNat i ∧ q = (.inl (some (29 + 4 * i)), S)) ∨ (¬ IX 6 a ∧ q = (.inr eX, wX S))) := by
  have r := (K4F_of b.1.1).1 2 8 rfl
  have t8 := (kt4 b.1.1).2.2.2.2.1
  have l8 : sL S 8 = 6 := (b.1.1.t1 8 (by rw [t8]; decide)).2.2.2 6 (by rw [t8]; rfl)
  have bad : f_K_findPerson_B22 S = some (.inr eX, wX S) := rfl
  unfold f_K_findPerson
  refine p_if (fun c => ?_) (fun c => ?_)
  · rw [bad]
    exact p_ret (Or.inr ⟨fun q => by have := (IX_iff (by decide)).mp q; have := lt0.mp c; omega, rfl⟩)
  · refine p_of (st_gRe r) (p_of st_aN ?_)
    rw [l8]
    refine p_if (fun d => ?_) (fun d => ?_)
    · rw [bad]
      refine p_ret (Or.inr ⟨fun q => ?_, rfl⟩)
      have := (IX_iff (by decide)).mp q
      have := Int32.le_iff_toInt_le.mp d
      rw [oi (by decide)] at this
      omega
    · have h0 : 0 ≤ a.toInt := Int.not_lt.mp (fun q => c (lt0.mpr q))
      have h6 : a.toInt < 6 := Int.not_le.mp (fun q => d (Int32.le_iff_toInt_le.mpr (by rw [oi (by decide)]; exact q)))
      obtain ⟨i, i1, rfl⟩ := (IX_iff (n := 6) (a := a) (by decide)).mpr ⟨h0, h6⟩
      refine p_of (st_gRe r) (p_of (st_aRe (oc (by omega)) (b.2.1.1 i i1).1) ?_)
      unfold f_K_findPerson_B23
      exact p_of (st_F (fun q => nomatch q)) (p_ret (Or.inl ⟨i, i1, rfl, rfl⟩))
theorem x_fV (b : BB T Tm S m) (a : Int32) : Hp (f_K_findService S (some 4) a) (fun q => (∃ i, i < 4 ∧ a = Int32.ofNat i ∧ q = (.inl (some (53 + i)), S)) ∨ (¬ IX 4 a ∧ q = (.inr eX, wX S))) := by
  have r := (K4F_of b.1.1).1 11 21 rfl
  have t8 := (kt4 b.1.1).2.2.2.2.2.2.2.2.1
  have l8 : sL S 21 = 4 := (b.1.1.t1 21 (by rw [t8]; decide)).2.2.2 4 (by rw [t8]; rfl)
  have bad : f_K_findService_B22 S = some (.inr eX, wX S) := rfl
  unfold f_K_findService
  refine p_if (fun c => ?_) (fun c => ?_)
  · rw [bad]
    exact p_ret (Or.inr ⟨fun q => by have := (IX_iff (by decide)).mp q; have := lt0.mp c; omega, rfl⟩)
  · refine p_of (st_gRe r) (p_of st_aN ?_)
    rw [l8]
    refine p_if (fun d => ?_) (fun d => ?_)
    · rw [bad]
      refine p_ret (Or.inr ⟨fun q => ?_, rfl⟩)
      have := (IX_iff (by decide)).mp q
      have := Int32.le_iff_toInt_le.mp d
      rw [oi (by decide)] at this
      omega
    · have h0 : 0 ≤ a.toInt := Int.not_lt.mp (fun q => c (lt0.mpr q))
      have h6 : a.toInt < 4 := Int.not_le.mp (fun q => d (Int32.le_iff_toInt_le.mpr (by rw [oi (by decide)]; exact q)))
      obtain ⟨i, i1, rfl⟩ := (IX_iff (n := 4) (a := a) (by decide)).mpr ⟨h0, h6⟩
      refine p_of (st_gRe r) (p_of (st_aRe (oc (by omega)) (b.2.1.2 i i1)) ?_)
      unfold f_K_findService_B23
      exact p_of (st_F (fun q => nomatch q)) (p_ret (Or.inl ⟨i, i1, rfl, rfl⟩))
theorem six_iff (a : Int32) : (0 ≤ a ∧ a ≤ 5) ↔ IX 6 a := IX_lit (n := 5) (by decide) (by decide)
theorem thr_iff (a : Int32) : (0 ≤ a ∧ a ≤ 2) ↔ IX 3 a := IX_lit (n := 2) (by decide) (by decide)
theorem fou_iff (a : Int32) : (0 ≤ a ∧ a ≤ 3) ↔ IX 4 a := IX_lit (n := 3) (by decide) (by decide)
end
end
section
/-! ===== calls that only tell ===== -/
def P0 (_S _m : AS) : Prop := True
theorem ix3 : ∀ i, i < 60 → ∀ f, f < 3 → ((3 : Int32) * Int32.ofNat i + Int32.ofNat f).toNatClampNeg = 3 * i + f := by decide +kernel
theorem ix6 : ∀ i, i < 6 → ∀ f, f < 6 → ((6 : Int32) * Int32.ofNat i + Int32.ofNat f).toNatClampNeg = 6 * i + f := by decide +kernel
theorem ix12 : ∀ i, i < 9 → ∀ f, f < 12 → ((12 : Int32) * Int32.ofNat i + Int32.ofNat f).toNatClampNeg = 12 * i + f := by decide +kernel
section
variable {T Tm : Nat → Nat} {S m : AS}
theorem lv0 (m : AS) {p j : Nat} (h : ¬ (p = 57 ∧ j = 82)) (v : Int32) : sI (wI m 57 82 v) p j = sI m p j := ti_sI_ne h
/-- a person's factor -/
theorem p_stateOf (hp : PF S) {i f : Nat} (hi : i < 6) (hf : f < 3) : Hp (f_Person_stateOf S (some (29 + 4 * i)) (Int32.ofNat f)) (fun q => q = (sI S (30 + 4 * i) f, S)) := by
  unfold f_Person_stateOf
  refine p_of (st_b2 (q_Kfac S _)) ?_
  rw [if_pos ((thr_iff _).mpr ⟨f, hf, rfl⟩)]
  exact p_of (st_F one0) (p_of (st_gRe (hp.1 i hi).2.1) (p_of (st_aIe (oc (by omega)) rfl) (p_ret rfl)))
theorem h_factor (hT : TV T S) (hm : TI Tm m) (h : FR S m) (a f : Int32) : H2 (f_K_factor S (some 4) a f) (f_M_factor m (some 57) a f) (fun x y => AN [eX, eA] x.1 y.1 (sI y.2 57 82) ∧ P0 x.2 y.2) := by
  have b := FR_BB hT hm h
  have hmf := MF_of (TI_t hm 0)
  unfold f_K_factor f_M_factor
  refine m_of (st_b2 (q_six m a)) (m_of (st_b2 (q_fac m f)) (m_of st_rv ?_))
  refine l_of st_rv (l_bx (fun v S' e => ?_) (fun v S' e => ?_))
  · rcases x_fp b a _ e with ⟨i, i1, rfl, e2⟩ | ⟨no, e2⟩
    · cases e2
      rw [if_pos ((six_iff _).mpr ⟨i, i1, rfl⟩)]
      refine l_of (st_b2 (q_Kfac S f)) ?_
      by_cases c : 0 ≤ f ∧ f ≤ 2
      · rw [if_pos c]
        obtain ⟨g, g1, rfl⟩ := (thr_iff f).mp c
        refine m_p2 p_mayB (fun v m' p => ?_)
        cases p
        refine l_of (st_bx (rA1 S)) (l_of st_rv (l_p2 (p_stateOf h.PF i1 g1) (fun w S2 p => ?_)))
        cases p
        refine m_of (st_F one0) (m_of (st_gRe (hmf 1 58 rfl)) (m_of (st_aIe (ix3 i (by omega) g g1) rfl) (h2_ret ⟨?_, trivial⟩)))
        rw [lv0 m (by omega), ← ((h.Fac i i1).1 g g1).1]
        exact AN_v (ti_sI_eq _ _ _ _)
      · rw [if_neg c]
        refine m_p2 p_mayB (fun v m' p => ?_)
        cases p
        exact l_of (st_bxe (rA0 S)) (m_of (st_T rfl) (h2_ret ⟨AN_e 1 rfl (ti_sI_eq _ _ _ _), trivial⟩))
    · cases e2
  · rcases x_fp b a _ e with ⟨i, i1, rfl, e2⟩ | ⟨no, e2⟩
    · cases e2
    · cases e2
      rw [if_neg (fun q => no ((six_iff _).mp q))]
      refine m_p2 p_mayB (fun v m' p => ?_)
      cases p
      exact m_of (st_T rfl) (h2_ret ⟨AN_e 0 rfl (ti_sI_eq _ _ _ _), trivial⟩)
theorem h_state (hT : TV T S) (hm : TI Tm m) (h : FR S m) (a : Int32) : H2 (f_K_state S (some 4) a) (f_M_state m (some 57) a) (fun x y => AN [eX] x.1 y.1 (sI y.2 57 82) ∧ P0 x.2 y.2) := by
  have b := FR_BB hT hm h
  have hmf := MF_of (TI_t hm 0)
  unfold f_K_state f_M_state
  refine h_fA b a (fun s hs e => ?_) ⟨AN_e 0 rfl (ti_sI_eq _ _ _ _), trivial⟩
  have z := h.Att.1.1
  refine l_of st_gI (m_of (st_gRe (hmf 25 80 rfl)) (m_of (st_aIe (n := s) (by rw [e]; exact oc (by unfold uA at hs; omega)) rfl) (h2_ret ⟨?_, trivial⟩)))
  rw [lv0 m (by omega), (h.Ast.2 s hs).1]
  exact AN_v (ti_sI_eq _ _ _ _)
theorem h_sessionOf (hT : TV T S) (hm : TI Tm m) (h : FR S m) (a : Int32) : H2 (f_K_sessionOf S (some 4) a) (f_M_sessionOf m (some 57) a) (fun x y => AN [eX] x.1 y.1 (sI y.2 57 82) ∧ P0 x.2 y.2) := by
  have b := FR_BB hT hm h
  have hmf := MF_of (TI_t hm 0)
  unfold f_K_sessionOf f_M_sessionOf
  refine h_fA b a (fun s hs e => ?_) ⟨AN_e 0 rfl (ti_sI_eq _ _ _ _), trivial⟩
  have z := h.Att.1.1
  refine l_of st_gI (m_of (st_gRe (hmf 28 83 rfl)) (m_of (st_aIe (n := s) (by rw [e]; exact oc (by unfold uA at hs; omega)) rfl) (h2_ret ⟨?_, trivial⟩)))
  rw [lv0 m (by omega), (h.Ast.2 s hs).2.2.1]
  exact AN_v (ti_sI_eq _ _ _ _)
theorem b01_of {v : Int32} (h : v = 0 ∨ v = 1) (m : AS) : (if v = 0 then some ((0 : Int32), m) else some ((1 : Int32), m)) = some (v, m) := by
  rcases h with rfl | rfl
  · rfl
  · rfl
theorem h_isLive (hT : TV T S) (hm : TI Tm m) (h : FR S m) (a : Int32) : H2 (f_K_isLive S (some 4) a) (f_M_isLive m (some 57) a) (fun x y => AN [eX] x.1 y.1 (sI y.2 57 82) ∧ P0 x.2 y.2) := by
  have b := FR_BB hT hm h
  have hmf := MF_of (TI_t hm 0)
  unfold f_K_isLive f_M_isLive
  refine h_fS b a (fun s hs e => ?_) ⟨AN_e 0 rfl (ti_sI_eq _ _ _ _), trivial⟩
  have z := h.Ses.1.1
  obtain ⟨l1, l2⟩ := h.Liv.1 s hs
  refine l_of st_gI (l_of st_z (m_of (st_gRe (hmf 35 89 rfl)) (m_of (st_aIe (n := s) (v := sI m 89 s) (by rw [e]; exact oc (by unfold nS at hs; omega)) (lv0 m (by omega) 0)) ?_)))
  rw [b01_of l2, l1]
  exact h2_ret ⟨AN_v (ti_sI_eq _ _ _ _), trivial⟩
theorem h_isGood (hT : TV T S) (hm : TI Tm m) (h : FR S m) (a : Int32) : H2 (f_K_isGood S (some 4) a) (f_M_isGood m (some 57) a) (fun x y => AN [eX] x.1 y.1 (sI y.2 57 82) ∧ P0 x.2 y.2) := by
  have b := FR_BB hT hm h
  have hmf := MF_of (TI_t hm 0)
  unfold f_K_isGood f_M_isGood
  refine h_fF b a (fun s hs e => ?_) ⟨AN_e 0 rfl (ti_sI_eq _ _ _ _), trivial⟩
  have z := h.Fam.1.1
  have l1 := (h.God.2 s hs).1
  have l2 : sI m 103 s = 0 ∨ sI m 103 s = 1 := by
    obtain ⟨-, t, -⟩ := md_at hm (j := 51) (p := 103) rfl rfl
    exact In01 (hm.t5 103 s 60 0 1 (by rw [t]; rfl) (by unfold nF at hs; omega))
  refine l_of st_gI (l_of st_z (m_of (st_gRe (hmf 51 103 rfl)) (m_of (st_aIe (n := s) (v := sI m 103 s) (by rw [e]; exact oc (by unfold nF at hs; omega)) (lv0 m (by omega) 0)) ?_)))
  rw [b01_of l2, l1]
  exact h2_ret ⟨AN_v (ti_sI_eq _ _ _ _), trivial⟩
theorem h_tokenOf (hT : TV T S) (hm : TI Tm m) (h : FR S m) (a : Int32) : H2 (f_K_tokenOf S (some 4) a) (f_M_tokenOf m (some 57) a) (fun x y => AN [eX] x.1 y.1 (sI y.2 57 82) ∧ P0 x.2 y.2) := by
  have b := FR_BB hT hm h
  have hmf := MF_of (TI_t hm 0)
  unfold f_K_tokenOf f_M_tokenOf
  refine h_fF b a (fun s hs e => ?_) ⟨AN_e 0 rfl (ti_sI_eq _ _ _ _), trivial⟩
  have z := h.Fam.1.1
  refine l_of st_gI (m_of (st_gRe (hmf 50 102 rfl)) (m_of (st_aIe (n := s) (by rw [e]; exact oc (by unfold nF at hs; omega)) rfl) (h2_ret ⟨?_, trivial⟩)))
  rw [lv0 m (by omega), (h.Num s hs).2.2]
  exact AN_v (ti_sI_eq _ _ _ _)
theorem h_token (hT : TV T S) (hm : TI Tm m) (h : FR S m) (a : Int32) : H2 (f_K_token S (some 4) a) (f_M_token m (some 57) a) (fun x y => AN [eX] x.1 y.1 (sI y.2 57 82) ∧ P0 x.2 y.2) := by
  have b := FR_BB hT hm h
  have hmf := MF_of (TI_t hm 0)
  unfold f_K_token f_M_token
  refine h_fT b a (fun s hs e => ?_) ⟨AN_e 0 rfl (ti_sI_eq _ _ _ _), trivial⟩
  have z := h.Tok.1.1
  have ea : a.toNatClampNeg = s := by rw [e]; exact oc (by unfold nT at hs; omega)
  obtain ⟨-, h1, ⟨v, v1, v2, v3⟩, -, h4, -, h6, -⟩ := h.Tok.2 s hs
  refine l_of (st_gIe h6) (l_of (st_gIe h1) (l_of (st_gIe (v2.trans v3.symm)) (l_of (st_gIe h4) ?_)))
  refine m_of (st_gRe (hmf 59 110 rfl)) (m_of (st_aIe ea rfl) (m_of (st_gRe (hmf 53 104 rfl)) (m_of (st_aIe ea rfl) (m_of (st_gRe (hmf 54 105 rfl)) (m_of (st_aIe ea rfl) (m_of (st_gRe (hmf 56 107 rfl)) (m_of (st_aIe ea rfl) (h2_ret ⟨?_, trivial⟩))))))))
  rw [lv0 m (by omega), lv0 m (by omega), lv0 m (by omega), lv0 m (by omega)]
  exact AN_v (ti_sI_eq _ _ _ _)
/-- the level of a session -/
def lvl (f : Nat → Prop) [DecidablePred f] : Int32 := (if f 0 then 1 else 0) + (if f 1 then 2 else 0) + (if f 2 then 3 else 0)
theorem m120 {now v : Int32} (h0 : 0 ≤ now.toInt) (h1 : now.toInt ≤ 30000) (hv : mok v) : (v ≠ -1 ∧ ¬ v < now - 120) ↔ (v ≠ -1 ∧ ¬ 120 < now - v) := by
  have e : (now - 120).toInt = now.toInt - 120 := by
    rw [Int32.toInt_sub, show (120 : Int32).toInt = 120 from by decide]
    exact bm (by omega) (by omega)
  rcases hv with hv | ⟨v0, v1⟩
  · exact ⟨fun q => absurd hv q.1, fun q => absurd hv q.1⟩
  · have e2 : (now - v).toInt = now.toInt - v.toInt := by
      rw [Int32.toInt_sub]
      exact bm (by omega) (by omega)
    rw [Int32.lt_iff_toInt_lt, Int32.lt_iff_toInt_lt, e, e2, show (120 : Int32).toInt = 120 from by decide]
    constructor
    · rintro ⟨q1, q2⟩
      exact ⟨q1, by omega⟩
    · rintro ⟨q1, q2⟩
      exact ⟨q1, by omega⟩
theorem p_weight {f : Nat} (hf : f < 3) (hw : sR S 1 0 = sR S 1 0) : Hp (f_Shown_weightOf S (Int32.ofNat f)) (fun q => q.2 = S) := by
  unfold f_Shown_weightOf
  refine p_of (st_b2 (q_Kfac S _)) ?_
  rw [if_pos ((thr_iff _).mpr ⟨f, hf, rfl⟩)]
  exact p_of (st_F one0) (p_of st_aI (p_ret rfl))
end
end
section
/-! ===== calls that write few cells ===== -/
section
variable {T Tm : Nat → Nat} {S m : AS}
theorem ix4 : ∀ i, i < 7 → ∀ c, c < 4 → ((4 : Int32) * Int32.ofNat i + Int32.ofNat c).toNatClampNeg = 4 * i + c := by decide +kernel
/-- a factor is ready on both sides -/
def RD2 (i g : Nat) (S m S' m' : AS) : Prop := (sR S' = sR S ∧ sL S' = sL S ∧ sR m' = sR m ∧ sL m' = sL m) ∧ (sI S' (30 + 4 * i) g = 1 ∧ sI S' (31 + 4 * i) g = 0 ∧ (g = 2 → sI S' (29 + 4 * i) 3 = 0) ∧ ∀ p j, ¬ (p = 30 + 4 * i ∧ j = g) → ¬ (p = 31 + 4 * i ∧ j = g) → ¬ (p = 29 + 4 * i ∧ j = 3 ∧ g = 2) → sI S' p j = sI S p j) ∧
  (sI m' 58 (3 * i + g) = 1 ∧ sI m' 59 (3 * i + g) = 0 ∧ (g = 2 → sI m' 60 i = 0) ∧ ∀ p j, ¬ (p = 58 ∧ j = 3 * i + g) → ¬ (p = 59 ∧ j = 3 * i + g) → ¬ (p = 60 ∧ j = i ∧ g = 2) → sI m' p j = sI m p j)
theorem h_ready (hp : PF S) (hmf : MF m) {i g : Nat} (hi : i < 6) (hg : g < 3) : H2 (f_Person_makeReady S (some (29 + 4 * i)) (Int32.ofNat g)) (f_M_ready m (some 57) (Int32.ofNat i) (Int32.ofNat g)) (fun S' m' => RD2 i g S m S' m') := by
  have i3 := ix3 i (by omega) g hg
  obtain ⟨-, h1, h2, -⟩ := hp.1 i hi
  unfold f_Person_makeReady f_M_ready
  refine l_of (st_b2 (q_Kfac S _)) ?_
  rw [if_pos ((thr_iff _).mpr ⟨g, hg, rfl⟩)]
  refine l_of (st_F one0) (l_of (st_gRe h1) (l_of (st_bIe (oc (by omega))) (l_of (st_gRe h2) (l_of (st_bIe (oc (by omega))) ?_))))
  refine m_of (st_gRe (hmf 1 58 rfl)) (m_of (st_bIe i3) (m_of (st_gRe (hmf 2 59 rfl)) (m_of (st_bIe i3) ?_)))
  by_cases c : g = 2
  · have c' : Int32.ofNat g = 2 := by rw [c]; rfl
    refine l_of (st_T c') (l_of st_pI (m_of (st_T c') (m_of (st_gRe (hmf 3 60 rfl)) (m_of (st_bIe (oc (by omega))) (h2_ret ?_)))))
    refine ⟨⟨rfl, rfl, rfl, rfl⟩, ⟨?_, ?_, fun _ => ti_sI_eq _ _ _ _, fun p j a1 a2 a3 => ?_⟩, ⟨?_, ?_, fun _ => ti_sI_eq _ _ _ _, fun p j a1 a2 a3 => ?_⟩⟩
    · rw [ti_sI_ne (by omega), ti_sI_ne (by omega), ti_sI_eq]
    · rw [ti_sI_ne (by omega), ti_sI_eq]
    · rw [ti_sI_ne (fun q => a3 ⟨q.1, q.2, c⟩), ti_sI_ne a2, ti_sI_ne a1]
    · rw [ti_sI_ne (by omega), ti_sI_ne (by omega), ti_sI_eq]
    · rw [ti_sI_ne (by omega), ti_sI_eq]
    · rw [ti_sI_ne (fun q => a3 ⟨q.1, q.2, c⟩), ti_sI_ne a2, ti_sI_ne a1]
  · have c' : ¬ Int32.ofNat g = 2 := fun q => c (oinj (by omega) (by omega) (q.trans (show (2 : Int32) = Int32.ofNat 2 from rfl)))
    refine l_of (st_F c') (m_of (st_F c') (h2_ret ?_))
    refine ⟨⟨rfl, rfl, rfl, rfl⟩, ⟨?_, ti_sI_eq _ _ _ _, fun q => absurd q c, fun p j a1 a2 a3 => ?_⟩, ⟨?_, ti_sI_eq _ _ _ _, fun q => absurd q c, fun p j a1 a2 a3 => ?_⟩⟩
    · rw [ti_sI_ne (by omega), ti_sI_eq]
    · rw [ti_sI_ne a2, ti_sI_ne a1]
    · rw [ti_sI_ne (by omega), ti_sI_eq]
    · rw [ti_sI_ne a2, ti_sI_ne a1]
theorem cFac_ready {S' m' : AS} {i g : Nat} (h : cFac S m) (hi : i < 6) (hg : g < 3) (r : RD2 i g S m S' m') : cFac S' m' := by
  obtain ⟨-, ⟨a1, a2, a3, a4⟩, ⟨b1, b2, b3, b4⟩⟩ := r
  intro j hj
  refine ⟨fun f hf => ?_, ?_⟩
  · by_cases c : j = i ∧ f = g
    · obtain ⟨rfl, rfl⟩ := c
      rw [a1, a2, b1, b2]
      exact ⟨rfl, rfl, fun _ => by decide⟩
    · rw [a4 _ _ (by omega) (by omega) (by omega), a4 _ _ (by omega) (by omega) (by omega), b4 _ _ (by omega) (by omega) (by omega), b4 _ _ (by omega) (by omega) (by omega)]
      exact (h j hj).1 f hf
  · by_cases c : j = i ∧ g = 2
    · obtain ⟨rfl, c⟩ := c
      rw [a3 c, b3 c]
    · rw [a4 _ _ (by omega) (by omega) (by omega), b4 _ _ (by omega) (by omega) (by omega)]
      exact (h j hj).2
theorem h_enroll (hT : TV T S) (hm : TI Tm m) (h : FR S m) (a f : Int32) : H2 (f_K_enroll S (some 4) a f) (f_M_enroll m (some 57) a f) (fun x y => AN [eX, eA] x.1 y.1 (sI y.2 57 82) ∧ cFac x.2 y.2) := by
  have b := FR_BB hT hm h
  have hmf := MF_of (TI_t hm 0)
  unfold f_K_enroll f_M_enroll
  refine m_of (st_b2 (q_six m a)) (m_of (st_b2 (q_fac m f)) (m_of st_rv ?_))
  refine l_of st_rv (l_bx (fun v S' e => ?_) (fun v S' e => ?_))
  · rcases x_fp b a _ e with ⟨i, i1, rfl, e2⟩ | ⟨no, e2⟩
    · cases e2
      rw [if_pos ((six_iff _).mpr ⟨i, i1, rfl⟩)]
      refine l_of (st_b2 (q_Kfac S f)) ?_
      by_cases c : 0 ≤ f ∧ f ≤ 2
      · rw [if_pos c]
        obtain ⟨g, g1, rfl⟩ := (thr_iff f).mp c
        refine m_p2 p_mayB (fun v m' p => ?_)
        cases p
        refine l_of (st_bx (rA1 S)) (l_of st_rv (l_p2 (p_stateOf h.PF i1 g1) (fun w S2 p => ?_)))
        cases p
        refine l_of st_rv (m_of (st_F one0) (m_of (st_gRe (hmf 1 58 rfl)) (m_of (st_aIe (ix3 i (by omega) g g1) rfl) (m_of st_rv ?_))))
        refine h2_dd (h_ready h.PF hmf i1 g1) (fun S3 m3 r => h2_ret ⟨?_, cFac_ready (FR_t hT hm h 0).Fac i1 g1 r⟩)
        rw [lv0 m (by omega), ← ((h.Fac i i1).1 g g1).1]
        refine AN_v ?_
        show sI m3 57 82 = 0
        rw [r.2.2.2.2.2 57 82 (by omega) (by omega) (by omega), ti_sI_eq]
      · rw [if_neg c]
        refine m_p2 p_mayB (fun v m' p => ?_)
        cases p
        exact l_of (st_bxe (rA0 S)) (m_of (st_T rfl) (h2_ret ⟨AN_e 1 rfl (ti_sI_eq _ _ _ _), (FR_X hT (TI_t hm 2) (FR_t hT hm h 2)).Fac⟩))
    · cases e2
  · rcases x_fp b a _ e with ⟨i, i1, rfl, e2⟩ | ⟨no, e2⟩
    · cases e2
    · cases e2
      rw [if_neg (fun q => no ((six_iff _).mp q))]
      refine m_p2 p_mayB (fun v m' p => ?_)
      cases p
      exact m_of (st_T rfl) (h2_ret ⟨AN_e 0 rfl (ti_sI_eq _ _ _ _), (FR_X hT (TI_t hm 1) (FR_t hT hm h 1)).Fac⟩)
/-- helper -/
theorem h_helper (hT : TV T S) (hm : TI Tm m) (h : FR S m) (a : Int32) : H2 (f_K_helper S (some 4) a) (f_M_helper m (some 57) a) (fun x y => AN [eX] x.1 y.1 (sI y.2 57 82) ∧ cHlp x.2 y.2) := by
  have b := FR_BB hT hm h
  have hmf := MF_of (TI_t hm 0)
  unfold f_K_helper f_M_helper
  refine m_of (st_b2 (q_six m a)) (m_of st_rv ?_)
  refine l_of st_rv (l_bx (fun v S' e => ?_) (fun v S' e => ?_))
  · rcases x_fp b a _ e with ⟨i, i1, rfl, e2⟩ | ⟨no, e2⟩
    · cases e2
      rw [if_pos ((six_iff _).mpr ⟨i, i1, rfl⟩)]
      refine m_p2 p_may (fun v m' p => ?_)
      cases p
      have hh := (FR_t hT hm h 0).Hlp
      have h10 : sI S (29 + 4 * i) 10 = sI (wI m 57 82 0) 65 i := hh i i1
      have fin : ∀ x : Int32, cHlp (wI S (29 + 4 * i) 10 x) (wI (wI m 57 82 0) 65 i x) := fun x j hj => by
        by_cases c : j = i
        · subst c
          rw [ti_sI_eq, ti_sI_eq]
        · rw [ti_sI_ne (by omega), ti_sI_ne (by omega)]
          exact hh j hj
      refine l_of (st_gIe h10) (m_of (st_F one0) (m_of (st_gRe (hmf 8 65 rfl)) (m_of (st_gRe (hmf 8 65 rfl)) (m_of (st_aIe (oc (by omega)) rfl) (l_if (fun c => ?_) (fun c => ?_))))))
      · refine l_of st_pZ (l_of (st_gIe (ti_sI_eq _ _ _ _)) (l_of st_z (m_of (st_T c) ?_)))
        unfold f_M_helper_B32
        refine m_of (st_bZe (oc (by omega))) (m_of (st_gRe (hmf 8 65 rfl)) (m_of (st_aIe (oc (by omega)) (ti_sI_eq _ _ _ _)) (m_of st_z (h2_ret ⟨AN_v ?_, fin 1⟩))))
        rw [ti_sI_ne (by omega)]
        exact ti_sI_eq _ _ _ _
      · refine l_of st_pZ (l_of (st_gIe (ti_sI_eq _ _ _ _)) (l_of st_z (m_of (st_F c) ?_)))
        unfold f_M_helper_B32
        refine m_of (st_bZe (oc (by omega))) (m_of (st_gRe (hmf 8 65 rfl)) (m_of (st_aIe (oc (by omega)) (ti_sI_eq _ _ _ _)) (m_of st_z (h2_ret ⟨AN_v ?_, fin 0⟩))))
        rw [ti_sI_ne (by omega)]
        exact ti_sI_eq _ _ _ _
    · cases e2
  · rcases x_fp b a _ e with ⟨i, i1, rfl, e2⟩ | ⟨no, e2⟩
    · cases e2
    · cases e2
      rw [if_neg (fun q => no ((six_iff _).mp q))]
      refine m_p2 p_may (fun v m' p => ?_)
      cases p
      exact m_of (st_T rfl) (h2_ret ⟨AN_e 0 rfl (ti_sI_eq _ _ _ _), (FR_X hT (TI_t hm 1) (FR_t hT hm h 1)).Hlp⟩)
/-- need -/
theorem h_need (hT : TV T S) (hm : TI Tm m) (h : FR S m) (a l : Int32) : H2 (f_K_need S (some 4) a l) (f_M_need m (some 57) a l) (fun x y => AN [eX, eA] x.1 y.1 (sI y.2 57 82) ∧ cNed x.2 y.2) := by
  have b := FR_BB hT hm h
  have hmf := MF_of (TI_t hm 0)
  unfold f_K_need f_M_need
  refine m_of (st_b2 (q_ser m a)) (m_of (st_b2 (q_isIn m l 0 6)) (m_of st_rv ?_))
  refine l_of st_rv (l_bx (fun v S' e => ?_) (fun v S' e => ?_))
  · rcases x_fV b a _ e with ⟨i, i1, rfl, e2⟩ | ⟨no, e2⟩
    · cases e2
      rw [if_pos ((fou_iff _).mpr ⟨i, i1, rfl⟩)]
      refine l_of (st_b2 (q_win S l 0 6)) ?_
      by_cases c : 0 ≤ l ∧ l ≤ 6
      · rw [if_pos c]
        refine m_p2 p_mayB (fun v m' p => ?_)
        cases p
        have hh := (FR_t hT hm h 0).Ned
        refine l_of (st_bx (rA1 S)) (l_of (st_gIe (hh i i1)) (l_of st_pI (m_of (st_F one0) (m_of (st_gRe (hmf 38 92 rfl)) (m_of (st_aIe (oc (by omega)) rfl) (m_of (st_gRe (hmf 38 92 rfl)) (m_of (st_bIe (oc (by omega))) (h2_ret ⟨AN_v ?_, fun j hj => ?_⟩))))))))
        · rw [ti_sI_ne (by omega)]
          exact ti_sI_eq _ _ _ _
        · by_cases q : j = i
          · subst q
            rw [ti_sI_eq, ti_sI_eq]
          · rw [ti_sI_ne (by omega), ti_sI_ne (by omega)]
            exact hh j hj
      · rw [if_neg c]
        refine m_p2 p_mayB (fun v m' p => ?_)
        cases p
        exact l_of (st_bxe (rA0 S)) (m_of (st_T rfl) (h2_ret ⟨AN_e 1 rfl (ti_sI_eq _ _ _ _), (FR_X hT (TI_t hm 2) (FR_t hT hm h 2)).Ned⟩))
    · cases e2
  · rcases x_fV b a _ e with ⟨i, i1, rfl, e2⟩ | ⟨no, e2⟩
    · cases e2
    · cases e2
      rw [if_neg (fun q => no ((fou_iff _).mp q))]
      refine m_p2 p_mayB (fun v m' p => ?_)
      cases p
      exact m_of (st_T rfl) (h2_ret ⟨AN_e 0 rfl (ti_sI_eq _ _ _ _), (FR_X hT (TI_t hm 1) (FR_t hT hm h 1)).Ned⟩)
/-- link -/
theorem min1_iff (a : Int32) : (-1 ≤ a ∧ a ≤ 5) ↔ a = -1 ∨ IX 6 a := by
  rw [IX_iff (by decide), Int32.le_iff_toInt_le, Int32.le_iff_toInt_le, show (-1 : Int32).toInt = -1 from by decide, show (5 : Int32).toInt = 5 from by decide]
  constructor
  · intro h
    by_cases c : a.toInt = -1
    · exact Or.inl (Int32.toInt_inj.mp c)
    · exact Or.inr (by omega)
  · rintro (rfl | h)
    · decide
    · omega
theorem h_link (hT : TV T S) (hm : TI Tm m) (h : FR S m) (a p : Int32) : H2 (f_K_link S (some 4) a p) (f_M_link m (some 57) a p) (fun x y => AN [eX, eS] x.1 y.1 (sI y.2 57 82) ∧ cLnk x.2 y.2) := by
  have b := FR_BB hT hm h
  have hmf := MF_of hm
  have r := (K4F_of hT.1).1 17 28 rfl
  have t28 := (kt4 hT.1).2.2.2.2.2.2.2.2.2.2.2
  have l28 : sL S 28 = 6 := (hT.1.t1 28 (by rw [t28]; decide)).2.2.2 6 (by rw [t28]; rfl)
  have bad : H2 (some ((Sum.inr eX : Int32 ⊕ String), wX S)) (f_M_link_B20 m (some 57) a p) (fun x y => AN [eX, eS] x.1 y.1 (sI y.2 57 82) ∧ cLnk x.2 y.2) := by
    unfold f_M_link_B20 f_M_link_B21 f_M_link_B57 f_M_link_B58
    refine m_of (st_T rfl) (m_of st_rv (m_p2 p_mayB (fun v m' q => ?_)))
    cases q
    exact m_of (st_T rfl) (h2_ret ⟨AN_e 0 rfl (ti_sI_eq _ _ _ _), (FR_X hT (TI_t hm 1) (FR_t hT hm h 1)).Lnk⟩)
  unfold f_K_link f_M_link
  refine l_of (st_gRe r) (l_of st_aN ?_)
  rw [l28]
  refine m_of (st_b2 (q_six m a)) (l_bx (fun v S' e => ?_) (fun v S' e => ?_))
  · rcases p_rI _ e with ⟨h1, h2, e2⟩ | ⟨-, e2⟩
    · cases e2
      rw [oi (by decide)] at h2
      obtain ⟨i, i1, rfl⟩ := (IX_iff (n := 6) (a := a) (by decide)).mpr ⟨h1, by omega⟩
      rw [if_pos ((six_iff _).mpr ⟨i, i1, rfl⟩)]
      refine m_of (st_F one0) (m_of (st_b2 (q_isIn m p (-1) 5)) ?_)
      have ok : (p = -1 ∨ IX 6 p) → H2 (f_K_link_B20 S (some 4) (Int32.ofNat i) p) (if (if -1 ≤ p ∧ p ≤ 5 then (1 : Int32) else 0) = 0 then f_M_link_B20 m (some 57) (Int32.ofNat i) p else f_M_link_B21 m (some 57) (Int32.ofNat i) p 1) (fun x y => AN [eX, eS] x.1 y.1 (sI y.2 57 82) ∧ cLnk x.2 y.2) := fun hp => by
        rw [if_pos ((min1_iff p).mpr hp)]
        refine m_of (st_F one0) ?_
        have lk := h.Lnk i i1
        have yes : H2 (f_K_link_B42 S (some 4) (Int32.ofNat i) p (sI m 122 i)) (f_M_link_B53 m (some 57) (Int32.ofNat i) p (some 57) 1) (fun x y => AN [eX, eS] x.1 y.1 (sI y.2 57 82) ∧ cLnk x.2 y.2) := by
          have hmf := MF_of (TI_t hm 0)
          have hh := (FR_t hT hm h 0).Lnk
          unfold f_K_link_B42 f_K_link_B47 f_M_link_B53 f_M_link_B58
          refine l_of (st_bx (rS1 S)) (m_of st_rv (m_p2 p_mayB (fun v m' q => ?_)))
          cases q
          refine m_of (st_F one0) (m_of (st_gRe (hmf 76 122 rfl)) (m_of (st_aIe (v := sI m 122 i) (oc (by omega)) (lv0 m (by omega) 0)) (m_of (st_gRe (hmf 76 122 rfl)) (m_of (st_bIe (oc (by omega))) (l_of (st_gRe r) (l_of (st_bIe (oc (by omega))) (h2_ret ⟨AN_v ?_, fun j hj => ?_⟩)))))))
          · rw [ti_sI_ne (by omega)]
            exact ti_sI_eq _ _ _ _
          · by_cases q : j = i
            · subst q
              rw [ti_sI_eq, ti_sI_eq]
            · rw [ti_sI_ne (by omega), ti_sI_ne (by omega)]
              exact hh j hj
        have no : H2 (f_K_link_B47 S (some 4) (Int32.ofNat i) p (sI m 122 i) 0) (f_M_link_B57 m (some 57) (Int32.ofNat i) p (some 57) 1) (fun x y => AN [eX, eS] x.1 y.1 (sI y.2 57 82) ∧ cLnk x.2 y.2) := by
          unfold f_K_link_B47 f_M_link_B57 f_M_link_B58
          refine l_of (st_bxe (rS0 S)) (m_of st_rv (m_p2 p_mayB (fun v m' q => ?_)))
          cases q
          exact m_of (st_T rfl) (h2_ret ⟨AN_e 1 rfl (ti_sI_eq _ _ _ _), (FR_X hT (TI_t hm 2) (FR_t hT hm h 2)).Lnk⟩)
        unfold f_K_link_B20 f_M_link_B21
        refine m_of (st_F one0) (l_of (st_gRe r) (l_of (st_aIe (oc (by omega)) lk) ?_))
        by_cases c1 : p = -1
        · exact l_of (st_T c1) (m_of (st_T c1) yes)
        · refine l_of (st_F c1) (m_of (st_F c1) (m_of (st_gRe (hmf 76 122 rfl)) (m_of (st_aIe (oc (by omega)) rfl) ?_)))
          by_cases c2 : sI m 122 i = -1
          · exact l_of (st_T c2) (m_of (st_T c2) yes)
          · refine l_of (st_F c2) (m_of (st_F c2) (m_of (st_gRe (hmf 76 122 rfl)) (m_of (st_aIe (oc (by omega)) rfl) ?_)))
            by_cases c3 : sI m 122 i = p
            · exact l_of (st_T c3) (m_of (st_T c3) yes)
            · exact l_of (st_F c3) (m_of (st_F c3) no)
      by_cases c : p = -1
      · exact l_of (st_T c) (ok (Or.inl c))
      · refine l_of (st_F c) (l_bx (fun v S' e => ?_) (fun v S' e => ?_))
        · rcases p_rI _ e with ⟨h3, h4, e2⟩ | ⟨-, e2⟩
          · cases e2
            exact ok (Or.inr ((IX_iff (by decide)).mpr ⟨h3, h4⟩))
          · cases e2
        · rcases p_rI _ e with ⟨h3, h4, e2⟩ | ⟨h3, e2⟩
          · cases e2
          · cases e2
            rw [if_neg (fun q => ((min1_iff p).mp q).elim c (fun z => h3 ((IX_iff (n := 6) (by decide)).mp z)))]
            exact m_of (st_T rfl) bad
    · cases e2
  · rcases p_rI _ e with ⟨h1, h2, e2⟩ | ⟨h1, e2⟩
    · cases e2
    · cases e2
      rw [if_neg (show ¬ (0 ≤ a ∧ a ≤ 5) from fun q => h1 (by have := (IX_iff (n := 6) (by decide)).mp ((six_iff _).mp q); rw [oi (by decide)]; exact this))]
      exact m_of (st_T rfl) bad
end
end
section
/-! ===== consent; keys; services ===== -/
section
variable {T Tm : Nat → Nat} {S m : AS}
theorem h_consent (hT : TV T S) (hm : TI Tm m) (h : FR S m) (p c s : Int32) : H2 (f_K_consent S (some 4) p c s) (f_M_consent m (some 57) p c s) (fun x y => AN [eX, eA] x.1 y.1 (sI y.2 57 82) ∧ cCon x.2 y.2) := by
  have b := FR_BB hT hm h
  have hmf := MF_of (TI_t hm 0)
  have hh := (FR_t hT hm h 0).Con
  have x1 := (FR_X hT (TI_t hm 1) (FR_t hT hm h 1)).Con
  have x2 := (FR_X hT (TI_t hm 2) (FR_t hT hm h 2)).Con
  have t20 := (kt4 hT.1).2.2.2.2.2.2.2.1
  have l20 : sL S 20 = 4 := (hT.1.t1 20 (by rw [t20]; decide)).2.2.2 4 (by rw [t20]; rfl)
  -- the row of the class, its place in the reference
  have core : ∀ (r k : Nat) (pm : Int32), sL S r = 4 → k < 7 → (∀ d, d < 4 → sI S r d = sI (wI m 57 82 0) 91 (4 * k + d)) → (∀ d v, d < 4 → cCon (wI S r d v) (wI (wI m 57 82 0) 91 (4 * k + d) v)) → (-1 ≤ p ∧ p ≤ 5) → ((p = -1 ∧ k = 6) ∨ (p ≠ -1 ∧ p = Int32.ofNat k)) →
      H2 (f_K_consent_B20 S c s (some r)) (if (if 0 ≤ c ∧ c ≤ 3 then (1 : Int32) else 0) = 0 then f_M_consent_B20 m (some 57) p c s else f_M_consent_B21 m (some 57) p c s 1) (fun x y => AN [eX, eA] x.1 y.1 (sI y.2 57 82) ∧ cCon x.2 y.2) := fun r k _ lr hk eq wr hp hpk => by
    unfold f_K_consent_B20
    refine l_of st_aN ?_
    rw [lr]
    refine l_bx (fun v S' e => ?_) (fun v S' e => ?_)
    · rcases p_rI _ e with ⟨h1, h2, e2⟩ | ⟨-, e2⟩
      · cases e2
        rw [oi (by decide)] at h2
        obtain ⟨d, d1, rfl⟩ := (IX_iff (n := 4) (a := c) (by decide)).mpr ⟨h1, by omega⟩
        rw [if_pos ((fou_iff _).mpr ⟨d, d1, rfl⟩)]
        refine m_of (st_F one0) ?_
        unfold f_M_consent_B21
        refine l_of (st_b2 (q_win S s 0 15)) (m_of (st_b2 (q_isIn m s 0 15)) (m_of st_rv ?_))
        by_cases cs : 0 ≤ s ∧ s ≤ 15
        · rw [if_pos cs]
          refine m_p2 p_mayB (fun v m' q => ?_)
          cases q
          refine l_of (st_bx (rA1 S)) (l_of (st_aIe (oc (by omega)) (eq d d1)) (l_of (st_bIe (oc (by omega))) (l_of (st_aIe (oc (by omega)) (ti_sI_eq _ _ _ _)) (m_of (st_F one0) ?_))))
          have go : ∀ y : Int32, ((4 : Int32) * y + Int32.ofNat d).toNatClampNeg = 4 * k + d → H2 (some ((Sum.inl (sI (wI m 57 82 0) 91 (4 * k + d) ||| s) : Int32 ⊕ String), wI S r d (sI (wI m 57 82 0) 91 (4 * k + d) ||| s))) (f_M_consent_B53 (wI m 57 82 0) (some 57) (Int32.ofNat d) s 4 y) (fun x y => AN [eX, eA] x.1 y.1 (sI y.2 57 82) ∧ cCon x.2 y.2) := fun y hy => by
            unfold f_M_consent_B53
            refine m_of st_val (m_of (st_gRe (hmf 37 91 rfl)) (m_of (st_aIe hy rfl) (m_of (st_bIe hy) (m_of (st_gRe (hmf 37 91 rfl)) (m_of (st_aIe hy (ti_sI_eq _ _ _ _)) (h2_ret ⟨AN_v ?_, wr d _ d1⟩))))))
            rw [ti_sI_ne (by omega)]
            exact ti_sI_eq _ _ _ _
          rcases hpk with ⟨q1, q2⟩ | ⟨q1, q2⟩
          · refine m_of (st_T q1) (go 6 ?_)
            rw [q2]
            exact ix4 6 (by decide) d d1
          · refine m_of (st_F q1) (go p ?_)
            rw [q2]
            exact ix4 k hk d d1
        · rw [if_neg cs]
          refine m_p2 p_mayB (fun v m' q => ?_)
          cases q
          exact l_of (st_bxe (rA0 S)) (m_of (st_T rfl) (h2_ret ⟨AN_e 1 rfl (ti_sI_eq _ _ _ _), x2⟩))
      · cases e2
    · rcases p_rI _ e with ⟨h1, h2, e2⟩ | ⟨h1, e2⟩
      · cases e2
      · cases e2
        rw [if_neg (show ¬ (0 ≤ c ∧ c ≤ 3) from fun q => h1 (by have := (IX_iff (n := 4) (by decide)).mp ((fou_iff _).mp q); rw [oi (by decide)]; exact this))]
        refine m_of (st_T rfl) ?_
        unfold f_M_consent_B20 f_M_consent_B21
        refine m_of (st_b2 (q_isIn m s 0 15)) (m_of st_rv (m_p2 p_mayB (fun v m' q => ?_)))
        cases q
        exact m_of (st_T rfl) (h2_ret ⟨AN_e 0 rfl (ti_sI_eq _ _ _ _), x1⟩)
  unfold f_K_consent f_M_consent
  refine m_of (st_b2 (q_isIn m p (-1) 5)) ?_
  by_cases c1 : p = -1
  · rw [if_pos ((min1_iff p).mpr (Or.inl c1))]
    refine l_of (st_T c1) (l_of (st_gRe ((K4F_of hT.1).1 10 20 rfl)) (m_of (st_F one0) (m_of (st_b2 (q_ser m c)) ?_)))
    refine core 20 6 0 l20 (by decide) (fun d hd => (hh d hd).2) (fun d v hd e he => ⟨fun i hi => ?_, ?_⟩) ((min1_iff p).mpr (Or.inl c1)) (Or.inl ⟨c1, rfl⟩)
    · rw [ti_sI_ne (by omega), ti_sI_ne (by omega)]
      exact (hh e he).1 i hi
    · by_cases q : e = d
      · subst q
        rw [ti_sI_eq]
        exact (ti_sI_eq _ _ _ _).symm
      · rw [ti_sI_ne (by omega), ti_sI_ne (by omega)]
        exact (hh e he).2
  · refine l_of (st_F c1) (l_of st_rv (l_bx (fun v S' e => ?_) (fun v S' e => ?_)))
    · rcases x_fp b p _ e with ⟨i, i1, hpi, e2⟩ | ⟨no, e2⟩
      · cases e2
        have hix : IX 6 p := ⟨i, i1, hpi⟩
        rw [if_pos ((min1_iff p).mpr (Or.inr hix))]
        refine l_of (st_gRe (h.PF.1 i i1).2.2.2.1) (m_of (st_F one0) (m_of (st_b2 (q_ser m c)) ?_))
        have t := (kt_P hT.1 h.PF i1).2.2.2
        refine core (32 + 4 * i) i 0 ((hT.1.t1 _ (by rw [t]; decide)).2.2.2 4 (by rw [t]; rfl)) (by omega) (fun d hd => (hh d hd).1 i i1) (fun d v hd e he => ⟨fun j hj => ?_, ?_⟩) ((min1_iff p).mpr (Or.inr hix)) (Or.inr ⟨c1, hpi⟩)
        · by_cases q : e = d ∧ j = i
          · obtain ⟨rfl, rfl⟩ := q
            rw [ti_sI_eq, ti_sI_eq]
          · rw [ti_sI_ne (by omega), ti_sI_ne (by omega)]
            exact (hh e he).1 j hj
        · rw [ti_sI_ne (by omega), ti_sI_ne (by omega)]
          exact (hh e he).2
      · cases e2
    · rcases x_fp b p _ e with ⟨i, i1, hpi, e2⟩ | ⟨no, e2⟩
      · cases e2
      · cases e2
        rw [if_neg (fun q => ((min1_iff p).mp q).elim c1 no)]
        refine m_of (st_T rfl) ?_
        unfold f_M_consent_B20 f_M_consent_B21
        refine m_of (st_b2 (q_isIn m s 0 15)) (m_of st_rv (m_p2 p_mayB (fun v m' q => ?_)))
        cases q
        exact m_of (st_T rfl) (h2_ret ⟨AN_e 0 rfl (ti_sI_eq _ _ _ _), x1⟩)
/-- the keys' calls -/
def P_key (S m : AS) : Prop := cKey S m
theorem h_signing (hT : TV T S) (hm : TI Tm m) (h : FR S m) : H2 (f_K_signing S (some 4)) (f_M_signing m (some 57)) (fun x y => x.1 = y.1 ∧ P0 x.2 y.2) := by
  obtain ⟨c, g, -, -, h3, -⟩ := h.Key
  unfold f_K_signing f_M_signing
  refine l_of (st_gRe ((K4F_of hT.1).1 15 25 rfl)) (l_of st_gI (m_of st_pI (m_of st_gI (h2_ret ⟨?_, trivial⟩))))
  rw [ti_sI_ne (by omega)]
  exact h3.2.1
theorem h_sessions (hT : TV T S) (hm : TI Tm m) (h : FR S m) : H2 (f_K_sessions S (some 4)) (f_M_sessions m (some 57)) (fun x y => x.1 = y.1 ∧ P0 x.2 y.2) := by
  unfold f_K_sessions f_M_sessions
  refine l_of (st_gRe ((K4F_of hT.1).1 8 19 rfl)) (l_of st_rv (l_of st_size (m_of st_pI (m_of st_gI (h2_ret ⟨?_, trivial⟩)))))
  rw [ti_sI_ne (by omega)]
  exact h.Ses.1.2.2
theorem h_audits (hT : TV T S) (hm : TI Tm m) (h : FR S m) (hb : (sI m 57 77).toInt ≤ 1024) : H2 (f_K_audits S (some 4)) (f_M_audits m (some 57)) (fun x y => x.1 = y.1 ∧ P0 x.2 y.2) := by
  obtain ⟨h1, h2, h3, -⟩ := h.AU
  unfold f_K_audits f_M_audits
  refine l_of (st_gRe ((K4F_of hT.1).1 1 5 rfl)) (l_of st_gI (m_of st_pI (m_of st_gI (h2_ret ⟨?_, trivial⟩))))
  rw [ti_sI_ne (by omega)]
  show sI S 5 2 = sI m 57 77
  exact Int32.toInt_inj.mp (by rw [h3]; omega)
theorem h_isPublished (hT : TV T S) (hm : TI Tm m) (h : FR S m) (a : Int32) : H2 (f_K_isPublished S (some 4) a) (f_M_isPublished m (some 57) a) (fun x y => AN [eX] x.1 y.1 (sI y.2 57 82) ∧ P0 x.2 y.2) := by
  have hmf := MF_of (TI_t hm 0)
  have r := (K4F_of hT.1).1 15 25 rfl
  obtain ⟨c, g, h1, h2, h3, -, -, h6, -, h8⟩ := h.Key
  unfold f_K_isPublished f_M_isPublished
  refine l_of (st_gRe r) (l_of (st_gIe (h3.1.trans h2.1)) (m_of (st_gIe h2.1) (m_of (st_b2 (q_isIn m a 0 _)) (m_of st_rv ?_))))
  refine l_bx (fun v S' e => ?_) (fun v S' e => ?_)
  · rcases p_rI _ e with ⟨a1, a2, e2⟩ | ⟨-, e2⟩
    · cases e2
      rw [oi (by omega)] at a2
      obtain ⟨k, k1, rfl⟩ := (IX_iff (n := c) (a := a) (by omega)).mpr ⟨a1, a2⟩
      rw [if_pos ((IX_sub (by omega)).mpr ⟨k, k1, rfl⟩)]
      refine m_p2 p_may (fun v m' p => ?_)
      cases p
      refine l_of (st_gRe r) (l_of st_gI (l_of (st_b2 (bt_is20 (by omega) S)) (l_of st_z (m_of (st_F one0) (m_of st_rv ?_)))))
      have kp := h8 k (by omega)
      unfold KP at kp
      rw [h2.1, oi (by omega)] at kp
      unfold f_M_isOpenKey f_M_isOpenKey_B40
      have e1 : sI (wI m 57 82 0) 57 60 = Int32.ofNat c := (lv0 m (by omega) 0).trans h2.1
      have fin : ∀ y : Int32, (y = 1 ↔ bt (sI S 25 4) k = true) → (y = 0 ∨ y = 1) → H2 (some ((Sum.inl (if bt (sI S 25 4) k = true then 1 else 0) : Int32 ⊕ String), S)) (if y = 0 then some ((0 : Int32), wI m 57 82 0) else some ((1 : Int32), wI m 57 82 0)) (fun x y => AN [eX] x.1 y.1 (sI y.2 57 82) ∧ P0 x.2 y.2) := fun y hy h01 => by
        rw [b01_of h01]
        by_cases q : bt (sI S 25 4) k = true
        · rw [if_pos q, hy.mpr q]
          exact h2_ret ⟨AN_v (ti_sI_eq _ _ _ _), trivial⟩
        · rw [if_neg q, h01.resolve_right (fun z => q (hy.mp z))]
          exact h2_ret ⟨AN_v (ti_sI_eq _ _ _ _), trivial⟩
      refine m_p2 (P := fun q => q.2 = wI m 57 82 0 ∧ (q.1 = 0 ∨ q.1 = 1) ∧ (q.1 = 1 ↔ bt (sI S 25 4) k = true)) ?_ (fun y m2 p => ?_)
      · refine p_of (st_gIe e1) (p_of (st_F (fun q => by have := (ole (by omega) (by omega)).mp q; omega)) (p_of (st_gRe (hmf 64 111 rfl)) (p_of (st_aIe (v := sI m 111 k) (oc (by omega)) (lv0 m (by omega) 0)) ?_)))
        refine p_if (fun c1 => ?_) (fun c1 => p_ret ⟨rfl, Or.inl rfl, fun q => absurd (show (0 : Int32) = 1 from q) (by decide), fun q => absurd (kp.mp q).2.1 c1⟩)
        refine p_of (st_gRe (hmf 65 112 rfl)) (p_of (st_aIe (v := sI m 112 k) (oc (by omega)) (lv0 m (by omega) 0)) (p_if (fun c2 => p_ret ⟨rfl, Or.inr rfl, fun _ => kp.mpr ⟨by omega, c1, Or.inl c2⟩, fun _ => rfl⟩) (fun c2 => ?_)))
        refine p_of (st_gIe (v := sI m 57 0) (lv0 m (by omega) 0)) (p_of (st_gRe (hmf 65 112 rfl)) (p_of (st_aIe (v := sI m 112 k) (oc (by omega)) (lv0 m (by omega) 0)) ?_))
        refine p_if (fun c3 => p_ret ⟨rfl, Or.inl rfl, fun q => absurd (show (0 : Int32) = 1 from q) (by decide), fun q => ?_⟩) (fun c3 => p_ret ⟨rfl, Or.inr rfl, fun _ => kp.mpr ⟨by omega, c1, Or.inr ?_⟩, fun _ => rfl⟩)
        · have := (kp.mp q).2.2.resolve_left c2
          have := Int32.le_iff_toInt_le.mp c3
          omega
        · exact Int.not_le.mp (fun q => c3 (Int32.le_iff_toInt_le.mpr q))
      · obtain ⟨p1, p2, p3⟩ := p
        have p1 : m2 = _ := p1
        rw [p1]
        exact fin y p3 p2
    · cases e2
  · rcases p_rI _ e with ⟨a1, a2, e2⟩ | ⟨a1, e2⟩
    · cases e2
    · cases e2
      rw [if_neg (show ¬ (0 ≤ a ∧ a ≤ Int32.ofNat c - 1) from fun q => a1 (by have := (IX_iff (n := c) (by omega)).mp ((IX_sub (by omega)).mp q); rw [oi (by omega)]; exact this))]
      refine m_p2 p_may (fun v m' p => ?_)
      cases p
      exact m_of (st_T rfl) (h2_ret ⟨AN_e 0 rfl (ti_sI_eq _ _ _ _), trivial⟩)
/-- the next key is published -/
theorem h_turn (hT : TV T S) (hm : TI Tm m) (h : FR S m) : H2 (f_K_turn S (some 4)) (f_M_turn m (some 57)) (fun x y => AN [eS] x.1 y.1 (sI y.2 57 82) ∧ cKey x.2 y.2) := by
  have r := (K4F_of hT.1).1 15 25 rfl
  have x1 := (FR_X hT (TI_t hm 1) (FR_t hT hm h 1)).Key
  have n := h.NW
  obtain ⟨c, g, h1, h2, h3, h4, h5, h6, h7, h8⟩ := h.Key
  have bad : H2 (f_K_turn_B27 S (some 4)) (f_M_turn_B22 m (some 57) (some 57)) (fun x y => AN [eS] x.1 y.1 (sI y.2 57 82) ∧ cKey x.2 y.2) := by
    unfold f_K_turn_B27 f_K_turn_B28 f_M_turn_B22 f_M_turn_B23
    refine l_of (st_bxe (rS0 S)) (m_of st_rv (m_p2 p_may (fun v m' q => ?_)))
    cases q
    exact m_of (st_T rfl) (h2_ret ⟨AN_e 0 rfl (ti_sI_eq _ _ _ _), x1⟩)
  unfold f_K_turn f_M_turn
  refine l_of (st_gRe r) (l_of (st_gIe h3.2.2.1) (m_of st_gI ?_))
  by_cases c1 : sI m 57 62 = -1
  · refine l_of (st_T c1) (m_of (st_T c1) (l_of (st_gRe r) (l_of (st_gIe (h3.1.trans h2.1)) (m_of (st_gIe h2.1) ?_))))
    by_cases c2 : (20 : Int32) ≤ Int32.ofNat c
    · exact l_of (st_T c2) (m_of (st_T c2) bad)
    · refine l_of (st_F c2) (m_of (st_F c2) ?_)
      have c20 : c < 20 := Nat.not_le.mp (fun q => c2 ((ole (a := 20) (b := c) (by decide) (by omega)).mpr q))
      unfold f_K_turn_B28 f_M_turn_B23 f_Keyring_publishWaiting f_Keyring_publishNext
      refine l_of (st_bx (rS1 S)) (m_of st_rv (m_p2 p_may (fun v m' q => ?_)))
      cases q
      refine m_of (st_F one0) (l_of (st_gRe r) (l_of (st_gIe n.1) (l_of st_rv ?_)))
      refine l_p2 (P := fun q => q.1 = Int32.ofNat c ∧ q.2 = wI (wI (wI (wI S 25 4 (sI S 25 4 ||| ((1 : Int32) <<< (Int32.ofNat c &&& 31)))) 25 0 (Int32.ofNat c + 1)) 25 2 (Int32.ofNat c)) 25 3 (sI m 57 0 + 5)) ?_ (fun v S' p => ?_)
      · refine p_of st_rv ?_
        refine p_b2 (P := fun q => q.1 = Int32.ofNat c ∧ q.2 = wI (wI S 25 4 (sI S 25 4 ||| ((1 : Int32) <<< (Int32.ofNat c &&& 31)))) 25 0 (Int32.ofNat c + 1)) ?_ (fun v S' p => ?_)
        · refine p_of st_gI (p_of (st_gIe (h3.1.trans h2.1)) (p_of st_pI (p_of (st_gIe (v := Int32.ofNat c) ((ti_sI_ne (by omega)).trans (h3.1.trans h2.1))) (p_of st_pI (p_of (st_gIe (ti_sI_eq _ _ _ _)) (p_ret ⟨?_, rfl⟩))))))
          exact Int32.add_sub_cancel _ _
        · obtain ⟨p1, p2⟩ := p
          have p1 : v = _ := p1
          have p2 : S' = _ := p2
          rw [p1, p2]
          exact p_of st_pI (p_of st_pI (p_of (st_gIe (v := Int32.ofNat c) ((ti_sI_ne (by omega)).trans (ti_sI_eq _ _ _ _))) (p_ret ⟨rfl, rfl⟩)))
      · obtain ⟨p1, p2⟩ := p
        have p1 : v = _ := p1
        have p2 : S' = _ := p2
        rw [p1, p2]
        refine m_of (st_gIe (v := Int32.ofNat c) ((lv0 m (by omega) 0).trans h2.1)) (m_of st_pI (m_of (st_gIe (v := sI m 57 0) ((ti_sI_ne (by omega)).trans (lv0 m (by omega) 0))) (m_of st_pI (m_of (st_gIe (v := Int32.ofNat c) ((ti_sI_ne (by omega)).trans ((ti_sI_ne (by omega)).trans ((lv0 m (by omega) 0).trans h2.1)))) (m_of st_pI (m_of (st_gIe (v := Int32.ofNat c) ?_) (h2_ret ⟨AN_v ?_, ?_⟩)))))))
        · rw [ti_sI_ne (by omega), ti_sI_ne (by omega), ti_sI_eq]
        · rw [ti_sI_ne (by omega), ti_sI_ne (by omega), ti_sI_ne (by omega)]
          exact ti_sI_eq _ _ _ _
        · obtain ⟨M, eM⟩ : ∃ M, M = wI (wI (wI (wI m 57 82 0) 57 62 (Int32.ofNat c)) 57 63 (sI m 57 0 + 5)) 57 60 (Int32.ofNat c + 1) := ⟨_, rfl⟩
          show cKey _ (wI (wI (wI (wI m 57 82 0) 57 62 (Int32.ofNat c)) 57 63 (sI m 57 0 + 5)) 57 60 (Int32.ofNat c + 1))
          rw [← eM]
          have oM : ∀ p j, ¬ (p = 57 ∧ (j = 82 ∨ j = 62 ∨ j = 63 ∨ j = 60)) → sI M p j = sI m p j := fun p j q => by
            rw [eM, ti_sI_ne (by omega), ti_sI_ne (by omega), ti_sI_ne (by omega), ti_sI_ne (by omega)]
          have m60 : sI M 57 60 = Int32.ofNat (c + 1) := by rw [eM, ti_sI_eq, o1]
          have m62 : sI M 57 62 = Int32.ofNat c := by rw [eM, ti_sI_ne (by omega), ti_sI_ne (by omega), ti_sI_eq]
          have m63 : sI M 57 63 = sI m 57 0 + 5 := by rw [eM, ti_sI_ne (by omega), ti_sI_eq]
          unfold cKey
          rw [oM 57 0 (by omega)]
          refine ⟨c + 1, g, by omega, ⟨m60, by rw [oM 57 61 (by omega)]; exact h2.2⟩, ⟨?_, ?_, ?_, ?_⟩, by rw [oM 112 g (by omega)]; exact h4, Or.inr ⟨c, by omega, by omega, m62, by rw [oM 112 c (by omega)]; exact (h7 c c20 (Nat.le_refl _)).2⟩, fun k hk => ?_, fun k hk hk2 => ?_, fun k hk => ?_⟩
          · rw [ti_sI_ne (by omega), ti_sI_ne (by omega), ti_sI_eq, m60, o1]
          · rw [ti_sI_ne (by omega), ti_sI_ne (by omega), ti_sI_ne (by omega), ti_sI_ne (by omega), oM 57 61 (by omega)]
            exact h3.2.1
          · rw [ti_sI_ne (by omega), ti_sI_eq, m62]
          · rw [ti_sI_eq, m63]
          · rw [ti_sI_ne (by omega), ti_sI_ne (by omega), ti_sI_ne (by omega), ti_sI_ne (by omega), oM 112 k (by omega)]
            exact h6 k hk
          · rw [oM 111 k (by omega), oM 112 k (by omega)]
            exact h7 k hk (by omega)
          · rw [ti_sI_ne (by omega), ti_sI_ne (by omega), ti_sI_ne (by omega), ti_sI_eq, bt_sh20 _ c20, h8 k hk]
            unfold KP
            rw [m60, oM 111 k (by omega), oM 112 k (by omega), h2.1, oi (by omega), oi (by omega)]
            constructor
            · rintro (q | q)
              · exact ⟨by have := q.1; omega, q.2⟩
              · rw [q]
                exact ⟨by omega, (h7 c c20 (Nat.le_refl _)).1, Or.inl (h7 c c20 (Nat.le_refl _)).2⟩
            · rintro ⟨q1, q2⟩
              by_cases q : k = c
              · exact Or.inr q
              · exact Or.inl ⟨by omega, q2⟩
  · exact l_of (st_F c1) (m_of (st_F c1) bad)
end
end
section
/-! ===== emergency; lag; line; check ===== -/
section
variable {T Tm : Nat → Nat} {S m : AS}
theorem p_pubNext {c : Nat} (hc : sI S 25 0 = Int32.ofNat c) : Hp (f_Keyring_publishNext S (some 25)) (fun q => q.1 = Int32.ofNat c ∧ q.2 = wI (wI S 25 4 (sI S 25 4 ||| ((1 : Int32) <<< (Int32.ofNat c &&& 31)))) 25 0 (Int32.ofNat c + 1)) := by
  unfold f_Keyring_publishNext
  exact p_of st_gI (p_of (st_gIe hc) (p_of st_pI (p_of (st_gIe (v := Int32.ofNat c) ((ti_sI_ne (by omega)).trans hc)) (p_of st_pI (p_of (st_gIe (ti_sI_eq _ _ _ _)) (p_ret ⟨Int32.add_sub_cancel _ _, rfl⟩))))))
def RPL (c g : Nat) (w : Int32) (S S' : AS) : Prop := (sR S' = sR S ∧ sL S' = sL S ∧ ∀ p j, p ≠ 25 → sI S' p j = sI S p j) ∧ sI S' 25 2 = -1 ∧ sI S' 25 3 = sI S 25 3 ∧
  ((w = -1 ∧ sI S' 25 0 = Int32.ofNat (c + 1) ∧ sI S' 25 1 = Int32.ofNat c ∧ ∀ k, k < 20 → (bt (sI S' 25 4) k = true ↔ (bt (sI S 25 4) k = true ∧ k ≠ g) ∨ k = c)) ∨ (w ≠ -1 ∧ sI S' 25 0 = Int32.ofNat c ∧ sI S' 25 1 = w ∧ ∀ k, k < 20 → (bt (sI S' 25 4) k = true ↔ bt (sI S 25 4) k = true ∧ k ≠ g)))
theorem p_repl {c g : Nat} {w : Int32} (hc : sI S 25 0 = Int32.ofNat c) (hg : sI S 25 1 = Int32.ofNat g) (hw : sI S 25 2 = w) (g20 : g < 20) (c20 : w = -1 → c < 20) : Hp (f_Keyring_replaceSigner S (some 25)) (fun S' => RPL c g w S S') := by
  unfold f_Keyring_replaceSigner
  refine p_of st_gI (p_of (st_gIe hg) (p_of st_pI (p_of (st_gIe (v := w) ((ti_sI_ne (by omega)).trans hw)) (p_if (fun q => ?_) (fun q => ?_)))))
  · refine p_of st_rv (p_b2 (p_pubNext (c := c) ((ti_sI_ne (by omega)).trans hc)) (fun v S' p => ?_))
    obtain ⟨p1, p2⟩ := p
    have p1 : v = _ := p1
    have p2 : S' = _ := p2
    rw [p1, p2]
    unfold f_Keyring_replaceSigner_B37
    refine p_of st_pI (p_of st_pI (p_ret ⟨⟨rfl, rfl, fun p j h => ?_⟩, ti_sI_eq _ _ _ _, ?_, Or.inl ⟨q, ?_, ?_, fun k hk => ?_⟩⟩))
    · rw [ti_sI_ne (by omega), ti_sI_ne (by omega), ti_sI_ne (by omega), ti_sI_ne (by omega), ti_sI_ne (by omega)]
    · rw [ti_sI_ne (by omega), ti_sI_ne (by omega), ti_sI_ne (by omega), ti_sI_ne (by omega), ti_sI_ne (by omega)]
    · rw [ti_sI_ne (by omega), ti_sI_ne (by omega), ti_sI_eq, o1]
    · rw [ti_sI_ne (by omega), ti_sI_eq]
    · rw [ti_sI_ne (by omega), ti_sI_ne (by omega), ti_sI_ne (by omega), ti_sI_eq, bt_sh20 _ (c20 q), ti_sI_eq, bt_cl20 _ g20 (by omega)]
  · unfold f_Keyring_replaceSigner_B37
    refine p_of (st_gIe (v := w) ((ti_sI_ne (by omega)).trans hw)) (p_of st_pI (p_of st_pI (p_ret ⟨⟨rfl, rfl, fun p j h => ?_⟩, ti_sI_eq _ _ _ _, ?_, Or.inr ⟨q, ?_, ?_, fun k hk => ?_⟩⟩)))
    · rw [ti_sI_ne (by omega), ti_sI_ne (by omega), ti_sI_ne (by omega)]
    · rw [ti_sI_ne (by omega), ti_sI_ne (by omega), ti_sI_ne (by omega)]
    · rw [ti_sI_ne (by omega), ti_sI_ne (by omega), ti_sI_ne (by omega)]
      exact hc
    · rw [ti_sI_ne (by omega), ti_sI_eq]
    · rw [ti_sI_ne (by omega), ti_sI_ne (by omega), ti_sI_eq, bt_cl20 _ g20 (by omega)]
/-- the reference's emergency, behind the publishing -/
theorem h_emergency (hT : TV T S) (hm : TI Tm m) (h : FR S m) : H2 (f_K_emergency S (some 4)) (f_M_emergency m (some 57)) (fun x y => AN [eS] x.1 y.1 (sI y.2 57 82) ∧ cKey x.2 y.2 ∧ cAU x.2 y.2) := by
  have r := (K4F_of hT.1).1 15 25 rfl
  have kf := K4F_of hT.1
  have x1 := FR_X hT (TI_t hm 1) (FR_t hT hm h 1)
  have hmf := MF_of (TI_t hm 0)
  have n := h.NW
  have f0 := FR_t hT hm h 0
  obtain ⟨c, g, h1, h2, h3, h4, h5, h6, h7, h8⟩ := h.Key
  have yes : (sI m 57 62 = -1 → c < 20) → H2 (f_K_emergency_B23 S (some 4)) (f_M_emergency_B18 m (some 57) (some 57)) (fun x y => AN [eS] x.1 y.1 (sI y.2 57 82) ∧ cKey x.2 y.2 ∧ cAU x.2 y.2) := fun c20 => by
    unfold f_K_emergency_B23 f_K_emergency_B28 f_M_emergency_B18 f_M_emergency_B23
    refine l_of (st_bx (rS1 S)) (m_of st_rv (m_p2 p_may (fun v m' q => ?_)))
    cases q
    refine m_of (st_F one0) (l_of (st_gRe r) (l_of st_rv (l_pd (p_repl (h3.1.trans h2.1) (h3.2.1.trans h2.2) h3.2.2.1 (by omega) c20) (fun S5 p => ?_))))
    obtain ⟨⟨r1, r2, r3⟩, r4, r5, r6⟩ := p
    -- the reference up to the signing
    have tail : ∀ (m5 : AS) (gg : Nat), gg < 20 → sI m5 57 62 = Int32.ofNat gg → sI S5 25 1 = Int32.ofNat gg → sR m5 = sR m → sL m5 = sL m → (∀ p j, ¬ (p = 111 ∧ j = g) → ¬ (p = 57 ∧ (j = 82 ∨ j = 60 ∨ j = 62)) → sI m5 p j = sI m p j) → sI m5 57 82 = 0 →
        (∀ M, (∀ p j, ¬ (p = 57 ∧ (j = 61 ∨ j = 62)) → sI M p j = sI m5 p j) → sI M 57 61 = Int32.ofNat gg → sI M 57 62 = -1 → ∀ S9, (∀ j, sI S9 25 j = sI S5 25 j) → (∀ j, sI S9 26 j = sI S5 26 j) → KY (sI m 57 0).toInt S9 M) →
        H2 ((gR S5 22 1 (some 4)).bind fun v6 => (gR S5 22 15 (some 4)).bind fun v7 => (gI S5 15 1 v7).bind fun v8 => (gI S5 22 0 (some 4)).bind fun v9 => (kr_rv S5 12 v6).bind fun u10 => (f_Audit_write S5 v6 (5 : Int32) v8 v9).bind fun S11 => (gR S11 22 15 (some 4)).bind fun v12 => (gI S11 15 1 v12).bind fun v13 => some ((Sum.inl v13 : Int32 ⊕ String), S11))
          (f_M_emergency_B67 m5 (some 57)) (fun x y => AN [eS] x.1 y.1 (sI y.2 57 82) ∧ cKey x.2 y.2 ∧ cAU x.2 y.2) := fun m5 gg g20 e62 eS5 er el eo e82 ky => by
      unfold f_M_emergency_B67
      refine m_of (st_gIe e62) (m_of st_pI (m_of st_pI (m_of (st_gIe (v := Int32.ofNat gg) ((ti_sI_ne (by omega)).trans (ti_sI_eq _ _ _ _))) (m_of st_rv ?_))))
      obtain ⟨M, eM⟩ : ∃ M, M = wI (wI m5 57 61 (Int32.ofNat gg)) 57 62 (-1) := ⟨_, rfl⟩
      rw [← eM]
      have oM : ∀ p j, ¬ (p = 57 ∧ (j = 61 ∨ j = 62)) → sI M p j = sI m5 p j := fun p j q => by rw [eM, ti_sI_ne (by omega), ti_sI_ne (by omega)]
      have kf5 : K4F S5 := by
        unfold K4F
        rw [r1]
        exact kf
      refine l_of (st_gRe (kf5.1 1 5 rfl)) (l_of (st_gRe (kf5.1 15 25 rfl)) (l_of (st_gIe eS5) (l_of st_gI (l_of st_rv (l_pd (p_aw kf5.2.1 kf5.2.2.1) (fun S11 a => ?_))))))
      refine m_pd (p_mw (m := M) (MF_e (MF_of hm) (by rw [eM]; exact er))) (fun m6 b => ?_)
      have a : AWK S5 S11 (Int32.ofNat 5) (Int32.ofNat gg) := a
      have b : AWM M m6 (Int32.ofNat 5) (Int32.ofNat gg) := b
      have rr : sR S11 4 15 = some 25 := by rw [a.1.1]; exact kf5.1 15 25 rfl
      have s1 : sI S11 25 1 = Int32.ofNat gg := (a.1.2.2 25 1 (by omega) (by omega) (by omega)).trans eS5
      have M61 : sI M 57 61 = Int32.ofNat gg := by rw [eM, ti_sI_ne (by omega), ti_sI_eq]
      have m61 : sI m6 57 61 = Int32.ofNat gg := (b.1.2.2 57 61 (by omega) (by omega) (by omega) (by omega)).trans M61
      refine l_of (st_gRe rr) (l_of (st_gIe s1) (m_of (st_gIe m61) (h2_ret ⟨AN_v ?_, ?_, ?_⟩)))
      · rw [b.1.2.2 57 82 (by omega) (by omega) (by omega) (by omega), oM 57 82 (by omega), e82]
      · unfold cKey
        have e0 : sI m6 57 0 = sI m 57 0 := by rw [b.1.2.2 57 0 (by omega) (by omega) (by omega) (by omega), oM 57 0 (by omega), eo 57 0 (by omega) (by omega)]
        rw [e0]
        exact KY_cong (S := S11) (ky M oM M61 (by rw [eM, ti_sI_eq]) S11 (fun j => a.1.2.2 25 j (by omega) (by omega) (by omega)) (fun j => a.1.2.2 26 j (by omega) (by omega) (by omega))) (fun _ => rfl) (fun _ => rfl) (fun p j q => b.1.2.2 p j (by omega) (by omega) (by omega) (by omega))
      · have n60 : nS m ≤ 60 := h.Ses.1.1
        have e89 : sI m6 89 = sI m 89 := funext fun x => by rw [b.1.2.2 89 x (by omega) (by omega) (by omega) (by omega), oM 89 x (by omega), eo 89 x (by omega) (by omega)]
        have eS : nS m6 = nS m := by
          unfold nS
          rw [b.1.2.2 57 30 (by omega) (by omega) (by omega) (by omega), oM 57 30 (by omega), eo 57 30 (by omega) (by omega)]
        unfold cAU
        rw [e89, eS]
        refine AU_w (k := 5) (nu := gg) (lv := sI m 89) (n := nS m) (S := S5) (m := M) (AU_cong h.AU (r3 5 2 (by omega)) (funext fun j => r3 6 j (by omega)) ?_ ?_ ?_ rfl) ?_ n60 n60 (by omega) (by omega) a b (fun s _ => by omega) (fun s _ => ⟨Or.inl, fun q => q.elim id (fun z => absurd z.1 (by decide))⟩) (fun s h => Or.inl ⟨rfl, h, Or.inl (by omega)⟩)
        · rw [oM 57 77 (by omega), eo 57 77 (by omega) (by omega)]
        · exact funext fun j => by rw [oM 123 j (by omega), eo 123 j (by omega) (by omega)]
        · exact funext fun j => by rw [oM 124 j (by omega), eo 124 j (by omega) (by omega)]
        · rw [eM]
          show sL m5 123 = 1200
          rw [el]
          exact (ST_of hT hm h).2.2.2.1.2.2.2.2.2.2.2.2
    refine m_of (st_gRe (hmf 64 111 rfl)) (m_of (st_gIe (v := Int32.ofNat g) ((lv0 m (by omega) 0).trans h2.2)) (m_of (st_bZe (oc (by omega))) (m_of (st_gIe (v := sI m 57 62) ((ti_sI_ne (by omega)).trans (lv0 m (by omega) 0))) ?_)))
    rcases r6 with ⟨w1, w2, w3, w4⟩ | ⟨w1, w2, w3, w4⟩
    · have c20 := c20 w1
      refine m_of (st_T w1) (m_of (st_gIe (v := Int32.ofNat c) ((ti_sI_ne (by omega)).trans ((lv0 m (by omega) 0).trans h2.1))) (m_of st_pI (m_of (st_gIe (v := Int32.ofNat c) ((ti_sI_ne (by omega)).trans ((ti_sI_ne (by omega)).trans ((lv0 m (by omega) 0).trans h2.1)))) (m_of st_pI ?_))))
      refine tail _ c c20 ?_ w3 rfl rfl (fun p j q1 q2 => ?_) ?_ (fun M oM e61 e62 S9 k25 k26 => ?_)
      · rw [ti_sI_ne (by omega), ti_sI_eq]
      · rw [ti_sI_ne (by omega), ti_sI_ne (by omega), ti_sI_ne q1, ti_sI_ne (by omega)]
      · rw [ti_sI_ne (by omega), ti_sI_ne (by omega), ti_sI_ne (by omega)]
        exact ti_sI_eq _ _ _ _
      · have m60 : sI M 57 60 = Int32.ofNat (c + 1) := by rw [oM 57 60 (by omega), ti_sI_eq, o1]
        have m63 : sI M 57 63 = sI m 57 63 := by rw [oM 57 63 (by omega), ti_sI_ne (by omega), ti_sI_ne (by omega), ti_sI_ne (by omega), ti_sI_ne (by omega)]
        have m112 : ∀ k, sI M 112 k = sI m 112 k := fun k => by rw [oM 112 k (by omega), ti_sI_ne (by omega), ti_sI_ne (by omega), ti_sI_ne (by omega), ti_sI_ne (by omega)]
        have m111 : ∀ k, k ≠ g → sI M 111 k = sI m 111 k := fun k q => by rw [oM 111 k (by omega), ti_sI_ne (by omega), ti_sI_ne (by omega), ti_sI_ne (fun z => q z.2), ti_sI_ne (by omega)]
        have m111g : sI M 111 g = 1 := by rw [oM 111 g (by omega), ti_sI_ne (by omega), ti_sI_ne (by omega), ti_sI_eq]
        refine ⟨c + 1, c, by omega, ⟨m60, e61⟩, ⟨?_, ?_, ?_, ?_⟩, by rw [m112]; exact (h7 c c20 (Nat.le_refl _)).2, Or.inl e62, fun k hk => by rw [m112, k26, r3 26 k (by omega)]; exact h6 k hk, fun k hk hk2 => by rw [m112, m111 k (by omega)]; exact h7 k hk (by omega), fun k hk => ?_⟩
        · rw [k25, w2, m60]
        · rw [k25, w3, e61]
        · rw [k25, r4, e62]
        · rw [k25, r5, m63]
          exact h3.2.2.2
        · rw [k25, w4 k hk, h8 k hk]
          unfold KP
          rw [m60, m112, h2.1, oi (by omega), oi (by omega)]
          by_cases q : k = g
          · subst q
            rw [m111g]
            constructor
            · rintro (z | z)
              · exact absurd rfl z.2
              · omega
            · rintro ⟨-, z, -⟩
              exact absurd z (by decide)
          · rw [m111 k q]
            constructor
            · rintro (⟨⟨z1, z2⟩, -⟩ | z)
              · exact ⟨by omega, z2⟩
              · rw [z]
                exact ⟨by omega, (h7 c c20 (Nat.le_refl _)).1, Or.inl (h7 c c20 (Nat.le_refl _)).2⟩
            · rintro ⟨z1, z2⟩
              by_cases z : k = c
              · exact Or.inr z
              · exact Or.inl ⟨⟨by omega, z2⟩, q⟩
    · obtain ⟨w, u1, u2, u3, u4⟩ := h5.resolve_left w1
      refine m_of (st_F w1) ?_
      refine tail _ w (by omega) ?_ (w3.trans u3) rfl rfl (fun p j q1 q2 => ?_) ?_ (fun M oM e61 e62 S9 k25 k26 => ?_)
      · rw [ti_sI_ne (by omega), lv0 m (by omega), u3]
      · rw [ti_sI_ne q1, ti_sI_ne (by omega)]
      · rw [ti_sI_ne (by omega)]
        exact ti_sI_eq _ _ _ _
      · have m60 : sI M 57 60 = sI m 57 60 := by rw [oM 57 60 (by omega), ti_sI_ne (by omega), ti_sI_ne (by omega)]
        have m63 : sI M 57 63 = sI m 57 63 := by rw [oM 57 63 (by omega), ti_sI_ne (by omega), ti_sI_ne (by omega)]
        have m112 : ∀ k, sI M 112 k = sI m 112 k := fun k => by rw [oM 112 k (by omega), ti_sI_ne (by omega), ti_sI_ne (by omega)]
        have m111 : ∀ k, k ≠ g → sI M 111 k = sI m 111 k := fun k q => by rw [oM 111 k (by omega), ti_sI_ne (fun z => q z.2), ti_sI_ne (by omega)]
        have m111g : sI M 111 g = 1 := by rw [oM 111 g (by omega), ti_sI_eq]
        refine ⟨c, w, by omega, ⟨m60.trans h2.1, e61⟩, ⟨?_, ?_, ?_, ?_⟩, by rw [m112]; exact u4, Or.inl e62, fun k hk => by rw [m112, k26, r3 26 k (by omega)]; exact h6 k hk, fun k hk hk2 => by rw [m112, m111 k (by omega)]; exact h7 k hk hk2, fun k hk => ?_⟩
        · rw [k25, w2, m60, h2.1]
        · rw [k25, w3, e61, u3]
        · rw [k25, r4, e62]
        · rw [k25, r5, m63]
          exact h3.2.2.2
        · rw [k25, w4 k hk, h8 k hk]
          unfold KP
          rw [m60, m112]
          by_cases q : k = g
          · subst q
            rw [m111g]
            constructor
            · rintro z
              exact absurd rfl z.2
            · rintro ⟨-, z, -⟩
              exact absurd z (by decide)
          · rw [m111 k q]
            exact ⟨fun z => z.1, fun z => ⟨z, q⟩⟩
  unfold f_K_emergency f_M_emergency
  refine l_of (st_gRe r) (l_of (st_gIe h3.2.2.1) (m_of st_gI ?_))
  by_cases c1 : sI m 57 62 = -1
  · refine l_of (st_T c1) (m_of (st_T c1) (l_of (st_gRe r) (l_of (st_gIe (h3.1.trans h2.1)) (m_of (st_gIe h2.1) ?_))))
    by_cases c2 : (20 : Int32) ≤ Int32.ofNat c
    · refine l_of (st_T c2) (m_of (st_T c2) ?_)
      unfold f_K_emergency_B28 f_M_emergency_B23
      refine l_of (st_bxe (rS0 S)) (m_of st_rv (m_p2 p_may (fun v m' q => ?_)))
      cases q
      exact m_of (st_T rfl) (h2_ret ⟨AN_e 0 rfl (ti_sI_eq _ _ _ _), x1.Key, x1.AU⟩)
    · exact l_of (st_F c2) (m_of (st_F c2) (yes (fun _ => Nat.not_le.mp (fun q => c2 ((ole (a := 20) (b := c) (by decide) (by omega)).mpr q)))))
  · exact l_of (st_F c1) (m_of (st_F c1) (yes (fun q => absurd q c1)))
/-- lag -/
theorem h_lag (hT : TV T S) (hm : TI Tm m) (h : FR S m) (a : Int32) : H2 (f_K_lag S (some 4) a) (f_M_lag m (some 57) a) (fun x y => AN [eX] x.1 y.1 (sI y.2 57 82) ∧ P0 x.2 y.2) := by
  have b := FR_BB hT hm h
  have hmf := MF_of (TI_t hm 0)
  have L : ∀ {p j : Nat}, ¬ (p = 57 ∧ j = 82) → sI (wI m 57 82 0) p j = sI m p j := fun q => lv0 m q 0
  unfold f_K_lag f_M_lag
  refine h_fT b a (fun t ht e => ?_) ⟨AN_e 0 rfl (ti_sI_eq _ _ _ _), trivial⟩
  have z := h.Tok.1.1
  have zf := h.Fam.1.1
  have ea : a.toNatClampNeg = t := by rw [e]; exact oc (by unfold nT at ht; omega)
  obtain ⟨⟨f, f1, f2, f3⟩, -, ⟨v, v1, v2, v3⟩, -, -, -, h6, h7, h8⟩ := h.Tok.2 t ht
  obtain ⟨g1, g2, g3⟩ := h.God.2 f f1
  have f60 : f < 60 := by unfold nF at f1; omega
  have no : H2 (some ((Sum.inl (0 : Int32) : Int32 ⊕ String), S)) (f_M_lag_B69 (wI m 57 82 0) (some 57) a) (fun x y => AN [eX] x.1 y.1 (sI y.2 57 82) ∧ P0 x.2 y.2) := by
    unfold f_M_lag_B69 f_M_lag_B70
    exact m_of (st_T rfl) (h2_ret ⟨AN_v (ti_sI_eq _ _ _ _), trivial⟩)
  refine l_of (st_gRe f2) (l_of (st_gIe g1) ?_)
  refine m_of (st_gRe (hmf 51 103 rfl)) (m_of (st_gRe (hmf 57 108 rfl)) (m_of (st_aIe ea ((L (by omega)).trans f3)) (m_of (st_aIe (v := sI m 103 f) (oc (by omega)) (L (by omega))) ?_)))
  by_cases c1 : sI m 103 f = 0
  · refine l_of (st_T c1) (m_of (st_T c1) (l_of (st_gIe v2) (l_of (st_gRe f2) (l_of st_gI (l_of (st_b2 (bt_is (by omega) S)) ?_)))))
    refine m_of (st_gRe (hmf 69 116 rfl)) (m_of (st_gRe (hmf 54 105 rfl)) (m_of (st_aIe ea ((L (by omega)).trans v3)) (m_of (st_gRe (hmf 57 108 rfl)) (m_of (st_aIe ea ((L (by omega)).trans f3)) (m_of (st_aIe (v := sI m 116 (60 * v + f)) (ix60 v v1 f f60) (L (by omega))) ?_)))))
    have t01 : sI m 116 (60 * v + f) = 0 ∨ sI m 116 (60 * v + f) = 1 := by
      obtain ⟨-, tt, -⟩ := md_at hm (j := 69) (p := 116) rfl rfl
      exact In01 (hm.t5 116 _ 240 0 1 (by rw [tt]; rfl) (by omega))
    have td := g2 v v1
    by_cases c2 : sI m 116 (60 * v + f) = 1
    · rw [if_pos (td.mpr c2)]
      exact l_of (st_F one0) (m_of (st_F (by rw [c2]; decide)) no)
    · rw [if_neg (fun q => c2 (td.mp q))]
      have n := h.NW
      refine l_of (st_T rfl) (m_of (st_T (t01.resolve_right c2)) (l_of (st_gIe h6) (l_of (st_gIe n.1) ?_)))
      refine m_of (st_gIe (v := sI m 57 0) (L (by omega))) (m_of (st_gRe (hmf 59 110 rfl)) (m_of (st_aIe (v := sI m 110 t) ea (L (by omega))) ?_))
      have e1 : (sI m 110 t - sI m 57 0 + 1).toInt = (sI m 110 t).toInt - (sI m 57 0).toInt + 1 := by
        obtain ⟨-, n1, n2⟩ := h.NW
        have e0 : (sI m 110 t - sI m 57 0).toInt = (sI m 110 t).toInt - (sI m 57 0).toInt := by
          rw [Int32.toInt_sub]
          exact bm (by omega) (by omega)
        rw [Int32.toInt_add, e0, show (1 : Int32).toInt = 1 from by decide]
        exact bm (by omega) (by omega)
      by_cases c3 : sI m 110 t < sI m 57 0
      · rw [if_neg (fun q => by
          have := Int32.lt_iff_toInt_lt.mp q
          have := Int32.lt_iff_toInt_lt.mp c3
          rw [e1, show (0 : Int32).toInt = 0 from by decide] at *
          omega)]
        exact m_of (st_T c3) no
      · rw [if_pos (Int32.lt_iff_toInt_lt.mpr (by
          have : ¬ (sI m 110 t).toInt < (sI m 57 0).toInt := fun q => c3 (Int32.lt_iff_toInt_lt.mpr q)
          rw [e1, show (0 : Int32).toInt = 0 from by decide]
          omega))]
        refine m_of (st_F c3) ?_
        unfold f_M_lag_B70
        refine m_of (st_F one0) (m_of (st_gRe (hmf 59 110 rfl)) (m_of (st_aIe (v := sI m 110 t) ea (L (by omega))) (m_of (st_gIe (v := sI m 57 0) (L (by omega))) (h2_ret ⟨AN_v (ti_sI_eq _ _ _ _), trivial⟩))))
  · exact l_of (st_F c1) (m_of (st_F c1) no)
end
end
section
/-! ===== points, line, check, level, asked ===== -/
theorem l_inl {α β : Type} {x : Option (α × AS)} {y : Option β} {P : α × AS → β → Prop} {Q : (α ⊕ String) × AS → β → Prop} (h : H2 x y P) (g : ∀ v S' b, P (v, S') b → Q (.inl v, S') b) : H2 (kr_b2 x fun v S' => some (Sum.inl v, S')) y Q := l_b2 (fun v S' e a b ha hb => by
  cases ha
  exact g _ _ _ (h _ _ e hb))
theorem m_hp {α β : Type} {x : Option α} {y : Option β} {P : β → Prop} {Q : α → β → Prop} (hc : Hp y P) (h : ∀ b, P b → H2 x (some b) Q) : H2 x y Q := fun a b ha hb => h b (hc b hb) a b ha rfl
theorem st_row {α : Type} {S : AS} {κ p j k : Nat} {i v : Int32} {F : Int32 → Option α} (hi : i.toNatClampNeg = k) (e : sI S (fa S p j) k = v) : Le ((gR S κ j (some p)).bind fun r => (aI S 40 r i).bind F) (F v) := fun a ha => by
  have h := (bind_cut ha).2
  unfold fa at e
  cases c : sR S p j with
  | none =>
    rw [c] at h
    exact nomatch h
  | some q =>
    rw [c] at h e
    have z := (bind_cut h).2
    rw [hi] at z
    rw [← e]
    exact z
section
variable {T Tm : Nat → Nat} {S m : AS}
theorem h_points (hT : TV T S) (hm : TI Tm m) (h : FR S m) (a p c : Int32) : H2 (f_K_points S (some 4) a p c) (f_M_points m (some 57) a p c) (fun x y => AN [eA] x.1 y.1 (sI y.2 57 82) ∧ cPts x.2 y.2) := by
  have hmf := MF_of (TI_t hm 0)
  have kf := K4F_of hT.1
  have h0 := (FR_t hT hm h 0).Pts
  have bad : H2 (some ((Sum.inr eA : Int32 ⊕ String), wX S)) (f_M_points_B32 m (some 57) a p c (some 57) 0) (fun x y => AN [eA] x.1 y.1 (sI y.2 57 82) ∧ cPts x.2 y.2) := by
    unfold f_M_points_B32
    refine m_of st_rv (m_p2 p_may (fun v m' q => ?_))
    cases q
    exact m_of (st_T rfl) (h2_ret ⟨AN_e 0 rfl (ti_sI_eq _ _ _ _), (FR_X hT (TI_t hm 1) (FR_t hT hm h 1)).Pts⟩)
  have yes : ∀ i, i < 3 → a = Int32.ofNat i → H2 (if c = 0 then (gR S 22 3 (some 4)).bind fun v7 => f_K_points_B41 S a p v7 else (gR S 22 4 (some 4)).bind fun v8 => f_K_points_B41 S a p v8) (f_M_points_B32 m (some 57) a p c (some 57) 1) (fun x y => AN [eA] x.1 y.1 (sI y.2 57 82) ∧ cPts x.2 y.2) := fun i hi ea => by
    have ei : a.toNatClampNeg = i := by rw [ea]; exact oc (by omega)
    obtain ⟨p1, p2⟩ := h.Pts i hi
    unfold f_M_points_B32 f_M_points_B59 f_K_points_B41
    refine m_of st_rv (m_p2 p_may (fun v m' q => ?_))
    cases q
    refine m_of (st_F one0) ?_
    by_cases d : c = 0
    · refine l_of (st_T d) (m_of (st_T d) (l_of (st_gRe (kf.1 3 9 rfl)) (l_of (st_aIe ei p1) (l_of (st_bIe ei) ?_))))
      refine m_of (st_gRe (hmf 17 73 rfl)) (m_of (st_aIe (v := sI m 73 i) ei (lv0 m (by omega) 0)) (m_of (st_T d) (m_of (st_gRe (hmf 17 73 rfl)) (m_of (st_bIe ei) (h2_ret ⟨AN_v ?_, fun j hj => ?_⟩)))))
      · rw [ti_sI_ne (by omega)]
        exact ti_sI_eq _ _ _ _
      · obtain ⟨z1, z2⟩ := h0 j hj
        by_cases q : j = i
        · subst q
          exact ⟨(ti_sI_eq _ _ _ _).trans (ti_sI_eq _ _ _ _).symm, (ti_sI_ne (by omega)).trans (z2.trans (ti_sI_ne (by omega)).symm)⟩
        · exact ⟨(ti_sI_ne (by omega)).trans (z1.trans (ti_sI_ne (by omega)).symm), (ti_sI_ne (by omega)).trans (z2.trans (ti_sI_ne (by omega)).symm)⟩
    · refine l_of (st_F d) (m_of (st_F d) (l_of (st_gRe (kf.1 4 10 rfl)) (l_of (st_aIe ei p2) (l_of (st_bIe ei) ?_))))
      refine m_of (st_gRe (hmf 18 74 rfl)) (m_of (st_aIe (v := sI m 74 i) ei (lv0 m (by omega) 0)) (m_of (st_F d) (m_of (st_gRe (hmf 18 74 rfl)) (m_of (st_bIe ei) (h2_ret ⟨AN_v ?_, fun j hj => ?_⟩)))))
      · rw [ti_sI_ne (by omega)]
        exact ti_sI_eq _ _ _ _
      · obtain ⟨z1, z2⟩ := h0 j hj
        by_cases q : j = i
        · subst q
          exact ⟨(ti_sI_ne (by omega)).trans (z1.trans (ti_sI_ne (by omega)).symm), (ti_sI_eq _ _ _ _).trans (ti_sI_eq _ _ _ _).symm⟩
        · exact ⟨(ti_sI_ne (by omega)).trans (z1.trans (ti_sI_ne (by omega)).symm), (ti_sI_ne (by omega)).trans (z2.trans (ti_sI_ne (by omega)).symm)⟩
  unfold f_K_points f_M_points f_M_points_B31
  refine l_of (st_b2 (q_win S a 0 2)) (m_of (st_b2 (q_isIn m a 0 2)) ?_)
  by_cases ca : 0 ≤ a ∧ a ≤ 2
  · rw [if_pos ca]
    obtain ⟨i, i1, i2⟩ := (thr_iff a).mp ca
    refine l_of (st_bx (rA1 S)) (m_of (st_F one0) ?_)
    have two : ∀ lo : Int32, H2 (f_K_points_B19 S (some 4) a p c p lo) (f_M_points_B20 m (some 57) a p c (some 57) p lo) (fun x y => AN [eA] x.1 y.1 (sI y.2 57 82) ∧ cPts x.2 y.2) := fun lo => by
      unfold f_K_points_B19 f_M_points_B20 f_M_points_B31
      refine l_of (st_b2 (q_win S p lo 5)) (m_of (st_b2 (q_isIn m p lo 5)) ?_)
      by_cases cp : lo ≤ p ∧ p ≤ 5
      · rw [if_pos cp]
        exact l_of (st_bx (rA1 S)) (m_of (st_F one0) (yes i i1 i2))
      · rw [if_neg cp]
        exact l_of (st_bxe (rA0 S)) (m_of (st_T rfl) bad)
    by_cases d : c = 0
    · exact l_of (st_T d) (m_of (st_T d) (two 0))
    · exact l_of (st_F d) (m_of (st_F d) (two (-1)))
  · rw [if_neg ca]
    exact l_of (st_bxe (rA0 S)) (m_of (st_T rfl) bad)
/-! line -/
def LB (n nt v : Nat) (S1 m1 : AS) : Prop := K4F S1 ∧ MF m1 ∧ n ≤ 60 ∧ nt ≤ 200 ∧ v < 4 ∧ (sI S1 23 2 = Int32.ofNat n ∧ sI m1 57 46 = Int32.ofNat n ∧ sI m1 57 52 = Int32.ofNat nt ∧ sI m1 113 v = 0) ∧
  (∀ f, f < n → sR S1 ((sR S1 23 1).getD 0) f = some (lel S1 23 f)) ∧ (∀ f g, f < n → g < n → lel S1 23 f = lel S1 23 g → f = g) ∧ (∀ f, f < n → sI S1 (lel S1 23 f) 6 = sI m1 103 f ∧ (bt (sI S1 (lel S1 23 f) 10) v = true ↔ ∃ t, t < nt ∧ sI m1 108 t = Int32.ofNat f ∧ sI m1 105 t = Int32.ofNat v))
def LI (n : Nat) (S1 m1 S m : AS) : Prop :=
  (sR S = sR S1 ∧ sL S = sL S1 ∧ ∀ p j, ¬ (j = 11 ∧ ∃ f, f < n ∧ p = lel S1 23 f) → sI S p j = sI S1 p j) ∧ (sR m = sR m1 ∧ sL m = sL m1 ∧ ∀ p j, p ≠ 116 → sI m p j = sI m1 p j) ∧
  (∀ f, f < n → ∀ u, u < 4 → (bt (sI S (lel S1 23 f) 11) u = true ↔ sI m 116 (60 * u + f) = 1)) ∧ (∀ f, f < n → sI m1 103 f ≠ 0 → ∀ u, u < 4 → sI m 116 (60 * u + f) = 0) ∧ (∀ j, j < 240 → sI m 116 j = 0 ∨ sI m 116 j = 1) ∧ (∀ x, n ≤ x → x < 60 → ∀ u, u < 4 → sI m 116 (60 * u + x) = 0)
theorem h_line_L {n nt v : Nat} {S1 m1 : AS} (hb : LB n nt v S1 m1) : ∀ (k i fu fu' : Nat) (c : Int32) (S m : AS), i + k = n → LI n S1 m1 S m →
    H2 (f_K_tellOfEnded_L4 fu S (some 4) (Int32.ofNat v) c (Int32.ofNat i)) (f_M_line_L37 fu' m (some 57) (Int32.ofNat v) c (Int32.ofNat i)) (fun a b => a.1 = b.1 ∧ LI n S1 m1 a.2 b.2)
  | _, _, 0, _, _, _, _, _, _ => h2_l0
  | _, _, _ + 1, 0, _, _, _, _, _ => h2_m0
  | 0, i, fu + 1, fu' + 1, c, S, m, hk, h => by
    unfold f_K_tellOfEnded_L4 f_K_tellOfEnded_C4 f_M_line_L37 f_M_line_C37
    obtain ⟨h4, hmf, n60, nt2, v4, ⟨e1, e2, e3, e4⟩, -⟩ := hb
    have h' := h
    obtain ⟨⟨a1, a2, a3⟩, ⟨b1, b2, b3⟩, -⟩ := h
    have le : Int32.ofNat n ≤ Int32.ofNat i := (ole (by omega) (by omega)).mpr (by omega)
    refine l_of (st_gRe (v := some 23) (by rw [a1]; exact h4.1 13 23 rfl)) (l_of st_rv (l_of st_size ?_))
    rw [show sI S 23 2 = Int32.ofNat n from (a3 23 2 (by omega)).trans e1]
    exact l_of (st_T le) (m_of (st_gIe ((b3 57 46 (by omega)).trans e2)) (m_of (st_T le) (h2_ret ⟨rfl, h'⟩)))
  | k + 1, i, fu + 1, fu' + 1, c, S, m, hk, h => by
    unfold f_K_tellOfEnded_L4 f_K_tellOfEnded_C4 f_M_line_L37 f_M_line_C37
    have hb' := hb
    obtain ⟨h4, hmf, n60, nt2, v4, ⟨e1, e2, e3, e4⟩, e5, e6, e7⟩ := hb
    obtain ⟨⟨a1, a2, a3⟩, ⟨b1, b2, b3⟩, g1, g2, g3, g4⟩ := h
    have hmf' : MF m := MF_e hmf b1
    have nle : ¬ Int32.ofNat n ≤ Int32.ofNat i := fun q => by
      have := (ole (by omega) (by omega)).mp q
      omega
    have at' : sR S ((sR S 23 1).getD 0) i = some (lel S1 23 i) := by
      rw [a1]
      exact e5 i (by omega)
    have ix := ix60 v v4 i (by omega)
    have go : ∀ (S' : AS) (c' w b : Int32), (w = 0 ∨ w = 1) → c' = c + w → (b = 0 ∨ b = 1) → (sR S' = sR S ∧ sL S' = sL S ∧ ∀ p j, ¬ (p = lel S1 23 i ∧ j = 11) → sI S' p j = sI S p j) → (∀ u, u < 4 → (bt (sI S' (lel S1 23 i) 11) u = true ↔ if u = v then b = 1 else bt (sI S (lel S1 23 i) 11) u = true)) → (sI m1 103 i ≠ 0 → b = 0) →
        H2 (f_K_tellOfEnded_B48 (f_K_tellOfEnded_L4 fu) S' (some 4) (Int32.ofNat v) c' (Int32.ofNat i)) (f_M_line_B127 (f_M_line_L37 fu') m (some 57) (Int32.ofNat v) c (Int32.ofNat i) w (some 116) ((60 : Int32) * Int32.ofNat v + Int32.ofNat i) b) (fun a b => a.1 = b.1 ∧ LI n S1 m1 a.2 b.2) := fun S' c' w b hw hc hb01 ho ht hz => by
      unfold f_K_tellOfEnded_B48 f_M_line_B127 f_M_line_B139
      have nx : H2 (f_K_tellOfEnded_L4 fu S' (some 4) (Int32.ofNat v) c' (Int32.ofNat i + 1)) (f_M_line_L37 fu' (wI m 116 (60 * v + i) b) (some 57) (Int32.ofNat v) c' (Int32.ofNat i + 1)) (fun a b => a.1 = b.1 ∧ LI n S1 m1 a.2 b.2) := by
        rw [o1]
        refine h_line_L hb' k (i + 1) fu fu' c' S' _ (by omega) ⟨⟨ho.1.trans a1, ho.2.1.trans a2, fun p j q => ?_⟩, ⟨b1, b2, fun p j q => ?_⟩, fun f hf u hu => ?_, fun f hf q u hu => ?_, fun j hj => ?_, fun x q1 q2 u hu => ?_⟩
        · rw [ho.2.2 p j (fun z => q ⟨z.2, i, by omega, z.1⟩)]
          exact a3 p j q
        · rw [ti_sI_ne (fun z => q z.1)]
          exact b3 p j q
        · by_cases z : f = i
          · subst z
            rw [ht u hu]
            by_cases y : u = v
            · subst y
              rw [if_pos rfl, ti_sI_eq]
            · rw [if_neg y, ti_sI_ne (by omega)]
              exact g1 f hf u hu
          · rw [ho.2.2 _ _ (fun y => z (e6 f i hf (by omega) y.1)), ti_sI_ne (by omega)]
            exact g1 f hf u hu
        · by_cases z : u = v ∧ f = i
          · obtain ⟨rfl, rfl⟩ := z
            rw [ti_sI_eq]
            exact hz q
          · rw [ti_sI_ne (by omega)]
            exact g2 f hf q u hu
        · by_cases z : j = 60 * v + i
          · subst z
            rw [ti_sI_eq]
            exact hb01
          · rw [ti_sI_ne (by omega)]
            exact g3 j hj
        · rw [ti_sI_ne (by omega)]
          exact g4 x q1 q2 u hu
      refine l_of st_val (m_of (st_bZe ix) ?_)
      rcases hw with rfl | rfl
      · refine m_of (st_T rfl) (m_of st_val (m_of st_val ?_))
        rw [← hc]
        exact nx
      · refine m_of (st_F one0) (m_of st_val (m_of st_val ?_))
        rw [← hc]
        exact nx
    have idx := g3 (60 * v + i) (by omega)
    have old : H2 (f_K_tellOfEnded_B48 (f_K_tellOfEnded_L4 fu) S (some 4) (Int32.ofNat v) c (Int32.ofNat i)) (f_M_line_B90 (f_M_line_L37 fu') m (some 57) (Int32.ofNat v) c (Int32.ofNat i)) (fun a b => a.1 = b.1 ∧ LI n S1 m1 a.2 b.2) := by
      unfold f_M_line_B90 f_M_line_B91
      refine m_of (st_gRe (hmf' 69 116 rfl)) (m_of (st_gRe (hmf' 69 116 rfl)) (m_of (st_aIe (v := sI m 116 (60 * v + i)) ix rfl) ?_))
      rcases idx with q | q
      · refine m_of (st_T q) (m_of (st_T rfl) (go S c 0 0 (Or.inl rfl) (Int32.add_zero c).symm (Or.inl rfl) ⟨rfl, rfl, fun _ _ _ => rfl⟩ (fun u hu => ?_) (fun _ => rfl)))
        by_cases z : u = v
        · subst z
          rw [if_pos rfl, g1 i (by omega) u hu, q]
        · rw [if_neg z]
      · refine m_of (st_F (by rw [q]; decide)) ?_
        unfold f_M_line_B122
        refine go S c 0 1 (Or.inl rfl) (Int32.add_zero c).symm (Or.inr rfl) ⟨rfl, rfl, fun _ _ _ => rfl⟩ (fun u hu => ?_) (fun z => ?_)
        · by_cases z : u = v
          · subst z
            rw [if_pos rfl, g1 i (by omega) u hu, q]
          · rw [if_neg z]
        · have := g2 i (by omega) z v v4
          rw [this] at q
          exact absurd q (by decide)
    refine l_of (st_gRe (v := some 23) (by rw [a1]; exact h4.1 13 23 rfl)) (l_of st_rv (l_of st_size ?_))
    rw [show sI S 23 2 = Int32.ofNat n from (a3 23 2 (by omega)).trans e1]
    refine l_of (st_F nle) (l_of (st_gRe (v := some 23) (by rw [a1]; exact h4.1 13 23 rfl)) (l_of st_rv (l_of (st_get (oc (by omega)) at') (l_of st_cc (l_of (st_gIe (v := sI m1 103 i) ((a3 _ 6 (by omega)).trans (e7 i (by omega)).1)) ?_)))))
    refine m_of (st_gIe ((b3 57 46 (by omega)).trans e2)) (m_of (st_F nle) (m_of (st_gRe (hmf' 66 113 rfl)) (m_of (st_aIe (oc (by omega)) ((b3 113 v (by omega)).trans e4)) (m_of (st_T rfl) (m_of (st_gRe (hmf' 51 103 rfl)) (m_of (st_aIe (v := sI m1 103 i) (oc (by omega)) (b3 103 i (by omega))) ?_))))))
    by_cases c1 : sI m1 103 i = 0
    · refine l_of (st_T c1) (m_of (st_T c1) (m_of (st_gRe (hmf' 69 116 rfl)) (m_of (st_aIe (v := sI m 116 (60 * v + i)) ix rfl) ?_)))
      by_cases c2 : sI m 116 (60 * v + i) = 0
      · refine m_of (st_T c2) (m_of st_rv (m_p2 (p_hears hmf' ((b3 57 52 (by omega)).trans e3) nt2) (fun b m' p => ?_)))
        obtain ⟨e, p01, pb⟩ := p
        have e : m' = m := e
        rw [e]
        have pb : b = 1 ↔ _ := pb
        have p01 : b = 0 ∨ b = 1 := p01
        have pb2 : b = 1 ↔ bt (sI S (lel S1 23 i) 10) v = true := by
          rw [pb, a3 _ 10 (by omega), (e7 i (by omega)).2]
          constructor
          · rintro ⟨t, q1, q2, q3⟩
            exact ⟨t, q1, (b3 108 t (by omega)).symm.trans q2, (b3 105 t (by omega)).symm.trans q3⟩
          · rintro ⟨t, q1, q2, q3⟩
            exact ⟨t, q1, (b3 108 t (by omega)).trans q2, (b3 105 t (by omega)).trans q3⟩
        have nt : ¬ bt (sI S (lel S1 23 i) 11) v = true := fun q => by
          have := (g1 i (by omega) v v4).mp q
          rw [c2] at this
          exact absurd this (by decide)
        refine l_of st_rv (l_p2 (p_tell (by omega)) (fun w S' p => ?_))
        rcases p with ⟨p1, p2, p3, p4⟩ | ⟨p1, p2, p3⟩
        · have b1' := pb2.mpr p2
          have p1 : w = 1 := p1
          have p4 : S' = _ := p4
          rw [p1, p4, b1']
          refine l_of (st_F one0) (l_of st_val (m_of (st_F one0) ?_))
          unfold f_M_line_B91
          refine m_of (st_gRe (hmf' 69 116 rfl)) (m_of (st_gRe (hmf' 69 116 rfl)) (m_of (st_aIe (v := 0) ix c2) (m_of (st_T rfl) (m_of (st_F one0) ?_))))
          unfold f_M_line_B122
          refine go _ (c + 1) 1 1 (Or.inr rfl) rfl (Or.inr rfl) ⟨rfl, rfl, fun p j q => ti_sI_ne q⟩ (fun u hu => ?_) (fun z => absurd c1 z)
          rw [ti_sI_eq, bt_sh _ (by omega)]
          by_cases z : u = v
          · rw [if_pos z]
            exact ⟨fun _ => rfl, fun _ => Or.inr z⟩
          · rw [if_neg z]
            exact ⟨fun q => q.resolve_right z, Or.inl⟩
        · have b0 : b = 0 := p01.elim id (fun q => absurd ⟨pb2.mp q, nt⟩ p2)
          have p1 : w = 0 := p1
          have p3 : S' = S := p3
          rw [p1, p3, b0]
          exact l_of (st_T rfl) (m_of (st_T rfl) old)
      · refine m_of (st_F c2) (l_of st_rv (l_p2 (p_tell (by omega)) (fun w S' p => ?_)))
        rcases p with ⟨p1, p2, p3, p4⟩ | ⟨p1, p2, p3⟩
        · exact absurd ((g1 i (by omega) v v4).mpr (idx.resolve_left c2)) p3
        · have p1 : w = 0 := p1
          have p3 : S' = S := p3
          rw [p1, p3]
          exact l_of (st_T rfl) old
    · exact l_of (st_F c1) (m_of (st_F c1) old)
theorem p_line_dn {v i c : Int32} {m : AS} {n : Nat} (hv : v.toNatClampNeg = n) (h : sI m 113 n ≠ 0) (hmf : MF m) : ∀ fu, Hp (f_M_line_L37 fu m (some 57) v c i) (fun q => q = (c, m))
  | 0 => p_0
  | fu + 1 => by
    unfold f_M_line_L37 f_M_line_C37
    exact p_of st_gI (p_if (fun _ => p_ret rfl) (fun _ => p_of (st_gRe (hmf 66 113 rfl)) (p_of (st_aIe (v := sI m 113 n) hv rfl) (p_of (st_F h) (p_ret rfl)))))
def P_line (S m : AS) : Prop := cSrv S m ∧ cGod S m
theorem h_line_up (hT : TV T S) (hm : TI Tm m) (h : FR S m) {i : Nat} (i1 : i < 4) : H2 (f_K_line_B19 S (some 4) (Int32.ofNat i) (some (53 + i)) (some (53 + i)) 1) (f_M_line_B32 (wI m 57 82 0) (some 57) (Int32.ofNat i) (some 113) (Int32.ofNat i) 0) (fun x y => AN [eX] x.1 y.1 (sI y.2 57 82) ∧ P_line x.2 y.2) := by
  have b := FR_BB hT hm h
  have st := ST_of hT hm h
  have tV := fun u (hu : u < 4) => kt_S hT.1 h.PF hu
  have nV' : ∀ f u, f < nF m → u < 4 → lel S 23 f ≠ 53 + u := fun f u hf hu q => by
    have := tyF b hf
    rw [q, tV u hu] at this
    exact absurd this (by decide)
  have zf := zF b
  have zt := zT b
  have gd := h.God
  have hk := K4F_of hT.1
  have hmf := MF_of hm
  unfold f_K_line_B19 f_M_line_B32
  refine l_of st_pZ (l_of (st_gIe (v := 1) (ti_sI_eq _ _ _ _)) (l_of (st_F one0) (l_of st_rv (m_of (st_bZe (oc (by omega))) ?_))))
  obtain ⟨S1, eS⟩ : ∃ S1, S1 = wI S (53 + i) 1 1 := ⟨_, rfl⟩
  obtain ⟨m1, em⟩ : ∃ m1, m1 = wI (wI m 57 82 0) 113 i 0 := ⟨_, rfl⟩
  rw [← eS, ← em]
  have rS : sR S1 = sR S := by rw [eS, sR_wI]
  have rM : sR m1 = sR m := by rw [em, sR_wI, sR_wI]
  have oS : ∀ {p j : Nat}, ¬ (p = 53 + i ∧ j = 1) → sI S1 p j = sI S p j := fun q => by
    rw [eS]
    exact ti_sI_ne q
  have sS : sI S1 (53 + i) 1 = 1 := by rw [eS, ti_sI_eq]
  have lm : ∀ {p j : Nat}, ¬ (p = 57 ∧ j = 82) → ¬ (p = 113 ∧ j = i) → sI m1 p j = sI m p j := fun q1 q2 => by
    rw [em]
    exact (ti_sI_ne q2).trans (ti_sI_ne q1)
  have s82 : sI m1 57 82 = 0 := by
    rw [em, ti_sI_ne (by omega), ti_sI_eq]
  have s113 : sI m1 113 i = 0 := by rw [em, ti_sI_eq]
  have el : ∀ f, lel S1 23 f = lel S 23 f := fun f => by
    unfold lel
    rw [rS]
  have hLB : LB (nF m) (nT m) i S1 m1 := by
    refine ⟨by unfold K4F; rw [rS]; exact hk, MF_e hmf rM, zf.1, zt.1, i1, ⟨?_, ?_, ?_, s113⟩, fun f hf => ?_, fun f g hf hg q => ?_, fun f hf => ⟨?_, ?_⟩⟩
    · rw [oS (by omega), zf.2.2]
      exact zf.2.1
    · rw [lm (by omega) (by omega)]
      exact zf.2.1
    · rw [lm (by omega) (by omega)]
      exact zt.2.1
    · rw [rS, el]
      exact atF b hf
    · rw [el, el] at q
      exact ST_fi st hf hg q
    · rw [el, oS (by omega), lm (by omega) (by omega)]
      exact (gd.2 f hf).1
    · rw [el, oS (by omega), h.Aud f hf i i1]
      constructor
      · rintro ⟨t, q1, q2, q3⟩
        exact ⟨t, q1, (lm (by omega) (by omega)).trans q2, (lm (by omega) (by omega)).trans q3⟩
      · rintro ⟨t, q1, q2, q3⟩
        exact ⟨t, q1, (lm (by omega) (by omega)).symm.trans q2, (lm (by omega) (by omega)).symm.trans q3⟩
  have hLI : LI (nF m) S1 m1 S1 m1 := by
    refine ⟨⟨rfl, rfl, fun _ _ _ => rfl⟩, ⟨rfl, rfl, fun _ _ _ => rfl⟩, fun f hf u hu => ?_, fun f hf q u hu => ?_, fun j hj => ?_, fun x q1 q2 u hu => ?_⟩
    · rw [el, oS (by omega), lm (by omega) (by omega)]
      exact (gd.2 f hf).2.1 u hu
    · rw [lm (by omega) (by omega)] at q ⊢
      exact (gd.2 f hf).2.2 q u hu
    · rw [lm (by omega) (by omega)]
      obtain ⟨-, tt, -⟩ := md_at hm (j := 69) (p := 116) rfl rfl
      exact In01 (hm.t5 116 j 240 0 1 (by rw [tt]; rfl) hj)
    · rw [lm (by omega) (by omega)]
      exact gd.1 x q1 q2 u hu
  unfold f_K_tellOfEnded
  refine l_inl (h_line_L hLB (nF m) 0 kr_FU kr_FU 0 S1 m1 (Nat.zero_add _) hLI) (fun v S' bb p => ?_)
  obtain ⟨p1, ⟨a1, a2, a3⟩, ⟨b1, b2, b3⟩, g1, g2, g3, g4⟩ := p
  have p1 : v = bb.1 := p1
  have a1 : sR S' = sR S1 := a1
  have e : nF bb.2 = nF m := by
    unfold nF
    rw [b3 57 46 (by omega), lm (by omega) (by omega)]
  refine ⟨?_, fun u hu => ?_, fun x q1 q2 => g4 x (e ▸ q1) q2, fun f hf => ?_⟩
  · show AN [eX] (.inl v) bb.1 (sI bb.2 57 82)
    rw [p1]
    exact AN_v (by rw [b3 57 82 (by omega), s82])
  · show sI S' (53 + u) 1 = 0 ↔ sI bb.2 113 u ≠ 0
    rw [a3 _ 1 (by omega), b3 113 u (by omega)]
    by_cases z : u = i
    · subst z
      rw [sS, s113]
      exact ⟨fun q => absurd q (by decide), fun q => absurd rfl q⟩
    · rw [oS (by omega), lm (by omega) (by omega)]
      exact h.Srv u hu
  · have hf : f < nF m := e ▸ hf
    have el' : lel S' 23 f = lel S1 23 f := by
      unfold lel
      rw [a1]
    show sI S' (lel S' 23 f) 6 = sI bb.2 103 f ∧ (∀ v, v < 4 → (bt (sI S' (lel S' 23 f) 11) v = true ↔ sI bb.2 116 (60 * v + f) = 1)) ∧ (sI bb.2 103 f ≠ 0 → ∀ v, v < 4 → sI bb.2 116 (60 * v + f) = 0)
    rw [el', a3 _ 6 (by omega), b3 103 f (by omega)]
    refine ⟨?_, fun u hu => g1 f hf u hu, fun q u hu => g2 f hf q u hu⟩
    rw [el, oS (by omega), lm (by omega) (by omega)]
    exact (gd.2 f hf).1
theorem h_line_dn (hT : TV T S) (hm : TI Tm m) (h : FR S m) {i : Nat} (i1 : i < 4) : H2 (f_K_line_B19 S (some 4) (Int32.ofNat i) (some (53 + i)) (some (53 + i)) 0) (f_M_line_B32 (wI m 57 82 0) (some 57) (Int32.ofNat i) (some 113) (Int32.ofNat i) 1) (fun x y => AN [eX] x.1 y.1 (sI y.2 57 82) ∧ P_line x.2 y.2) := by
  have hmf := MF_of (TI_t hm 0)
  have gd := h.God
  unfold f_K_line_B19 f_M_line_B32
  refine l_of st_pZ (l_of (st_gIe (v := 0) (ti_sI_eq _ _ _ _)) (l_of (st_T rfl) (m_of (st_bZe (oc (by omega))) ?_)))
  refine m_hp (p_line_dn (m := wI (wI m 57 82 0) 113 i 1) (n := i) (oc (by omega)) (by rw [ti_sI_eq]; decide) (MF_e hmf rfl) kr_FU) (fun q p => ?_)
  cases p
  obtain ⟨S1, eS⟩ : ∃ S1, S1 = wI S (53 + i) 1 0 := ⟨_, rfl⟩
  obtain ⟨m1, em⟩ : ∃ m1, m1 = wI (wI m 57 82 0) 113 i 1 := ⟨_, rfl⟩
  rw [← eS, ← em]
  have rS : sR S1 = sR S := by rw [eS, sR_wI]
  have oS : ∀ {p j : Nat}, ¬ (p = 53 + i ∧ j = 1) → sI S1 p j = sI S p j := fun q => by
    rw [eS]
    exact ti_sI_ne q
  have sS : sI S1 (53 + i) 1 = 0 := by rw [eS, ti_sI_eq]
  have lm : ∀ {p j : Nat}, ¬ (p = 57 ∧ j = 82) → ¬ (p = 113 ∧ j = i) → sI m1 p j = sI m p j := fun q1 q2 => by
    rw [em]
    exact (ti_sI_ne q2).trans (ti_sI_ne q1)
  have s82 : sI m1 57 82 = 0 := by
    rw [em, ti_sI_ne (by omega), ti_sI_eq]
  have s113 : sI m1 113 i = 1 := by rw [em, ti_sI_eq]
  have el : ∀ f, lel S1 23 f = lel S 23 f := fun f => by
    unfold lel
    rw [rS]
  have e : nF m1 = nF m := by
    unfold nF
    rw [lm (by omega) (by omega)]
  have nV' : ∀ f u, f < nF m → u < 4 → lel S 23 f ≠ 53 + u := fun f u hf hu q => by
    have := tyF (FR_BB hT hm h) hf
    rw [q, kt_S hT.1 h.PF hu] at this
    exact absurd this (by decide)
  refine h2_ret ⟨AN_v s82, fun u hu => ?_, fun x q1 q2 u hu => ?_, fun f hf => ?_⟩
  · show sI S1 (53 + u) 1 = 0 ↔ sI m1 113 u ≠ 0
    by_cases z : u = i
    · subst z
      rw [sS, s113]
      exact ⟨fun _ => by decide, fun _ => rfl⟩
    · rw [oS (by omega), lm (by omega) (by omega)]
      exact h.Srv u hu
  · have q1 : nF m ≤ x := e ▸ q1
    show sI m1 116 (60 * u + x) = 0
    rw [lm (by omega) (by omega)]
    exact gd.1 x q1 q2 u hu
  · have hf : f < nF m := e ▸ hf
    obtain ⟨z1, z2, z3⟩ := gd.2 f hf
    show sI S1 (lel S1 23 f) 6 = sI m1 103 f ∧ (∀ v, v < 4 → (bt (sI S1 (lel S1 23 f) 11) v = true ↔ sI m1 116 (60 * v + f) = 1)) ∧ (sI m1 103 f ≠ 0 → ∀ v, v < 4 → sI m1 116 (60 * v + f) = 0)
    rw [el, oS (by omega), oS (by omega), lm (by omega) (by omega)]
    refine ⟨z1, fun u hu => ?_, fun q u hu => ?_⟩
    · rw [lm (by omega) (by omega)]
      exact z2 u hu
    · rw [lm (by omega) (by omega)]
      exact z3 q u hu
theorem h_line (hT : TV T S) (hm : TI Tm m) (h : FR S m) (a : Int32) : H2 (f_K_line S (some 4) a) (f_M_line m (some 57) a) (fun x y => AN [eX] x.1 y.1 (sI y.2 57 82) ∧ P_line x.2 y.2) := by
  have b := FR_BB hT hm h
  have hmf := MF_of (TI_t hm 0)
  have x1 := FR_X hT (TI_t hm 1) (FR_t hT hm h 1)
  unfold f_K_line f_M_line
  refine m_of (st_b2 (q_ser m a)) (m_of st_rv ?_)
  refine l_of st_rv (l_bx (fun v S' e => ?_) (fun v S' e => ?_))
  · rcases x_fV b a _ e with ⟨i, i1, rfl, e2⟩ | ⟨no, e2⟩
    · cases e2
      rw [if_pos ((fou_iff _).mpr ⟨i, i1, rfl⟩)]
      refine m_p2 p_may (fun v m' p => ?_)
      cases p
      refine m_of (st_F one0) (m_of (st_gRe (hmf 66 113 rfl)) (m_of (st_gRe (hmf 66 113 rfl)) (m_of (st_aIe (v := sI m 113 i) (oc (by omega)) (lv0 m (by omega) 0)) (l_of (st_gIe (v := sI S (53 + i) 1) rfl) ?_))))
      have up := h.Srv i i1
      by_cases c : sI S (53 + i) 1 = 0
      · exact l_of (st_T c) (m_of (st_F (up.mp c)) (h_line_up hT hm h i1))
      · have dn : sI m 113 i = 0 := Decidable.not_not.mp (fun q => c (up.mpr q))
        exact l_of (st_F c) (m_of (st_T dn) (h_line_dn hT hm h i1))
    · cases e2
  · rcases x_fV b a _ e with ⟨i, i1, rfl, e2⟩ | ⟨no, e2⟩
    · cases e2
    · cases e2
      rw [if_neg (fun q => no ((fou_iff _).mp q))]
      refine m_p2 p_may (fun v m' p => ?_)
      cases p
      exact m_of (st_T rfl) (h2_ret ⟨AN_e 0 rfl (ti_sI_eq _ _ _ _), x1.Srv, x1.God⟩)
end
end
section
/-! ===== check, level, asked ===== -/
theorem bt0 : ∀ j, j < 32 → bt (0 : Int32) j = false := by decide +kernel
theorem bt_zr {j : Nat} : bt (0 : Int32) j = false := by
  by_cases c : j < 32
  · exact bt0 j c
  · exact bt_big (by omega)
/-- is a key open -/
theorem p_open {m : AS} (hmf : MF m) {c k : Nat} (hc : sI m 57 60 = Int32.ofNat c) (h20 : c ≤ 20) (hk : k < 20) : Hp (f_M_isOpenKey m (some 57) (Int32.ofNat k)) (fun q => q.2 = m ∧ (q.1 = 0 ∨ q.1 = 1) ∧ (q.1 = 1 ↔ KP (sI m 57 0).toInt m k)) := by
  unfold f_M_isOpenKey f_M_isOpenKey_B40
  have kp : KP (sI m 57 0).toInt m k ↔ (k : Int) < (sI m 57 60).toInt ∧ sI m 111 k = 0 ∧ (sI m 112 k = -1 ∨ (sI m 57 0).toInt < (sI m 112 k).toInt) := Iff.rfl
  rw [hc, oi (by omega)] at kp
  have z : ∀ {P : Prop}, ¬ P → ((0 : Int32) = 1 ↔ P) := fun hp => ⟨fun q => absurd q (by decide), fun q => absurd q hp⟩
  refine p_of (st_gIe hc) (p_if (fun c1 => p_ret ⟨rfl, Or.inl rfl, z (fun q => ?_)⟩) (fun c1 => ?_))
  · have := (ole (by omega) (by omega)).mp c1
    have := (kp.mp q).1
    omega
  · refine p_of (st_gRe (hmf 64 111 rfl)) (p_of (st_aIe (v := sI m 111 k) (oc (by omega)) rfl) (p_if (fun c2 => ?_) (fun c2 => p_ret ⟨rfl, Or.inl rfl, z (fun q => c2 (kp.mp q).2.1)⟩)))
    have kc : k < c := Nat.not_le.mp (fun q => c1 ((ole (by omega) (by omega)).mpr q))
    refine p_of (st_gRe (hmf 65 112 rfl)) (p_of (st_aIe (v := sI m 112 k) (oc (by omega)) rfl) (p_if (fun c3 => p_ret ⟨rfl, Or.inr rfl, fun _ => kp.mpr ⟨by omega, c2, Or.inl c3⟩, fun _ => rfl⟩) (fun c3 => ?_)))
    refine p_of st_gI (p_of (st_gRe (hmf 65 112 rfl)) (p_of (st_aIe (v := sI m 112 k) (oc (by omega)) rfl) (p_if (fun c4 => p_ret ⟨rfl, Or.inl rfl, z (fun q => ?_)⟩) (fun c4 => p_ret ⟨rfl, Or.inr rfl, fun _ => kp.mpr ⟨by omega, c2, Or.inr (Int.not_le.mp (fun q => c4 (Int32.le_iff_toInt_le.mpr q)))⟩, fun _ => rfl⟩))))
    have := (kp.mp q).2.2.resolve_left c3
    have := Int32.le_iff_toInt_le.mp c4
    omega
/-- the reference fetches the keys -/
theorem h_fetch_L {α : Type} {x : Option α} {Q : α → Int32 × AS → Prop} {m0 : AS} {v c : Nat} {t d : Int32} (hmf : MF m0) (hv : v < 4) (hc : sI m0 57 60 = Int32.ofNat c) (h20 : c ≤ 20)
    (H : ∀ M, (sR M = sR m0 ∧ sL M = sL m0 ∧ ∀ p j, ¬ (p = 114 ∧ j = v) → ¬ (p = 115 ∧ j = v) → sI M p j = sI m0 p j) → (∀ b, b < 20 → (bt (sI M 114 v) b = true ↔ KP (sI m0 57 0).toInt m0 b)) → sI M 115 v = sI m0 57 0 → H2 x (f_M_check_B168 M (some 57) (Int32.ofNat v) t d) Q) :
    ∀ (k j fu : Nat) (M : AS), j + k = 20 → (sR M = sR m0 ∧ sL M = sL m0 ∧ ∀ p i, ¬ (p = 114 ∧ i = v) → sI M p i = sI m0 p i) → (∀ b, b < 20 → (bt (sI M 114 v) b = true ↔ b < j ∧ KP (sI m0 57 0).toInt m0 b)) → H2 x (f_M_check_L119 fu M (some 57) (Int32.ofNat v) t d (Int32.ofNat j)) Q
  | _, _, 0, _, _, _, _ => h2_m0
  | 0, j, fu + 1, M, hk, ho, hb => by
    unfold f_M_check_L119 f_M_check_C119
    obtain ⟨o1', o2, o3⟩ := ho
    have j20 : j = 20 := by omega
    subst j20
    refine m_of (st_T (by decide)) (m_of (st_gRe (MF_e hmf o1' 68 115 rfl)) (m_of (st_gIe (v := sI m0 57 0) (o3 57 0 (by omega))) (m_of (st_bIe (oc (by omega))) (H _ ⟨o1', o2, fun p i q1 q2 => ?_⟩ (fun b hb2 => ?_) (ti_sI_eq _ _ _ _)))))
    · rw [ti_sI_ne q2]
      exact o3 p i q1
    · rw [ti_sI_ne (by omega), hb b hb2]
      exact ⟨fun q => q.2, fun q => ⟨hb2, q⟩⟩
  | k + 1, j, fu + 1, M, hk, ho, hb => by
    unfold f_M_check_L119 f_M_check_C119
    have ho' := ho
    obtain ⟨o1', o2, o3⟩ := ho
    have hmf' := MF_e hmf o1'
    have nj : ¬ (20 : Int32) ≤ Int32.ofNat j := fun q => by
      have := (ole (a := 20) (b := j) (by decide) (by omega)).mp q
      omega
    have ekp : ∀ b, KP (sI M 57 0).toInt M b ↔ KP (sI m0 57 0).toInt m0 b := fun b => by
      unfold KP
      rw [o3 57 0 (by omega), o3 57 60 (by omega), o3 111 b (by omega), o3 112 b (by omega)]
    refine m_of (st_F nj) (m_of (st_gRe (hmf' 67 114 rfl)) (m_of (st_aIe (v := sI M 114 v) (oc (by omega)) rfl) (m_of st_rv (m_p2 (p_open hmf' (c := c) ((o3 57 60 (by omega)).trans hc) h20 (by omega)) (fun y M' p => ?_)))))
    obtain ⟨p1, p2, p3⟩ := p
    have p1 : M' = M := p1
    have p3 : y = 1 ↔ _ := p3
    have p2 : y = 0 ∨ y = 1 := p2
    rw [p1]
    rw [ekp] at p3
    have go : ∀ w : Int32, (∀ b, b < 20 → (bt w b = true ↔ b < j + 1 ∧ KP (sI m0 57 0).toInt m0 b)) → H2 x (((bI M (some 114) (Int32.ofNat v) w).bind fun S1 => (some (Int32.ofNat j + (1 : Int32))).bind fun i2 => f_M_check_L119 fu S1 (some 57) (Int32.ofNat v) t d i2)) Q := fun w hw => by
      refine m_of (st_bIe (oc (by omega))) (m_of st_val ?_)
      rw [o1]
      refine h_fetch_L hmf hv hc h20 H k (j + 1) fu _ (by omega) ⟨o1', o2, fun p i q => ?_⟩ (fun b h => ?_)
      · rw [ti_sI_ne q]
        exact o3 p i q
      · rw [ti_sI_eq]
        exact hw b h
    unfold f_M_check_B150
    rcases p2 with q | q
    · refine m_of (st_T q) (go _ (fun b h => ?_))
      rw [bt_or, bt_zr, Bool.or_false, hb b h]
      constructor
      · rintro ⟨z1, z2⟩
        exact ⟨by omega, z2⟩
      · rintro ⟨z1, z2⟩
        by_cases e : b = j
        · subst e
          have := p3.mpr z2
          rw [q] at this
          exact absurd this (by decide)
        · exact ⟨by omega, z2⟩
    · refine m_of (st_F (by rw [q]; decide)) (go _ (fun b h => ?_))
      rw [bt_sh20 _ (by omega), hb b h]
      constructor
      · rintro (⟨z1, z2⟩ | z)
        · exact ⟨by omega, z2⟩
        · rw [z]
          exact ⟨by omega, p3.mp q⟩
      · rintro ⟨z1, z2⟩
        by_cases e : b = j
        · exact Or.inr e
        · exact Or.inl ⟨by omega, z2⟩
theorem bt_is20' {x : Int32} {v : Nat} (hv : v < 20) : ((x >>> (Int32.ofNat v &&& 31)) &&& (1 : Int32)) = 0 ↔ ¬ bt x v = true := by
  rw [← bt_test20 x hv]
  have h01 : ∀ y : Int32, y &&& 1 = 0 ∨ y &&& 1 = 1 := fun y => by
    have l1 : ∀ i, i < 32 → (1#32).getLsbD i = decide (i = 0) := by decide +kernel
    have : ∀ b : BitVec 32, b &&& 1#32 = 0#32 ∨ b &&& 1#32 = 1#32 := fun b => by
      by_cases c : b.getLsbD 0 = true
      · exact Or.inr ((and1 b).mpr c)
      · refine Or.inl (BitVec.eq_of_getLsbD_eq (fun i hi => ?_))
        rw [BitVec.getLsbD_and, l1 i hi, BitVec.getLsbD_zero]
        by_cases z : i = 0
        · subst z
          rw [Bool.eq_false_iff.mpr c]
          rfl
        · rw [decide_eq_false z, Bool.and_false]
    rcases this y.toBitVec with q | q
    · exact Or.inl (Int32.toBitVec_inj.mp (by rw [Int32.toBitVec_and]; exact q))
    · exact Or.inr (Int32.toBitVec_inj.mp (by rw [Int32.toBitVec_and]; exact q))
  rcases h01 (x >>> (Int32.ofNat v &&& 31)) with q | q
  · rw [q]
    exact ⟨fun _ => by decide, fun _ => rfl⟩
  · rw [q]
    exact ⟨fun z => absurd z (by decide), fun z => absurd rfl z⟩
section
variable {T Tm : Nat → Nat} {S m : AS}
/-- the class fetches the keys -/
theorem p_fetch (k4 : K4F S) {v k : Nat} (hv : v < 4) (hk : k < 20) : Hp (f_K_fetchKeys S (some 4) (some (53 + v)) (Int32.ofNat k)) (fun S' => ((sI S (53 + v) 1 ≠ 0 ∧ ((15 : Int32) < sI S 4 0 - sI S (53 + v) 3 ∨ ¬ bt (sI S (53 + v) 2) k = true)) ∧ S' = wI (wI S (53 + v) 2 (sI S 25 4)) (53 + v) 3 (sI S 4 0)) ∨ (¬ (sI S (53 + v) 1 ≠ 0 ∧ ((15 : Int32) < sI S 4 0 - sI S (53 + v) 3 ∨ ¬ bt (sI S (53 + v) 2) k = true)) ∧ S' = S)) := by
  have yes : ((15 : Int32) < sI S 4 0 - sI S (53 + v) 3 ∨ ¬ bt (sI S (53 + v) 2) k = true) → Hp (f_K_fetchKeys_B25 S (some 4) (some (53 + v))) (fun S' => ((sI S (53 + v) 1 ≠ 0 ∧ ((15 : Int32) < sI S 4 0 - sI S (53 + v) 3 ∨ ¬ bt (sI S (53 + v) 2) k = true)) ∧ S' = wI (wI S (53 + v) 2 (sI S 25 4)) (53 + v) 3 (sI S 4 0)) ∨ (¬ (sI S (53 + v) 1 ≠ 0 ∧ ((15 : Int32) < sI S 4 0 - sI S (53 + v) 3 ∨ ¬ bt (sI S (53 + v) 2) k = true)) ∧ S' = S)) := fun q => by
    unfold f_K_fetchKeys_B25 f_K_fetchKeys_B30
    refine p_of st_gI (p_if (fun c => p_ret (Or.inr ⟨fun z => z.1 c, rfl⟩)) (fun c => p_of (st_F one0) ?_))
    exact p_of (st_gRe (k4.1 15 25 rfl)) (p_of st_gI (p_of st_pI (p_of (st_gIe (v := sI S 4 0) (ti_sI_ne (by omega))) (p_of st_pI (p_ret (Or.inl ⟨⟨c, q⟩, rfl⟩))))))
  unfold f_K_fetchKeys
  refine p_of st_gI (p_of st_gI (p_if (fun c => yes (Or.inl c)) (fun c => p_of st_gI (p_of (st_b2 (bt_is20 hk S)) ?_))))
  by_cases d : bt (sI S (53 + v) 2) k = true
  · rw [if_pos d]
    refine p_of (st_F one0) ?_
    unfold f_K_fetchKeys_B30
    exact p_of st_gI (p_if (fun e => p_ret (Or.inr ⟨fun z => z.1 e, rfl⟩)) (fun e => p_of (st_T rfl) (p_ret (Or.inr ⟨fun z => z.2.elim c (fun y => y d), rfl⟩))))
  · rw [if_neg d]
    exact p_of (st_T rfl) (yes (Or.inr d))
theorem h_check (hT : TV T S) (hm : TI Tm m) (h : FR S m) (a t d : Int32) : H2 (f_K_check S (some 4) a t d) (f_M_check m (some 57) a t d) (fun x y => AN [eX, eA] x.1 y.1 (sI y.2 57 82) ∧ cChe x.2 y.2) := by
  have b := FR_BB hT hm h
  have hmf := MF_of (TI_t hm 0)
  have k4 := K4F_of hT.1
  have lv : ∀ {p j : Nat}, ¬ (p = 57 ∧ j = 82) → sI (wI m 57 82 0) p j = sI m p j := fun q => lv0 m q 0
  have h0 := (FR_t hT hm h 0).Che
  have bad1 : H2 (some ((Sum.inr eX : Int32 ⊕ String), wX S)) (f_M_check_B20 m (some 57) a t d 0) (fun x y => AN [eX, eA] x.1 y.1 (sI y.2 57 82) ∧ cChe x.2 y.2) := by
    unfold f_M_check_B20
    refine m_of (st_b2 (q_isIn m d 0 3)) (m_of st_rv (m_p2 p_mayB (fun v m' q => ?_)))
    cases q
    exact m_of (st_T rfl) (h2_ret ⟨AN_e 0 rfl (ti_sI_eq _ _ _ _), (FR_X hT (TI_t hm 1) (FR_t hT hm h 1)).Che⟩)
  unfold f_K_check f_M_check f_M_check_B19
  refine m_of (st_b2 (q_ser m a)) (l_of st_rv (l_bx (fun z S' e => ?_) (fun z S' e => ?_)))
  · rcases x_fV b a _ e with ⟨i, i1, rfl, e2⟩ | ⟨no, e2⟩
    · cases e2
      rw [if_pos ((fou_iff _).mpr ⟨i, i1, rfl⟩)]
      refine m_of (st_F one0) (m_of st_rv (m_p2 (x_MT b t) (fun z m2 p => ?_)))
      refine l_of st_rv (l_bx (fun z S' e => ?_) (fun z S' e => ?_))
      · rcases x_fT b t _ e with ⟨s, s1, rfl, e2⟩ | ⟨no, e2⟩
        · cases e2
          rcases p with ⟨-, p2⟩ | ⟨p1, -⟩
          · cases p2
            refine m_of (st_F one0) ?_
            unfold f_M_check_B20
            refine l_of (st_b2 (q_win S d 0 3)) (m_of (st_b2 (q_isIn m d 0 3)) (m_of st_rv ?_))
            by_cases cd : 0 ≤ d ∧ d ≤ 3
            · rw [if_pos cd]
              obtain ⟨w, w1, ew⟩ := (fou_iff d).mp cd
              subst ew
              refine m_p2 p_mayB (fun z m2 p => ?_)
              cases p
              refine l_of (st_bx (rA1 S)) (m_of (st_F one0) ?_)
              have zt := (zT b).1
              have s200 : s < 201 := by
                unfold nT at s1
                omega
              have tt := tyT b s1
              obtain ⟨⟨f, f1, f2, f3⟩, -, ⟨v, v1, v2, v3⟩, g3, -, ⟨k, k1, k2, k3⟩, h6, -⟩ := h.Tok.2 s s1
              have f60 : f < 60 := by
                have := (zF b).1
                unfold nF at f1
                omega
              refine l_of (st_gIe v2) (m_of (st_gRe (hmf 54 105 rfl)) (m_of (st_aIe (v := Int32.ofNat v) (oc (by omega)) ((lv (by omega)).trans v3)) ?_))
              by_cases c1 : Int32.ofNat v = Int32.ofNat i
              · refine l_of (st_T c1) (m_of (st_T c1) ?_)
                have vi := oinj (by omega) (by omega) c1
                subst vi
                refine l_of (st_gIe h.NW.1) (l_of (st_gIe h6) (m_of (st_gIe (v := sI m 57 0) (lv (by omega))) (m_of (st_gRe (hmf 59 110 rfl)) (m_of (st_aIe (v := sI m 110 s) (oc (by omega)) (lv (by omega))) ?_))))
                by_cases c2 : sI m 57 0 ≤ sI m 110 s
                · refine l_of (st_T c2) (m_of (st_T c2) (l_of (st_gIe k2) (l_of st_rv ?_)))
                  have tv := kt_S hT.1 h.PF v1
                  have ntv : lel S 24 s ≠ 53 + v := fun q => by
                    rw [q, tv] at tt
                    exact absurd tt (by decide)
                  have ntf : lel S 23 f ≠ 53 + v := fun q => by
                    have := tyF b f1
                    rw [q, tv] at this
                    exact absurd this (by decide)
                  -- the end, behind the fetching
                  have fin : ∀ S' M, (sR S' = sR S ∧ ∀ p j, ¬ (p = 53 + v ∧ (j = 2 ∨ j = 3)) → sI S' p j = sI S p j) → (sR M = sR m ∧ ∀ p j, ¬ (p = 114 ∧ j = v) → ¬ (p = 115 ∧ j = v) → sI M p j = sI (wI m 57 82 0) p j) → cChe S' M →
                      H2 ((gI S' 21 5 (some (lel S 24 s))).bind fun v17 => (gI S' 18 2 (some (53 + v))).bind fun v18 => kr_b2 (f_K_isIn S' v17 v18) fun v20 S19 => if v20 = 0 then some ((Sum.inl (3 : Int32) : Int32 ⊕ String), S19) else (gR S19 21 0 (some (lel S 24 s))).bind fun v21 => (gI S19 14 11 v21).bind fun v22 => kr_b2 (f_K_isIn S19 (Int32.ofNat v) v22) fun v24 S23 => if v24 = 0 then (gI S23 21 3 (some (lel S 24 s))).bind fun v25 => kr_b2 (f_K_isIn S23 (Int32.ofNat w) v25) fun v27 S26 => if v27 = 0 then some ((Sum.inl (5 : Int32) : Int32 ⊕ String), S26) else some (.inl (0 : Int32), S26) else some (.inl (4 : Int32), S23))
                        (f_M_check_B168 M (some 57) (Int32.ofNat v) (Int32.ofNat s) (Int32.ofNat w)) (fun x y => AN [eX, eA] x.1 y.1 (sI y.2 57 82) ∧ cChe x.2 y.2) := fun S' M ho hM hch => by
                    have hmM : MF M := MF_e (MF_of hm) hM.1
                    have e82 : sI M 57 82 = 0 := (hM.2 57 82 (by omega) (by omega)).trans (ti_sI_eq _ _ _ _)
                    have eM : ∀ {p j : Nat}, ¬ (p = 114 ∧ j = v) → ¬ (p = 115 ∧ j = v) → ¬ (p = 57 ∧ j = 82) → sI M p j = sI m p j := fun q1 q2 q3 => (hM.2 _ _ q1 q2).trans (lv q3)
                    unfold f_M_check_B168
                    refine l_of (st_gIe (v := Int32.ofNat k) ((ho.2 _ 5 (by omega)).trans k2)) (l_of st_gI (l_of (st_b2 (bt_is20 k1 S')) ?_))
                    refine m_of (st_gRe (hmM 67 114 rfl)) (m_of (st_aIe (v := sI M 114 v) (oc (by omega)) rfl) (m_of (st_gRe (hmM 58 109 rfl)) (m_of (st_aIe (v := Int32.ofNat k) (oc (by omega)) ((eM (by omega) (by omega) (by omega)).trans k3)) ?_)))
                    have ek := (hch v v1).1 k k1
                    by_cases d1 : bt (sI S' (53 + v) 2) k = true
                    · rw [if_pos d1]
                      refine l_of (st_F one0) (m_of (st_F (fun q => (bt_is20' k1).mp q (ek.symm.trans d1))) ?_)
                      refine l_of (st_gRe (v := some (lel S 23 f)) (by rw [ho.1]; exact f2)) (l_of (st_gIe (v := sI S (lel S 23 f) 11) (ho.2 _ 11 (by omega))) (l_of (st_b2 (bt_is (by omega) S')) ?_))
                      refine m_of (st_gRe (hmM 69 116 rfl)) (m_of (st_gRe (hmM 57 108 rfl)) (m_of (st_aIe (v := Int32.ofNat f) (oc (by omega)) ((eM (by omega) (by omega) (by omega)).trans f3)) (m_of (st_aIe (v := sI m 116 (60 * v + f)) (ix60 v v1 f f60) (eM (by omega) (by omega) (by omega))) ?_)))
                      have gd := (h.God.2 f f1).2.1 v v1
                      have t01 : sI m 116 (60 * v + f) = 0 ∨ sI m 116 (60 * v + f) = 1 := by
                        obtain ⟨-, tt, -⟩ := md_at hm (j := 69) (p := 116) rfl rfl
                        exact In01 (hm.t5 116 _ 240 0 1 (by rw [tt]; rfl) (by omega))
                      by_cases d2 : bt (sI S (lel S 23 f) 11) v = true
                      · rw [if_pos d2]
                        exact l_of (st_F one0) (m_of (st_F (by rw [gd.mp d2]; decide)) (h2_ret ⟨AN_v e82, hch⟩))
                      · rw [if_neg d2]
                        refine l_of (st_T rfl) (m_of (st_T (t01.resolve_right (fun q => d2 (gd.mpr q)))) ?_)
                        refine l_of (st_gIe (v := sI m 106 s) ((ho.2 _ 3 (by omega)).trans g3)) (l_of (st_b2 (bt_is20 (by omega) S')) ?_)
                        refine m_of (st_gRe (hmM 55 106 rfl)) (m_of (st_aIe (v := sI m 106 s) (oc (by omega)) (eM (by omega) (by omega) (by omega))) ?_)
                        by_cases d3 : bt (sI m 106 s) w = true
                        · rw [if_pos d3]
                          exact l_of (st_F one0) (m_of (st_F (fun q => (bt_is20' (by omega)).mp q d3)) (h2_ret ⟨AN_v e82, hch⟩))
                        · rw [if_neg d3]
                          exact l_of (st_T rfl) (m_of (st_T ((bt_is20' (by omega)).mpr d3)) (h2_ret ⟨AN_v e82, hch⟩))
                    · rw [if_neg d1]
                      exact l_of (st_T rfl) (m_of (st_T ((bt_is20' k1).mpr (fun q => d1 (ek.trans q)))) (h2_ret ⟨AN_v e82, hch⟩))
                  refine l_pd (p_fetch k4 v1 k1) (fun S16 p => ?_)
                  obtain ⟨ch1, ch2⟩ := h.Che v v1
                  have up := h.Srv v v1
                  obtain ⟨kc, kg, kb, ka1, ka2, -, -, -, -, ka8⟩ := h.Key
                  have nt := h.NW.1
                  have c20 := kb.2.1
                  rw [nt, ch2] at p
                  refine m_of (st_gRe (hmf 66 113 rfl)) (m_of (st_aIe (v := sI m 113 v) (oc (by omega)) (lv (by omega))) ?_)
                  -- the reference's fetching
                  have mf : S16 = wI (wI S (53 + v) 2 (sI S 25 4)) (53 + v) 3 (sI m 57 0) → H2 ((gI S16 21 5 (some (lel S 24 s))).bind fun v17 => (gI S16 18 2 (some (53 + v))).bind fun v18 => kr_b2 (f_K_isIn S16 v17 v18) fun v20 S19 => if v20 = 0 then some ((Sum.inl (3 : Int32) : Int32 ⊕ String), S19) else (gR S19 21 0 (some (lel S 24 s))).bind fun v21 => (gI S19 14 11 v21).bind fun v22 => kr_b2 (f_K_isIn S19 (Int32.ofNat v) v22) fun v24 S23 => if v24 = 0 then (gI S23 21 3 (some (lel S 24 s))).bind fun v25 => kr_b2 (f_K_isIn S23 (Int32.ofNat w) v25) fun v27 S26 => if v27 = 0 then some ((Sum.inl (5 : Int32) : Int32 ⊕ String), S26) else some (.inl (0 : Int32), S26) else some (.inl (4 : Int32), S23))
                        (f_M_check_B109 (wI m 57 82 0) (some 57) (Int32.ofNat v) (Int32.ofNat s) (Int32.ofNat w)) (fun x y => AN [eX, eA] x.1 y.1 (sI y.2 57 82) ∧ cChe x.2 y.2) := fun e => by
                    unfold f_M_check_B109
                    refine m_of (st_gRe (hmf 67 114 rfl)) (m_of (st_bIe (oc (by omega))) ?_)
                    refine h_fetch_L (m0 := wI m 57 82 0) (v := v) (c := kc) hmf v1 ((lv (by omega)).trans ka1.1) c20 (fun M hM1 hM2 hM3 => ?_) 20 0 kr_FU _ rfl ⟨rfl, rfl, fun p i q => ti_sI_ne q⟩ (fun b hb => ?_)
                    · rw [e]
                      refine fin _ M ⟨rfl, fun p j q => ?_⟩ ⟨hM1.1, hM1.2.2⟩ (fun u hu => ⟨fun b hb => ?_, ?_⟩)
                      · rw [ti_sI_ne (by omega), ti_sI_ne (by omega)]
                      · by_cases z : u = v
                        · subst z
                          rw [ti_sI_ne (by omega), ti_sI_eq, Bool.eq_iff_iff, ka8 b hb, hM2 b hb]
                          unfold KP
                          rw [lv (by omega), lv (by omega), lv (by omega), lv (by omega)]
                        · rw [ti_sI_ne (by omega), ti_sI_ne (by omega), hM1.2.2 114 u (by omega) (by omega), lv (by omega)]
                          exact (h.Che u hu).1 b hb
                      · by_cases z : u = v
                        · subst z
                          rw [ti_sI_eq, hM3, lv (by omega)]
                        · rw [ti_sI_ne (by omega), ti_sI_ne (by omega), hM1.2.2 115 u (by omega) (by omega), lv (by omega)]
                          exact (h.Che u hu).2
                    · rw [ti_sI_eq, bt_zr]
                      exact ⟨fun q => absurd q (by decide), fun q => absurd q.1 (Nat.not_lt_zero _)⟩
                  by_cases u : sI m 113 v = 0
                  · refine m_of (st_T u) (m_of (st_gIe (v := sI m 57 0) (lv (by omega))) (m_of (st_gRe (hmf 68 115 rfl)) (m_of (st_aIe (v := sI m 115 v) (oc (by omega)) (lv (by omega))) ?_)))
                    have un : sI S (53 + v) 1 ≠ 0 := fun q => up.mp q u
                    by_cases c3 : (15 : Int32) < sI m 57 0 - sI m 115 v
                    · rcases p with ⟨-, p⟩ | ⟨p1, -⟩
                      · exact m_of (st_T c3) (mf p)
                      · exact absurd ⟨un, Or.inl c3⟩ p1
                    · refine m_of (st_F c3) (m_of (st_gRe (hmf 67 114 rfl)) (m_of (st_aIe (v := sI m 114 v) (oc (by omega)) (lv (by omega))) (m_of (st_gRe (hmf 58 109 rfl)) (m_of (st_aIe (v := Int32.ofNat k) (oc (by omega)) ((lv (by omega)).trans k3)) ?_))))
                      by_cases c4 : bt (sI m 114 v) k = true
                      · refine m_of (st_F (fun q => (bt_is20' k1).mp q c4)) ?_
                        rcases p with ⟨p1, -⟩ | ⟨-, p⟩
                        · exact absurd p1.2 (fun q => q.elim c3 (fun z => z ((ch1 k k1).trans c4)))
                        · rw [p]
                          exact fin S _ ⟨rfl, fun _ _ _ => rfl⟩ ⟨rfl, fun _ _ _ _ => rfl⟩ h0
                      · refine m_of (st_T ((bt_is20' k1).mpr c4)) ?_
                        rcases p with ⟨-, p⟩ | ⟨p1, -⟩
                        · exact mf p
                        · exact absurd ⟨un, Or.inr (fun q => c4 ((ch1 k k1).symm.trans q))⟩ p1
                  · refine m_of (st_F u) ?_
                    rcases p with ⟨p1, -⟩ | ⟨-, p⟩
                    · exact absurd (up.mpr u) p1.1
                    · rw [p]
                      exact fin S _ ⟨rfl, fun _ _ _ => rfl⟩ ⟨rfl, fun _ _ _ _ => rfl⟩ h0
                · exact l_of (st_F c2) (m_of (st_F c2) (h2_ret ⟨AN_v (ti_sI_eq _ _ _ _), h0⟩))
              · exact l_of (st_F c1) (m_of (st_F c1) (h2_ret ⟨AN_v (ti_sI_eq _ _ _ _), h0⟩))
            · rw [if_neg cd]
              refine m_p2 p_mayB (fun z m2 p => ?_)
              cases p
              exact l_of (st_bxe (rA0 S)) (m_of (st_T rfl) (h2_ret ⟨AN_e 1 rfl (ti_sI_eq _ _ _ _), (FR_X hT (TI_t hm 2) (FR_t hT hm h 2)).Che⟩))
          · exact absurd ⟨s, s1, rfl⟩ p1
        · cases e2
      · rcases x_fT b t _ e with ⟨s, s1, rfl, e2⟩ | ⟨no, e2⟩
        · cases e2
        · cases e2
          rcases p with ⟨p1, -⟩ | ⟨-, p2⟩
          · exact absurd p1 no
          · cases p2
            exact m_of (st_T rfl) bad1
    · cases e2
  · rcases x_fV b a _ e with ⟨i, i1, rfl, e2⟩ | ⟨no, e2⟩
    · cases e2
    · cases e2
      rw [if_neg (fun q => no ((fou_iff _).mp q))]
      exact m_of (st_T rfl) bad1
/-! level -/
def lv8 (u : Nat) : Int32 := ((Int32.ofNat u &&& (1 : Int32)) + (Int32.ofNat u &&& (2 : Int32))) + ((3 : Int32) * ((Int32.ofNat u >>> ((2 : Int32) &&& 31)) &&& (1 : Int32)))
theorem lv8_st : ∀ j, j < 3 → ∀ u, u < 2 ^ j → (Int32.ofNat u ||| ((1 : Int32) <<< (Int32.ofNat j &&& 31))) = Int32.ofNat (u + 2 ^ j) ∧ lv8 u + Int32.ofNat (j + 1) = lv8 (u + 2 ^ j) ∧ u + 2 ^ j < 2 ^ (j + 1) := by decide +kernel
theorem p_wgt (hw : cWgt S m) {f : Nat} (hf : f < 3) : Hp (f_Shown_weightOf S (Int32.ofNat f)) (fun q => q = (Int32.ofNat (f + 1), S)) := by
  unfold f_Shown_weightOf
  refine p_of (st_b2 (q_Kfac S _)) ?_
  rw [if_pos ((thr_iff _).mpr ⟨f, hf, rfl⟩)]
  refine p_of (st_F one0) (p_of (st_aIe (v := Int32.ofNat (f + 1)) (oc (by omega)) ?_) (p_ret rfl))
  match f, hf with
  | 0, _ => exact hw.1
  | 1, _ => exact hw.2.1
  | 2, _ => exact hw.2.2
/-- the level of a row of minutes -/
theorem h_lvl_L (hw : cWgt S m) (hmf : MF m) {x p s : Nat} {now : Int32} (hx : sR S x 0 = some p) (hs : s < 60) (hn : sI m 57 0 = now) (n0 : 0 ≤ now.toInt) (n1 : now.toInt ≤ 30000) (hr : ∀ f, f < 3 → sI S p f = sI m 90 (3 * s + f) ∧ mok (sI m 90 (3 * s + f))) :
    ∀ (k j fu fu' u : Nat), j + k = 3 → u < 2 ^ j → H2 (f_Shown_levelSince_L4 fu S (some x) (now - 120) (lv8 u) (Int32.ofNat j)) (f_M_levelNow_L4 fu' m (some 57) (Int32.ofNat s) (Int32.ofNat u) (Int32.ofNat j)) (fun a b => ∃ w, w < 8 ∧ a = (lv8 w, S) ∧ b = (lv8 w, m))
  | _, _, 0, _, _, _, _ => h2_l0
  | _, _, _ + 1, 0, _, _, _ => h2_m0
  | 0, j, fu + 1, fu' + 1, u, hk, hu => by
    unfold f_Shown_levelSince_L4 f_Shown_levelSince_C4 f_M_levelNow_L4 f_M_levelNow_C4
    have e : j = 3 := by omega
    subst e
    refine l_of (st_T (by decide)) (m_of (st_T (by decide)) (m_of (st_b2 (v := lv8 u) (S' := m) rfl) (h2_ret ⟨u, by simpa using hu, rfl, rfl⟩)))
  | k + 1, j, fu + 1, fu' + 1, u, hk, hu => by
    unfold f_Shown_levelSince_L4 f_Shown_levelSince_C4 f_M_levelNow_L4 f_M_levelNow_C4
    have nj : ¬ (3 : Int32) ≤ Int32.ofNat j := fun q => by
      have := (ole (a := 3) (b := j) (by decide) (by omega)).mp q
      omega
    obtain ⟨r1, r2⟩ := hr j (by omega)
    obtain ⟨z1, z2, z3⟩ := lv8_st j (by omega) u hu
    have mm := m120 n0 n1 r2
    refine l_of (st_F nj) (m_of (st_F nj) (l_of (st_gRe hx) (l_of (st_aIe (oc (by omega)) r1) (m_of (st_gRe (hmf 36 90 rfl)) (m_of (st_aIe (v := sI m 90 (3 * s + j)) (ix3 s hs j (by omega)) rfl) ?_)))))
    have skip : H2 (f_Shown_levelSince_B36 (f_Shown_levelSince_L4 fu) S (some x) (now - 120) (lv8 u) (Int32.ofNat j)) (f_M_levelNow_B46 (f_M_levelNow_L4 fu') m (some 57) (Int32.ofNat s) (Int32.ofNat j) (Int32.ofNat u)) (fun a b => ∃ w, w < 8 ∧ a = (lv8 w, S) ∧ b = (lv8 w, m)) := by
      unfold f_Shown_levelSince_B36 f_M_levelNow_B46 f_M_levelNow_B47
      refine l_of st_val (m_of st_val (m_of st_val ?_))
      rw [o1, Int32.or_zero]
      exact h_lvl_L hw hmf hx hs hn n0 n1 hr k (j + 1) fu fu' u (by omega) (by omega)
    by_cases c1 : sI m 90 (3 * s + j) = -1
    · exact l_of (st_T c1) (m_of (st_T c1) skip)
    · refine l_of (st_F c1) (m_of (st_F c1) (l_of (st_gRe hx) (l_of (st_aIe (oc (by omega)) r1) (m_of (st_gIe hn) ?_))))
      by_cases c2 : (120 : Int32) < now - sI m 90 (3 * s + j)
      · have c3 : sI m 90 (3 * s + j) < now - 120 := Decidable.not_not.mp (fun q => (mm.mp ⟨c1, q⟩).2 c2)
        exact l_of (st_T c3) (m_of (st_T c2) skip)
      · have c3 := (mm.mpr ⟨c1, c2⟩).2
        refine l_of (st_F c3) (m_of (st_F c2) (l_p2 (p_wgt hw (by omega)) (fun v S' q => ?_)))
        cases q
        unfold f_Shown_levelSince_B36 f_M_levelNow_B47
        refine l_of st_val (l_of st_val (m_of st_val (m_of st_val ?_)))
        rw [o1, z1, z2]
        exact h_lvl_L hw hmf hx hs hn n0 n1 hr k (j + 1) fu fu' _ (by omega) z3
theorem h_levelAt (h : FR S m) {m' : AS} (hmf : MF m') (e : ∀ p j, ¬ (p = 57 ∧ j = 82) → sI m' p j = sI m p j) {s : Nat} (hs : s < nS m) : H2 (f_Session_levelAt S (some (lel S 19 s)) (sI m 57 0)) (f_M_levelNow m' (some 57) (Int32.ofNat s)) (fun a b => ∃ w, w < 8 ∧ a = (lv8 w, S) ∧ b = (lv8 w, m')) := by
  have z := h.Ses.1.1
  obtain ⟨x, ex⟩ := (h.Ses.2 s hs).2.2.2.1
  unfold f_Session_levelAt f_Shown_levelSince f_M_levelNow
  refine l_of (st_gRe ex) (l_of st_rv (l_b2 (fun v S' e1 => ?_)))
  have key : H2 (f_Shown_levelSince_L4 kr_FU S (some x) (sI m 57 0 - 120) 0 0) (f_M_levelNow_L4 kr_FU m' (some 57) (Int32.ofNat s) 0 0) (fun a b => ∃ w, w < 8 ∧ a = (lv8 w, S) ∧ b = (lv8 w, m')) := by
    cases c : sR S x 0 with
    | none =>
      show H2 (f_Shown_levelSince_C4 (f_Shown_levelSince_L4 1999) S (some x) (sI m 57 0 - 120) 0 0) _ _
      unfold f_Shown_levelSince_C4
      refine l_of (st_F (by decide)) (l_of (st_gRe c) (fun a b ha hb => nomatch ha))
    | some p =>
      have ep : mn S (lel S 19 s) 3 = p := by
        unfold mn
        rw [ex]
        show (sR S x 0).getD 0 = p
        rw [c]
        rfl
      have z8 : lv8 0 = 0 := by decide +kernel
      have q := h_lvl_L (S := S) (p := p) (m := m') (s := s) h.Wgt hmf c (by unfold nS at hs; omega) (e 57 0 (by omega)) h.NW.2.1 h.NW.2.2 (fun f hf => by
        rw [e 90 _ (by omega), ← ep]
        exact h.Ssh s hs f hf) 3 0 kr_FU kr_FU 0 rfl (by decide)
      rw [z8] at q
      exact q
  exact fun a b ha hb => by
    obtain ⟨w, w1, w2, w3⟩ := key _ _ e1 hb
    cases ha
    cases w2
    exact ⟨w, w1, rfl, w3⟩
theorem h_level (hT : TV T S) (hm : TI Tm m) (h : FR S m) (a : Int32) : H2 (f_K_level S (some 4) a) (f_M_level m (some 57) a) (fun x y => AN [eX] x.1 y.1 (sI y.2 57 82) ∧ P0 x.2 y.2) := by
  have b := FR_BB hT hm h
  have hmf := MF_of (TI_t hm 0)
  unfold f_K_level f_M_level
  refine h_fS b a (fun s hs e => ?_) ⟨AN_e 0 rfl (ti_sI_eq _ _ _ _), trivial⟩
  rw [e]
  refine l_of (st_gIe h.NW.1) (l_of st_rv (m_of st_rv (h2_22 (h_levelAt h hmf (fun p j q => lv0 m q 0) hs) (fun v S' u m' p => ?_))))
  obtain ⟨w, -, w2, w3⟩ := p
  cases w2
  cases w3
  exact h2_ret ⟨AN_v (ti_sI_eq _ _ _ _), trivial⟩
/-! asked -/
theorem p_there {p k n : Nat} (hn : sI S p 5 = Int32.ofNat n) (h12 : n ≤ 12) (hk : k < n) : Hp (f_Flow_isThere S (some p) (Int32.ofNat k)) (fun q => q = (1, S)) := by
  unfold f_Flow_isThere
  refine p_of (st_F (fun q => ?_)) (p_of (st_gIe hn) (p_of (st_F (fun q => ?_)) (p_of (st_F (fun q => ?_)) (p_ret rfl))))
  · have := lt0.mp q
    rw [oi (by omega)] at this
    omega
  · have := (ole (by omega) (by omega)).mp q
    omega
  · have := (ole (a := 12) (b := k) (by decide) (by omega)).mp q
    omega
theorem p_step1 {p k n : Nat} {v : Int32} (hn : sI S p 5 = Int32.ofNat n) (h12 : n ≤ 12) (hk : k < n) (e : sI S (fa S p 1) k = v) : Hp (f_Flow_firstOf S (some p) (Int32.ofNat k)) (fun q => q = (v, S)) := by
  unfold f_Flow_firstOf
  refine p_of st_rv (p_b2 (p_there hn h12 hk) (fun u S' q => ?_))
  cases q
  exact p_of (st_F one0) (p_of (st_row (oc (by omega)) e) (p_ret rfl))
/-- an attempt that goes on stands at a step of its flow -/
theorem AS_at (hM : MI m) (h : FR S m) {a : Nat} (ha : a < uA m) : ∃ v n x, v < nV m ∧ v < 8 ∧ 1 ≤ n ∧ n ≤ 12 ∧ sR S (lel S 18 a) 3 = some (lel S 17 v) ∧ sI m 78 a = Int32.ofNat v ∧ sI S (lel S 17 v) 5 = Int32.ofNat n ∧ sI m 66 v = Int32.ofNat n ∧ (∀ j k, j < 5 → k < n → sI S (fa S (lel S 17 v) j) k = sI m (67 + j) (12 * v + k)) ∧ sR S (lel S 18 a) 4 = some x ∧
    (sI m 80 a = 0 → ∃ k, k < n ∧ sI m 79 a = Int32.ofNat k ∧ sI m 67 (12 * v + k) = 0) := by
  obtain ⟨-, -, -, -, ⟨v, v1, v2, v3⟩, ⟨x, ex⟩⟩ := h.Att.2 a ha
  obtain ⟨⟨n, n1, n2, n3, n4, n5⟩, -⟩ := h.Ver.2 v v1
  have zV := h.Ver.1
  have za := h.Att.1
  have v8 : v < 8 := by
    have := zV.1
    unfold nV at v1
    omega
  have a1 : (a : Int) < (sI m 57 19).toInt := by
    rw [za.2.1, oi (by have := za.1; omega)]
    have : nn (sI m 57 19) = uA m := rfl
    omega
  obtain ⟨v', n', g1, g2, g3, g4⟩ := hM.2.2.1 a a1
  have v8' : v' < 8 := by
    have z1 := zV.1
    have z2 := zV.2.1
    rw [z2, oi (by omega)] at g2
    omega
  have ev : v' = v := oinj (by omega) (by omega) (g1.symm.trans v3)
  subst ev
  rw [n4, oi (by omega)] at g3
  have en : n' = n := by omega
  subst en
  exact ⟨v', n', x, v1, v8, n1, n2, v2, v3, n3, n4, n5, ex, g4⟩
theorem h_asked (hT : TV T S) (hm : TI Tm m) (hM : MI m) (h : FR S m) (a : Int32) : H2 (f_K_asked S (some 4) a) (f_M_asked m (some 57) a) (fun x y => AN [eX] x.1 y.1 (sI y.2 57 82) ∧ P0 x.2 y.2) := by
  have b := FR_BB hT hm h
  have hmf := MF_of (TI_t hm 0)
  have lv : ∀ {p j : Nat}, ¬ (p = 57 ∧ j = 82) → sI (wI m 57 82 0) p j = sI m p j := fun q => lv0 m q 0
  unfold f_K_asked f_M_asked
  refine h_fA b a (fun s hs e => ?_) ⟨AN_e 0 rfl (ti_sI_eq _ _ _ _), trivial⟩
  have z := h.Att.1.1
  have ea : a.toNatClampNeg = s := by rw [e]; exact oc (by unfold uA at hs; omega)
  obtain ⟨e1, -, -, e4⟩ := h.Ast.2 s hs
  obtain ⟨v, n, x, v1, v8, n1, n2, r3, r78, r5, r66, rr, -, rk⟩ := AS_at hM h hs
  refine l_of (st_gIe e1) (m_of (st_gRe (hmf 25 80 rfl)) (m_of (st_aIe (v := sI m 80 s) ea (lv (by omega))) ?_))
  by_cases c : sI m 80 s = 0
  · obtain ⟨k, k1, k2, -⟩ := rk c
    obtain ⟨e6, -⟩ := e4 c
    refine l_of (st_T c) (m_of (st_T c) (l_of (st_gRe r3) (l_of (st_gIe (e6.trans k2)) (l_of st_rv (l_p2 (p_step1 r5 n2 k1 (rr 1 k (by omega) k1)) (fun u S' q => ?_))))))
    cases q
    refine m_of (st_gRe (hmf 12 68 rfl)) (m_of (st_gRe (hmf 23 78 rfl)) (m_of (st_aIe (v := Int32.ofNat v) ea ((lv (by omega)).trans r78)) (m_of (st_gRe (hmf 24 79 rfl)) (m_of (st_aIe (v := Int32.ofNat k) ea ((lv (by omega)).trans k2)) (m_of (st_aIe (v := sI m 68 (12 * v + k)) (ix12 v (by omega) k (by omega)) (lv (by omega))) (h2_ret ⟨AN_v (ti_sI_eq _ _ _ _), trivial⟩))))))
  · exact l_of (st_F c) (m_of (st_F c) (h2_ret ⟨AN_v (ti_sI_eq _ _ _ _), trivial⟩))
end
end
section
/-! ===== risk ===== -/
def ptv (g h : Nat → Int32) (c : Int32) (i : Nat) : Int32 := if c = 0 then g i else if h i = -1 then g i else h i
section
variable {S m : AS}
theorem p_ptK (k4 : K4F S) {i : Nat} (hi : i < 3) (c : Int32) : Hp (f_K_pointsOf S (some 4) (Int32.ofNat i) c) (fun q => q = (ptv (sI S 9) (sI S 10) c i, S)) := by
  unfold f_K_pointsOf f_K_pointsOf_B34 ptv
  refine p_of (st_b2 (q_win S _ 0 2)) ?_
  rw [if_pos ((thr_iff _).mpr ⟨i, hi, rfl⟩)]
  refine p_of (st_F one0) ?_
  by_cases c0 : c = 0
  · rw [if_pos c0, if_pos c0]
    exact p_of (st_gRe (k4.1 3 9 rfl)) (p_of (st_aIe (oc (by omega)) rfl) (p_ret rfl))
  · rw [if_neg c0, if_neg c0]
    refine p_of (st_gRe (k4.1 4 10 rfl)) (p_of (st_aIe (v := sI S 10 i) (oc (by omega)) rfl) ?_)
    by_cases c1 : sI S 10 i = -1
    · rw [if_pos c1, if_pos c1]
      exact p_of (st_gRe (k4.1 3 9 rfl)) (p_of (st_aIe (oc (by omega)) rfl) (p_ret rfl))
    · rw [if_neg c1, if_neg c1]
      exact p_of (st_gRe (k4.1 4 10 rfl)) (p_of (st_aIe (oc (by omega)) rfl) (p_ret rfl))
theorem p_ptM (hmf : MF m) {i : Nat} (hi : i < 3) (c : Int32) : Hp (f_M_pointsOf m (some 57) (Int32.ofNat i) c) (fun q => q = (ptv (sI m 73) (sI m 74) c i, m)) := by
  unfold f_M_pointsOf f_M_pointsOf_B23 ptv
  by_cases c0 : c = 0
  · rw [if_pos c0, if_pos c0]
    exact p_of (st_gRe (hmf 17 73 rfl)) (p_of (st_aIe (oc (by omega)) rfl) (p_ret rfl))
  · rw [if_neg c0, if_neg c0]
    refine p_of (st_gRe (hmf 18 74 rfl)) (p_of (st_aIe (v := sI m 74 i) (oc (by omega)) rfl) ?_)
    by_cases c1 : sI m 74 i = -1
    · rw [if_pos c1, if_pos c1]
      exact p_of (st_gRe (hmf 17 73 rfl)) (p_of (st_aIe (oc (by omega)) rfl) (p_ret rfl))
    · rw [if_neg c1, if_neg c1]
      exact p_of (st_gRe (hmf 18 74 rfl)) (p_of (st_aIe (oc (by omega)) rfl) (p_ret rfl))
theorem ptv_eq (h : cPts S m) {i : Nat} (hi : i < 3) (c : Int32) : ptv (sI S 9) (sI S 10) c i = ptv (sI m 73) (sI m 74) c i := by
  unfold ptv
  rw [(h i hi).1, (h i hi).2]
/-- the wrong answers of the last hour -/
def w0 (v t : Int32) : Int32 := if v < t then 0 else 1
def wm (now v : Int32) : Int32 := if 60 ≤ now - v then 0 else 1
def tmx (t : Int32) : Int32 := if (0 : Int32) < t then t else 0
theorem p_wrK {p : Nat} {t : Int32} : Hp (f_Person_wrongsSince S (some p) t) (fun q => q = ((w0 (sI S p 4) (tmx t) + w0 (sI S p 5) (tmx t)) + w0 (sI S p 6) (tmx t), S)) := by
  unfold f_Person_wrongsSince f_Person_wrongsSince_B19 f_Person_wrongsSince_B32
  have last : ∀ y0 y1 : Int32, Hp ((gI S 16 6 (some p)).bind fun v1 => if v1 < tmx t then some ((y0 + y1) + (0 : Int32), S) else some ((y0 + y1) + (1 : Int32), S)) (fun q => q = ((y0 + y1) + w0 (sI S p 6) (tmx t), S)) := fun y0 y1 => by
    refine p_of st_gI ?_
    unfold w0
    by_cases c : sI S p 6 < tmx t
    · rw [if_pos c, if_pos c]
      exact p_ret rfl
    · rw [if_neg c, if_neg c]
      exact p_ret rfl
  have two : ∀ y0 : Int32, Hp ((gI S 16 5 (some p)).bind fun v2 => if v2 < tmx t then (gI S 16 6 (some p)).bind fun v1 => if v1 < tmx t then some ((y0 + 0) + (0 : Int32), S) else some ((y0 + 0) + (1 : Int32), S) else (gI S 16 6 (some p)).bind fun v1 => if v1 < tmx t then some ((y0 + 1) + (0 : Int32), S) else some ((y0 + 1) + (1 : Int32), S)) (fun q => q = ((y0 + w0 (sI S p 5) (tmx t)) + w0 (sI S p 6) (tmx t), S)) := fun y0 => by
    refine p_of st_gI ?_
    by_cases c : sI S p 5 < tmx t
    · rw [if_pos c, show w0 (sI S p 5) (tmx t) = 0 from if_pos c]
      exact last y0 0
    · rw [if_neg c, show w0 (sI S p 5) (tmx t) = 1 from if_neg c]
      exact last y0 1
  refine p_of st_val (p_of st_gI ?_)
  show Hp (if sI S p 4 < tmx t then _ else _) _
  by_cases c : sI S p 4 < tmx t
  · rw [if_pos c, show w0 (sI S p 4) (tmx t) = 0 from if_pos c]
    exact two 0
  · rw [if_neg c, show w0 (sI S p 4) (tmx t) = 1 from if_neg c]
    exact two 1
def sW (g : Nat → Int32) : Nat → Nat → Int32 → Int32
  | 0, _, a => a
  | k + 1, j, a => sW g k (j + 1) (a + g j)
theorem p_wrM_L (hmf : MF m) {i : Nat} (hi : i < 6) : ∀ (k j fu : Nat) (a : Int32), j + k = 3 → Hp (f_M_wrongs_L4 fu m (some 57) (Int32.ofNat i) a (Int32.ofNat j)) (fun q => q = (sW (fun j => wm (sI m 57 0) (sI m 61 (3 * i + j))) k j a, m))
  | _, _, 0, _, _ => p_0
  | 0, j, fu + 1, a, hk => by
    unfold f_M_wrongs_L4 f_M_wrongs_C4
    have e : j = 3 := by omega
    subst e
    exact p_of (st_T (by decide)) (p_ret rfl)
  | k + 1, j, fu + 1, a, hk => by
    unfold f_M_wrongs_L4 f_M_wrongs_C4 f_M_wrongs_B35
    have nj : ¬ (3 : Int32) ≤ Int32.ofNat j := fun q => by
      have := (ole (a := 3) (b := j) (by decide) (by omega)).mp q
      omega
    refine p_of (st_F nj) (p_of st_gI (p_of (st_gRe (hmf 4 61 rfl)) (p_of (st_aIe (v := sI m 61 (3 * i + j)) (ix3 i (by omega) j (by omega)) rfl) ?_)))
    have r := p_wrM_L hmf hi k (j + 1) fu (a + wm (sI m 57 0) (sI m 61 (3 * i + j))) (by omega)
    by_cases c : (60 : Int32) ≤ sI m 57 0 - sI m 61 (3 * i + j)
    · rw [show wm (sI m 57 0) (sI m 61 (3 * i + j)) = 0 from if_pos c] at r
      refine p_of (st_T c) (p_of st_val (p_of st_val ?_))
      rw [o1]
      refine p_mono r (fun q e => ?_)
      rw [e]
      show (sW _ k (j + 1) (a + 0), m) = (sW _ k (j + 1) (a + wm (sI m 57 0) (sI m 61 (3 * i + j))), m)
      rw [show wm (sI m 57 0) (sI m 61 (3 * i + j)) = 0 from if_pos c]
    · rw [show wm (sI m 57 0) (sI m 61 (3 * i + j)) = 1 from if_neg c] at r
      refine p_of (st_F c) (p_of st_val (p_of st_val ?_))
      rw [o1]
      refine p_mono r (fun q e => ?_)
      rw [e]
      show (sW _ k (j + 1) (a + 1), m) = (sW _ k (j + 1) (a + wm (sI m 57 0) (sI m 61 (3 * i + j))), m)
      rw [show wm (sI m 57 0) (sI m 61 (3 * i + j)) = 1 from if_neg c]
theorem wr_eq {now k v : Int32} (h0 : 0 ≤ now.toInt) (h1 : now.toInt ≤ 30000) (h : WR k v) : w0 k (tmx (now - 60 + 1)) = wm now v := by
  have e0 : (now - 60).toInt = now.toInt - 60 := by
    rw [Int32.toInt_sub, show (60 : Int32).toInt = 60 from by decide]
    exact bm (by omega) (by omega)
  have e1 : (now - 60 + 1).toInt = now.toInt - 59 := by
    rw [Int32.toInt_add, e0, show (1 : Int32).toInt = 1 from by decide]
    rw [show now.toInt - 60 + 1 = now.toInt - 59 by omega]
    exact bm (by omega) (by omega)
  have et : (tmx (now - 60 + 1)).toInt = if 0 < now.toInt - 59 then now.toInt - 59 else 0 := by
    unfold tmx
    by_cases c : (0 : Int32) < now - 60 + 1
    · have := Int32.lt_iff_toInt_lt.mp c
      rw [e1, show (0 : Int32).toInt = 0 from by decide] at this
      rw [if_pos c, if_pos this, e1]
    · have : ¬ 0 < now.toInt - 59 := fun q => c (Int32.lt_iff_toInt_lt.mpr (by rw [e1, show (0 : Int32).toInt = 0 from by decide]; exact q))
      rw [if_neg c, if_neg this]
      decide
  have key : k < tmx (now - 60 + 1) ↔ (60 : Int32) ≤ now - v := by
    rw [Int32.lt_iff_toInt_lt, Int32.le_iff_toInt_le, et, show (60 : Int32).toInt = 60 from by decide]
    rcases h with ⟨rfl, rfl⟩ | ⟨rfl, g0, g1⟩
    · have ev : (now - -1000).toInt = now.toInt + 1000 := by
        rw [Int32.toInt_sub, show (-1000 : Int32).toInt = -1000 from by decide]
        rw [show now.toInt - -1000 = now.toInt + 1000 by omega]
        exact bm (by omega) (by omega)
      rw [ev, show (-1 : Int32).toInt = -1 from by decide]
      split <;> omega
    · have ev : (now - k).toInt = now.toInt - k.toInt := by
        rw [Int32.toInt_sub]
        exact bm (by omega) (by omega)
      rw [ev]
      split <;> omega
  unfold w0 wm
  by_cases c : k < tmx (now - 60 + 1)
  · rw [if_pos c, if_pos (key.mp c)]
  · rw [if_neg c, if_neg (fun q => c (key.mpr q))]
theorem w3_eq (a b c : Int32) : (a + b) + c = ((0 + c) + b) + a := by
  rw [Int32.zero_add, Int32.add_comm (c + b) a, Int32.add_comm c b, ← Int32.add_assoc]
/-- the attempt's person, device and place -/
def RKa (S m : AS) (x a : Nat) : Prop := ∃ i d1 d2, (i < 6 ∧ d1 < 6 ∧ d2 < 6) ∧ (sR S x 0 = some (29 + 4 * i) ∧ sI S x 1 = Int32.ofNat d1 ∧ sI S x 2 = Int32.ofNat d2) ∧ (sI m 75 a = Int32.ofNat i ∧ sI m 76 a = Int32.ofNat d1 ∧ sI m 77 a = Int32.ofNat d2)
theorem h_riskOf (k4 : K4F S) (hmf : MF m) (nw : cNW S m) (pt : cPts S m) (wr : cWrg S m) (kn : cKn S m) {x a : Nat} (ha : a < 60) (rk : RKa S m x a) (c : Int32) : H2 (f_K_riskOf S (some 4) (some x) c) (f_M_riskOf m (some 57) (Int32.ofNat a) c) (fun p q => ∃ v, p = (v, S) ∧ q = (v, m)) := by
  obtain ⟨i, d1, d2, ⟨i6, l1, l2⟩, ⟨r0, r1, r2⟩, ⟨s0, s1, s2⟩⟩ := rk
  obtain ⟨n0, n1, n2⟩ := nw
  have fin : ∀ u : Int32, H2 (f_K_riskOf_B52 S (some 4) (some x) c (some (29 + 4 * i)) u) ((gR m 23 6 (some 57)).bind fun v2 => (gR m 23 22 (some 57)).bind fun v3 => (aI m 40 v3 (Int32.ofNat a)).bind fun v4 => (aI m 41 v2 (((6 : Int32) * Int32.ofNat i) + v4)).bind fun v5 => if v5 = 0 then (kr_rv m 23 (some 57)).bind fun u6 => kr_b2 (f_M_pointsOf m (some 57) (1 : Int32) c) fun v8 S7 => some (u + v8, S7) else some (u + (0 : Int32), m)) (fun p q => ∃ v, p = (v, S) ∧ q = (v, m)) := fun u => by
    unfold f_K_riskOf_B52
    refine l_of (st_gIe r2) (l_of st_gI (l_of (st_b2 (bt_is (by omega) S)) ?_))
    refine m_of (st_gRe (hmf 6 63 rfl)) (m_of (st_gRe (hmf 22 77 rfl)) (m_of (st_aIe (oc (by omega)) s2) (m_of (st_aIe (v := sI m 63 (6 * i + d2)) (ix6 i i6 d2 l2) rfl) ?_)))
    have k2 := (kn i i6 d2 l2).2
    by_cases b : bt (sI S (29 + 4 * i) 8) d2 = true
    · rw [if_pos b]
      refine l_of (st_F one0) (m_of (st_F (k2.mp b)) ?_)
      rw [Int32.add_zero]
      exact h2_ret ⟨u, rfl, rfl⟩
    · rw [if_neg b]
      refine l_of (st_T rfl) (m_of (st_T (Decidable.not_not.mp (fun q => b (k2.mpr q)))) (l_of st_rv (m_of st_rv ?_)))
      refine l_p2 (p_ptK k4 (i := 1) (by decide) c) (fun v S' q => ?_)
      cases q
      refine m_p2 (p_ptM hmf (i := 1) (by decide) c) (fun v S' q => ?_)
      cases q
      rw [ptv_eq pt (by decide)]
      exact l_of st_val (h2_ret ⟨_, rfl, rfl⟩)
  unfold f_K_riskOf f_M_riskOf f_M_riskOf_B52 f_M_wrongs
  refine l_of (st_gRe r0) (l_of st_rv (l_p2 (p_ptK k4 (i := 2) (by decide) c) (fun v S' q => ?_)))
  cases q
  refine l_of (st_gIe n0) (l_of st_rv (l_p2 p_wrK (fun v S' q => ?_)))
  cases q
  refine m_of (st_gRe (hmf 20 75 rfl)) (m_of (st_aIe (oc (by omega)) s0) (m_of st_rv (m_p2 (p_wrM_L hmf i6 3 0 kr_FU 0 rfl) (fun v S' q => ?_))))
  cases q
  refine m_of st_rv (m_p2 (p_ptM hmf (i := 2) (by decide) c) (fun v S' q => ?_))
  cases q
  obtain ⟨w4, w5, w6⟩ := wr i i6
  have es : sW (fun j => wm (sI m 57 0) (sI m 61 (3 * i + j))) 3 0 0 = (w0 (sI S (29 + 4 * i) 4) (tmx (sI m 57 0 - 60 + 1)) + w0 (sI S (29 + 4 * i) 5) (tmx (sI m 57 0 - 60 + 1))) + w0 (sI S (29 + 4 * i) 6) (tmx (sI m 57 0 - 60 + 1)) := by
    rw [wr_eq n1 n2 w4, wr_eq n1 n2 w5, wr_eq n1 n2 w6, w3_eq]
    rfl
  rw [es]
  refine l_of st_val (m_of st_val ?_)
  rw [ptv_eq pt (by decide), Int32.mul_comm (ptv (sI m 73) (sI m 74) c 2)]
  generalize (w0 (sI S (29 + 4 * i) 4) (tmx (sI m 57 0 - 60 + 1)) + w0 (sI S (29 + 4 * i) 5) (tmx (sI m 57 0 - 60 + 1)) + w0 (sI S (29 + 4 * i) 6) (tmx (sI m 57 0 - 60 + 1))) * ptv (sI m 73) (sI m 74) c 2 = u
  refine l_of (st_gIe r1) (l_of st_gI (l_of (st_b2 (bt_is (by omega) S)) ?_))
  refine m_of (st_gRe (hmf 5 62 rfl)) (m_of (st_gRe (hmf 21 76 rfl)) (m_of (st_aIe (oc (by omega)) s1) (m_of (st_aIe (v := sI m 62 (6 * i + d1)) (ix6 i i6 d1 l1) rfl) ?_)))
  have k1 := (kn i i6 d1 l1).1
  by_cases b : bt (sI S (29 + 4 * i) 7) d1 = true
  · rw [if_pos b]
    refine l_of (st_F one0) (m_of (st_F (k1.mp b)) (m_of st_val ?_))
    rw [Int32.add_zero]
    exact fin u
  · rw [if_neg b]
    refine l_of (st_T rfl) (m_of (st_T (Decidable.not_not.mp (fun q => b (k1.mpr q)))) (l_of st_rv (m_of st_rv ?_)))
    refine l_p2 (p_ptK k4 (i := 0) (by decide) c) (fun v S' q => ?_)
    cases q
    refine m_p2 (p_ptM hmf (i := 0) (by decide) c) (fun v S' q => ?_)
    cases q
    rw [ptv_eq pt (by decide)]
    exact l_of st_val (m_of st_val (fin _))
end
section
variable {T Tm : Nat → Nat} {S m : AS}
theorem RKa_of (h : FR S m) {a : Nat} (ha : a < uA m) {m' : AS} (e : ∀ p j, ¬ (p = 57 ∧ j = 82) → sI m' p j = sI m p j) : RKa S m' (lel S 18 a) a := by
  obtain ⟨-, ⟨i, i6, r1, r2⟩, ⟨d1, l1, r3, r4⟩, ⟨d2, l2, r5, r6⟩, -⟩ := h.Att.2 a ha
  exact ⟨i, d1, d2, ⟨i6, l1, l2⟩, ⟨r1, r3, r5⟩, (e 75 a (by omega)).trans r2, (e 76 a (by omega)).trans r4, (e 77 a (by omega)).trans r6⟩
theorem h_risk (hT : TV T S) (hm : TI Tm m) (h : FR S m) (a : Int32) : H2 (f_K_risk S (some 4) a) (f_M_risk m (some 57) a) (fun x y => AN [eX] x.1 y.1 (sI y.2 57 82) ∧ P0 x.2 y.2) := by
  have b := FR_BB hT hm h
  have f0 := FR_t hT hm h 0
  unfold f_K_risk f_M_risk
  refine h_fA b a (fun s hs e => ?_) ⟨AN_e 0 rfl (ti_sI_eq _ _ _ _), trivial⟩
  have z := h.Att.1.1
  rw [e]
  refine l_of st_rv (m_of st_rv (h2_22 (h_riskOf (K4F_of hT.1) (MF_of (TI_t hm 0)) f0.NW f0.Pts f0.Wrg f0.Kn (by unfold uA at hs; omega) (RKa_of h hs (fun p j q => lv0 m q 0)) 0) (fun v S' u m' p => ?_)))
  obtain ⟨w, w1, w2⟩ := p
  cases w1
  cases w2
  exact h2_ret ⟨AN_v (ti_sI_eq _ _ _ _), trivial⟩
theorem h_trialRisk (hT : TV T S) (hm : TI Tm m) (h : FR S m) (a : Int32) : H2 (f_K_trialRisk S (some 4) a) (f_M_trialRisk m (some 57) a) (fun x y => AN [eX] x.1 y.1 (sI y.2 57 82) ∧ P0 x.2 y.2) := by
  have b := FR_BB hT hm h
  have f0 := FR_t hT hm h 0
  unfold f_K_trialRisk f_M_trialRisk
  refine h_fA b a (fun s hs e => ?_) ⟨AN_e 0 rfl (ti_sI_eq _ _ _ _), trivial⟩
  have z := h.Att.1.1
  rw [e]
  refine l_of st_rv (m_of st_rv (h2_22 (h_riskOf (K4F_of hT.1) (MF_of (TI_t hm 0)) f0.NW f0.Pts f0.Wrg f0.Kn (by unfold uA at hs; omega) (RKa_of h hs (fun p j q => lv0 m q 0)) 1) (fun v S' u m' p => ?_)))
  obtain ⟨w, w1, w2⟩ := p
  cases w1
  cases w2
  exact h2_ret ⟨AN_v (ti_sI_eq _ _ _ _), trivial⟩
end
end
section
/-! ===== signing out; live by the audit ===== -/
theorem oc4 {n : Nat} (h : n ≤ 4000) : (Int32.ofNat n).toNatClampNeg = n := by
  have := natI (i := Int32.ofNat n) (by rw [oi4 h]; omega)
  rw [oi4 h] at this
  omega
theorem k1000' : ∀ s, s < 60 → (1000 : Int32) * 0 + Int32.ofNat s = Int32.ofNat s ∧ (1000 : Int32) * 1 + Int32.ofNat s = Int32.ofNat (1000 + s) := by decide +kernel
theorem p_has_L {S : AS} {k s : Int32} {N : Nat} (h0 : sR S 5 0 = some 6) (hN : (sI S 5 2).toInt = N) (hN2 : N ≤ 1024) : ∀ (d j fu : Nat), j + d = N → Hp (f_Audit_has_L2 fu S (some 5) k s (Int32.ofNat j)) (fun q => q.2 = S ∧ (q.1 = 0 ∨ q.1 = 1) ∧ (q.1 = 1 ↔ ∃ i, j ≤ i ∧ i < N ∧ sI S 6 i = (1000 : Int32) * k + s))
  | _, _, 0, _ => p_0
  | 0, j, fu + 1, hk => by
    unfold f_Audit_has_L2 f_Audit_has_C2
    refine p_of st_gI (p_of (st_T (Int32.le_iff_toInt_le.mpr (by rw [hN, oi4 (by omega)]; omega))) (p_ret ⟨rfl, Or.inl rfl, fun q => absurd (show (0 : Int32) = 1 from q) (by decide), ?_⟩))
    rintro ⟨i, q1, q2, -⟩
    omega
  | d + 1, j, fu + 1, hk => by
    unfold f_Audit_has_L2 f_Audit_has_C2
    refine p_of st_gI (p_of (st_F (fun q => by have := Int32.le_iff_toInt_le.mp q; rw [hN, oi4 (by omega)] at this; omega)) (p_of st_rv ?_))
    refine p_b2 (P := fun q => q = (sI S 6 j, S)) ?_ (fun v S' e => ?_)
    · unfold f_Audit_entryAt
      refine p_of (st_F (fun q => by have := lt0.mp q; rw [oi4 (by omega)] at this; omega)) (p_of (st_F (fun q => ?_)) (p_of (st_gRe h0) (p_of (st_aIe (oc4 (by omega)) rfl) (p_ret rfl))))
      have := (ole4 (a := 1024) (b := j) (by decide) (by omega)).mp q
      omega
    · cases e
      refine p_if (fun c => p_ret ⟨rfl, Or.inr rfl, fun _ => ⟨j, Nat.le_refl _, by omega, c⟩, fun _ => rfl⟩) (fun c => p_of st_val ?_)
      rw [o1]
      refine p_mono (p_has_L h0 hN hN2 d (j + 1) fu (by omega)) (fun q e => ⟨e.1, e.2.1, e.2.2.trans ⟨?_, ?_⟩⟩)
      · rintro ⟨i, q1, q2, q3⟩
        exact ⟨i, by omega, q2, q3⟩
      · rintro ⟨i, q1, q2, q3⟩
        refine ⟨i, ?_, q2, q3⟩
        have : i ≠ j := fun z => c (by rw [← z]; exact q3)
        omega
theorem p_lba_L {m : AS} {s : Int32} {N i0 : Nat} (hmf : MF m) (hN : (sI m 57 77).toInt = N) (hN2 : N ≤ 1200) (h1 : i0 < N) (h2 : sI m 124 i0 = s) (h3 : sI m 123 i0 = 0 ∨ sI m 123 i0 = 1) (h4 : ∀ j : Nat, i0 < j → j < N → sI m 124 j = s → ¬ sI m 123 j < 2) :
    ∀ (d j fu : Nat) (x : Int32), j + d = N → (i0 < j → x = if sI m 123 i0 = 0 then 1 else 0) → Hp (f_M_isLiveByAudit_L18 fu m (some 57) s x (Int32.ofNat j)) (fun q => q = (if sI m 123 i0 = 0 then 1 else 0, m))
  | _, _, 0, _, _, _ => p_0
  | 0, j, fu + 1, x, hk, hx => by
    unfold f_M_isLiveByAudit_L18 f_M_isLiveByAudit_C18
    refine p_of st_gI (p_of (st_T (Int32.le_iff_toInt_le.mpr (by rw [hN, oi4 (by omega)]; omega))) (p_of st_z (p_ret ?_)))
    rw [hx (by omega)]
  | d + 1, j, fu + 1, x, hk, hx => by
    unfold f_M_isLiveByAudit_L18 f_M_isLiveByAudit_C18
    refine p_of st_gI (p_of (st_F (fun q => by have := Int32.le_iff_toInt_le.mp q; rw [hN, oi4 (by omega)] at this; omega)) ?_)
    have go : ∀ y : Int32, (i0 < j + 1 → y = if sI m 123 i0 = 0 then 1 else 0) → Hp (f_M_isLiveByAudit_B64 (f_M_isLiveByAudit_L18 fu) m (some 57) s (Int32.ofNat j) y) (fun q => q = (if sI m 123 i0 = 0 then 1 else 0, m)) := fun y hy => by
      unfold f_M_isLiveByAudit_B64
      refine p_of st_val ?_
      rw [o1]
      exact p_lba_L hmf hN hN2 h1 h2 h3 h4 d (j + 1) fu y (by omega) hy
    have skip : i0 ≠ j → Hp (f_M_isLiveByAudit_B63 (f_M_isLiveByAudit_L18 fu) m (some 57) s x (Int32.ofNat j)) (fun q => q = (if sI m 123 i0 = 0 then 1 else 0, m)) := fun ne => by
      unfold f_M_isLiveByAudit_B63
      exact go x (fun q => hx (by omega))
    refine p_of (st_gRe (hmf 79 124 rfl)) (p_of (st_aIe (v := sI m 124 j) (oc4 (by omega)) rfl) (p_if (fun c => ?_) (fun c => skip (fun z => c (by rw [← z]; exact h2)))))
    refine p_of (st_gRe (hmf 78 123 rfl)) (p_of (st_aIe (v := sI m 123 j) (oc4 (by omega)) rfl) (p_if (fun c2 => ?_) (fun c2 => ?_)))
    · refine skip (fun z => ?_)
      subst z
      rcases h3 with q | q
      · rw [q] at c2
        exact absurd c2 (by decide)
      · rw [q] at c2
        exact absurd c2 (by decide)
    · have lt : sI m 123 j < 2 := Int32.not_le.mp c2
      have ji : ¬ i0 < j := fun q => h4 j q (by omega) c lt
      refine p_of (st_gRe (hmf 78 123 rfl)) (p_of (st_aIe (v := sI m 123 j) (oc4 (by omega)) rfl) (p_if (fun c3 => go 1 (fun q => ?_)) (fun c3 => go 0 (fun q => ?_))))
      · have e : i0 = j := by omega
        rw [e, if_pos c3]
      · have e : i0 = j := by omega
        rw [e, if_neg c3]
section
variable {T Tm : Nat → Nat} {S m : AS}
def P_end (S m : AS) : Prop := cLiv S m ∧ cGod S m ∧ cAU S m
theorem FR_end (h : FR S m) : P_end S m := ⟨h.Liv, h.God, h.AU⟩
theorem EE_P {T : Nat → Nat} {S0 m0 S m : AS} (h : EE 0 T S0 m0 (nS m0) (nF m0) S m) : P_end S m := by
  refine EE_out h.1.1 ?_ ?_ h
  · unfold nS
    rw [h.2.1.2.2 57 30 (by rfl)]
  · unfold nF
    rw [h.2.1.2.2 57 46 (by rfl)]
theorem h_isLiveByAudit (hT : TV T S) (hm : TI Tm m) (h : FR S m) (hb : (sI m 57 77).toInt ≤ 1024) (a : Int32) : H2 (f_K_isLiveByAudit S (some 4) a) (f_M_isLiveByAudit m (some 57) a) (fun x y => AN [eX] x.1 y.1 (sI y.2 57 82) ∧ P0 x.2 y.2) := by
  have b := FR_BB hT hm h
  have k4 := K4F_of hT.1
  obtain ⟨z1, z2, z3⟩ := zS b
  obtain ⟨u1, u2, u3, u4⟩ := h.AU
  obtain ⟨g1, g2, g3⟩ := u4 (by omega)
  unfold f_K_isLiveByAudit f_M_isLiveByAudit
  refine l_of (st_gRe (k4.1 8 19 rfl)) (l_of st_rv (l_of st_size (m_of st_rv (m_p2 (x_MS b a) (fun v S2 p => ?_)))))
  rw [z3, show sI m 57 30 = Int32.ofNat (nS m) from z2]
  have n60 : nS m ≤ 60 := z1
  refine l_bx (fun v' S' e => ?_) (fun v' S' e => ?_)
  · rcases p_rI _ e with ⟨a1, a2, e2⟩ | ⟨-, e2⟩
    · cases e2
      rw [oi (by omega)] at a2
      obtain ⟨s, s1, rfl⟩ := (IX_iff (n := nS m) (by omega)).mpr ⟨a1, a2⟩
      rcases p with ⟨-, p2⟩ | ⟨p1, -⟩
      · cases p2
        refine m_of st_rv (m_p2 p_may (fun v m' p => ?_))
        cases p
        refine m_of (st_F one0) ?_
        obtain ⟨N, hN⟩ : ∃ N : Nat, (sI m 57 77).toInt = N := ⟨(sI m 57 77).toInt.toNat, by omega⟩
        have hK : (sI S 5 2).toInt = N := by rw [u3]; omega
        obtain ⟨i0, i1, i2, i3, i4⟩ := g3 s s1
        have lm : ∀ p j, ¬ (p = 57 ∧ j = 82) → sI (wI m 57 82 0) p j = sI m p j := fun p j q => lv0 m q 0
        have ml := p_lba_L (m := wI m 57 82 0) (s := Int32.ofNat s) (N := N) (i0 := i0) (MF_of (TI_t hm 0)) (by rw [lm 57 77 (by omega)]; exact hN) (by omega) (by omega) (by rw [lm 124 i0 (by omega)]; exact i2) (by
          rw [lm 123 i0 (by omega), i3]
          by_cases c : sI m 89 s = 1
          · rw [if_pos c]
            exact Or.inl rfl
          · rw [if_neg c]
            exact Or.inr rfl) (fun j q1 q2 q3 => by
          rw [lm 124 j (by omega)] at q3
          rw [lm 123 j (by omega)]
          exact i4 j q1 (by omega) q3) N 0 kr_FU 0 (by omega) (fun q => absurd q (Nat.not_lt_zero _))
        refine m_hp ml (fun q e => ?_)
        rw [e, lm 123 i0 (by omega), i3]
        have k0 := (k1000' s (by omega)).1
        have k1 := (k1000' s (by omega)).2
        unfold f_Audit_has
        refine l_of (st_gRe (k4.1 1 5 rfl)) (l_of st_rv (l_p2 (p_has_L (k := 0) (s := Int32.ofNat s) k4.2.1 hK (by omega) N 0 kr_FU (by omega)) (fun v S' p => ?_)))
        obtain ⟨p1, p2, p3⟩ := p
        have p1 : S' = S := p1
        have p2 : v = 0 ∨ v = 1 := p2
        have p3 : v = 1 ↔ _ := p3
        have v1 : v = 1 := p3.mpr (by
          obtain ⟨i, q1, q2⟩ := (g1 s (by omega)).mpr s1
          exact ⟨i, Nat.zero_le _, by omega, by rw [k0]; exact q2⟩)
        rw [p1, v1]
        refine l_of (st_F one0) (l_of (st_gRe (k4.1 1 5 rfl)) (l_of st_rv (l_p2 (p_has_L (k := 1) (s := Int32.ofNat s) k4.2.1 hK (by omega) N 0 kr_FU (by omega)) (fun w S' p => ?_))))
        obtain ⟨p1, p2, p3⟩ := p
        have p1 : S' = S := p1
        have p2 : w = 0 ∨ w = 1 := p2
        have p3 : w = 1 ↔ _ := p3
        have w1 : w = 1 ↔ sI m 89 s ≠ 1 := by
          rw [p3]
          constructor
          · rintro ⟨i, -, q2, q3⟩
            exact ((g2 s (by omega)).mp ⟨i, by omega, by rw [← k1]; exact q3⟩).2
          · intro q
            obtain ⟨i, q1, q2⟩ := (g2 s (by omega)).mpr ⟨s1, q⟩
            exact ⟨i, Nat.zero_le _, by omega, by rw [k1]; exact q2⟩
        rw [p1]
        by_cases c : sI m 89 s = 1
        · have w0 : w = 0 := p2.resolve_right (fun q => w1.mp q c)
          rw [if_pos c, if_pos rfl]
          exact l_of (st_T w0) (h2_ret ⟨AN_v (ti_sI_eq _ _ _ _), trivial⟩)
        · rw [if_neg c, if_neg one0]
          exact l_of (st_F (by rw [w1.mpr c]; decide)) (h2_ret ⟨AN_v (ti_sI_eq _ _ _ _), trivial⟩)
      · exact absurd ⟨s, s1, rfl⟩ p1
    · cases e2
  · rcases p_rI _ e with ⟨a1, a2, e2⟩ | ⟨a1, e2⟩
    · cases e2
    · cases e2
      rcases p with ⟨p1, -⟩ | ⟨-, p2⟩
      · rw [oi (by omega)] at a1
        exact absurd ((IX_iff (n := nS m) (by omega)).mp p1) a1
      · cases p2
        refine m_of st_rv (m_p2 p_may (fun v m' p => ?_))
        cases p
        exact m_of (st_T rfl) (h2_ret ⟨AN_e 0 rfl (ti_sI_eq _ _ _ _), trivial⟩)
theorem h_signOut (hT : TV T S) (hm : TI Tm m) (h : FR S m) (a : Int32) : H2 (f_K_signOut S (some 4) a) (f_M_signOut m (some 57) a) (fun x y => AN [eX, eS] x.1 y.1 (sI y.2 57 82) ∧ P_end x.2 y.2) := by
  have b := FR_BB hT hm h
  have hf := FR_t hT hm h 0
  have n60 : nS (wI m 57 82 0) ≤ 60 := hf.Ses.1.1
  unfold f_K_signOut f_M_signOut f_M_signOut_B25 f_M_signOut_B26
  refine l_of st_rv (m_of st_rv (m_p2 (x_MS b a) (fun v S2 p => ?_)))
  refine l_bx (fun v' S' e => ?_) (fun v' S' e => ?_)
  · rcases x_fS b a _ e with ⟨s, s1, rfl, e2⟩ | ⟨no, e2⟩
    · cases e2
      rcases p with ⟨-, p2⟩ | ⟨p1, -⟩
      · cases p2
        obtain ⟨l1, l2⟩ := h.Liv.1 s s1
        have z := h.Ses.1.1
        refine l_of (st_gIe l1) (m_of (st_F one0) (m_of (st_gRe (MF_of hm 35 89 rfl)) (m_of (st_aIe (v := sI m 89 s) (oc (by unfold nS at s1; omega)) rfl) ?_)))
        rcases l2 with q | q
        · rw [q]
          refine l_of (st_bxe (rS0 S)) (m_of (st_T rfl) (m_of st_rv (m_p2 p_mayB (fun v m' p => ?_))))
          cases p
          exact m_of (st_T rfl) (h2_ret ⟨AN_e 1 rfl (ti_sI_eq _ _ _ _), FR_end (FR_X hT (TI_t hm 2) (FR_t hT hm h 2))⟩)
        · rw [q]
          refine l_of (st_bx (rS1 S)) (m_of (st_F one0) (m_of st_rv (m_p2 p_mayB (fun v m' p => ?_))))
          cases p
          refine m_of (st_F one0) (m_of st_rv (l_of (st_gIe hf.Liv.2) (l_of st_rv ?_)))
          refine h2_x2 (h_eS (ST_of hT (TI_t hm 0) hf) (EE_of hf) (s := s) s1 ((lv0 m (by omega) 0).trans q)) (fun v S' u m' p => ?_) (fun v S' u m' p => ?_)
          · obtain ⟨S2, c2, m2, e1, e2, he, hc, -⟩ := p
            cases e1
            cases e2
            refine l_of (st_gIe he.2.2.2.1) (h2_ret ⟨?_, EE_P he⟩)
            have c60 := cnt_le (sI (wI m 57 82 0) 89) (nS (wI m 57 82 0))
            show AN [eX, eS] (.inl (Int32.ofNat (cnt (sI (wI m 57 82 0) 89) (nS (wI m 57 82 0))) - Int32.ofNat (cnt (sI m' 89) (nS (wI m 57 82 0))))) (Int32.ofNat c2) (sI m' 57 82)
            rw [osub _ (by omega) _ (by omega) (by omega), show cnt (sI (wI m 57 82 0) 89) (nS (wI m 57 82 0)) - cnt (sI m' 89) (nS (wI m 57 82 0)) = c2 by omega]
            exact AN_v ((he.2.1.2.2 57 82 (by rfl)).trans (ti_sI_eq _ _ _ _))
          · obtain ⟨S2, c2, m2, e1, -⟩ := p
            cases e1
      · exact absurd ⟨s, s1, rfl⟩ p1
    · cases e2
  · rcases x_fS b a _ e with ⟨s, s1, rfl, e2⟩ | ⟨no, e2⟩
    · cases e2
    · cases e2
      rcases p with ⟨p1, -⟩ | ⟨-, p2⟩
      · exact absurd p1 no
      · cases p2
        refine m_of (st_T rfl) (m_of st_rv (m_p2 p_mayB (fun v m' p => ?_)))
        cases p
        exact m_of (st_T rfl) (h2_ret ⟨AN_e 0 rfl (ti_sI_eq _ _ _ _), FR_end (FR_X hT (TI_t hm 1) (FR_t hT hm h 1))⟩)
end
end
section
/-! ===== an element is put at a list's end ===== -/
theorem st_cp {α : Type} {S : AS} {k y : Nat} {n : Int32} {F : AS → Option α} : Le ((kr_cp S (some k) (some y) n).bind F) (F (wC S k y n.toNatClampNeg)) := fun _ ha => (bind_cut ha).2
theorem p_grow {S : AS} {l d n : Nat} (hr : sR S l 1 = some d) (hs : sI S l 2 = Int32.ofNat n) (hn : n < 201) (hL : sL S d = n) (hd : d < sN S) : Hp (f_AL_grow1 S (some l)) (fun q => ∃ m, q.1 = some (sN S) ∧ (q.2 = wR (wC (wN S 43 m m) d (sN S) n) l 1 (some (sN S)) ∨ (n = 0 ∧ q.2 = wR (wN S 43 m m) l 1 (some (sN S))))) := by
  have b20 : Hp (f_AL_grow2_B20 S (some l) (Int32.ofNat n + (1 : Int32)) (Int32.ofNat n)) (fun q => ∃ m, q.1 = some (sN S) ∧ (q.2 = wR (wC (wN S 43 m m) d (sN S) n) l 1 (some (sN S)) ∨ (n = 0 ∧ q.2 = wR (wN S 43 m m) l 1 (some (sN S))))) := by
    obtain ⟨g1, g2, m, g3, g4, g5⟩ := gl n hn
    unfold f_AL_grow2_B20
    refine p_b2 (P := fun q => q = (Int32.ofNat m, S)) ?_ (fun v S' e => ?_)
    · unfold f_AS_newLength
      refine p_of st_val (p_of (st_F g1) (p_of (st_F g2) (p_ret ?_)))
      rw [g5]
    · cases e
      refine p_of (st_gRe hr) ?_
      refine p_b2 (P := fun q => q = (some (sN S), wC (wN S 43 m m) d (sN S) n)) ?_ (fun v S' e => ?_)
      · unfold f_AR_copyOf1 f_AR_copyOf2
        refine p_of st_rv ?_
        refine p_b2 (P := fun q => q = (some (sN S), wC (wN S 43 m m) d (sN S) n)) ?_ (fun v S' e => p_ret e)
        refine p_of (st_T rfl) (p_of st_nA ?_)
        rw [oc (by omega)]
        unfold f_AR_copyOf2_B24
        refine p_of st_aN ?_
        rw [(ti_wN (S := S) (κ := 43) (l := m) (s := m) (k := d) (by omega)).2.1, hL]
        rw [if_neg (fun z => by
          have := Int32.lt_iff_toInt_lt.mp z
          rw [oi (by omega), oi (by omega)] at this
          omega)]
        refine p_of st_cp (p_ret ?_)
        rw [oc (by omega)]
      · cases e
        exact p_of st_pR (p_ret ⟨m, rfl, Or.inl rfl⟩)
  unfold f_AL_grow1 f_AL_grow2
  refine p_of (st_gIe hs) (p_of st_rv ?_)
  refine p_b2 (P := fun q => ∃ m, q.1 = some (sN S) ∧ (q.2 = wR (wC (wN S 43 m m) d (sN S) n) l 1 (some (sN S)) ∨ (n = 0 ∧ q.2 = wR (wN S 43 m m) l 1 (some (sN S))))) ?_ (fun v S' e => p_ret e)
  refine p_of (st_gRe hr) (p_of st_aN ?_)
  rw [hL]
  refine p_if (fun c => b20) (fun c => ?_)
  have n0 : n = 0 := by
    have := Int32.not_lt.mp c
    have := Int32.le_iff_toInt_le.mp this
    rw [oi (by omega), show (0 : Int32).toInt = 0 from by decide] at this
    omega
  refine p_of (st_gRe hr) (p_of st_ac (p_of st_ac (p_if (fun c2 => ?_) (fun c2 => b20))))
  exact p_of st_nA (p_of st_pR (p_ret ⟨_, rfl, Or.inr ⟨n0, rfl⟩⟩))
/-- the list l (its row was d) has x behind its n elements; all else that was there is as it was -/
def ADD (S S' : AS) (l d x n : Nat) : Prop :=
  (∀ p j, p < sN S → ¬ (p = l ∧ (j = 0 ∨ j = 2)) → sI S' p j = sI S p j) ∧ sI S' l 2 = Int32.ofNat (n + 1) ∧
  (∀ p j, p < sN S → ¬ (p = l ∧ j = 1) → ¬ (p = d ∧ j = n) → sR S' p j = sR S p j) ∧
  (∀ i, i < n → sR S' ((sR S' l 1).getD 0) i = sR S d i) ∧ sR S' ((sR S' l 1).getD 0) n = some x
theorem p_add {S : AS} {l d x n : Nat} (hr : sR S l 1 = some d) (hs : sI S l 2 = Int32.ofNat n) (hn : n < 201) (hL : sL S d ≤ 400) (hl : l < sN S) (hd : d < sN S) (hne : d ≠ l) : Hp (f_AL_add1 S (some l) (some x)) (fun q => ADD S q.2 l d x n) := by
  unfold f_AL_add1
  refine p_of st_gI (p_of st_pI (p_of (st_gRe (v := some d) hr) (p_of (st_gIe (v := Int32.ofNat n) ((ti_sI_ne (by omega)).trans hs)) (p_of st_rv ?_))))
  refine p_bd (P := fun S' => ADD S S' l d x n) ?_ (fun S' p => p_ret p)
  obtain ⟨S2, e2⟩ : ∃ S2, S2 = wI S l 0 (sI S l 0 + 1) := ⟨_, rfl⟩
  rw [← e2]
  have rS : sR S2 = sR S := by rw [e2, sR_wI]
  have nS : sN S2 = sN S := by
    rw [e2]
    rfl
  have lS : sL S2 = sL S := by
    rw [e2]
    rfl
  have oS : ∀ {p j : Nat}, ¬ (p = l ∧ j = 0) → sI S2 p j = sI S p j := fun q => by
    rw [e2]
    exact ti_sI_ne q
  have s2 : sI S2 l 2 = Int32.ofNat n := (oS (by omega)).trans hs
  unfold f_AL_add2
  refine p_of st_aN ?_
  rw [lS]
  refine p_if (fun c => ?_) (fun c => ?_)
  · have eL : sL S2 d = n := by
      rw [lS]
      have := congrArg Int32.toInt c
      rw [oi4 (by omega), oi4 (by omega)] at this
      omega
    refine p_of st_rv (p_b2 (p_grow (S := S2) (by rw [rS]; exact hr) s2 hn eL (by rw [nS]; exact hd)) (fun v S3 p => ?_))
    obtain ⟨m, p1, p2⟩ := p
    have p1 : v = some (sN S2) := p1
    rw [p1]
    unfold f_AL_add2_B11
    refine p_of st_bR (p_of st_pI (p_ret ?_))
    rw [oc (by omega), o1]
    have fI : ∀ p j, p < sN S → sI S3 p j = sI S2 p j := fun p j hp => by
      rcases p2 with p2 | ⟨-, p2⟩
      · have p2 : S3 = _ := p2
        rw [p2]
        show sI (wN S2 43 m m) p j = _
        rw [(ti_wN (by omega)).2.2.1]
      · have p2 : S3 = _ := p2
        rw [p2]
        show sI (wN S2 43 m m) p j = _
        rw [(ti_wN (by omega)).2.2.1]
    have fR : ∀ p j, p < sN S → ¬ (p = l ∧ j = 1) → sR S3 p j = sR S p j := fun p j hp q => by
      rcases p2 with p2 | ⟨-, p2⟩
      · have p2 : S3 = _ := p2
        rw [p2, ti_sR_ne q]
        show (if p = sN S2 then (fun b => if b < n then sR (wN S2 43 m m) d b else sR (wN S2 43 m m) (sN S2) b) else sR (wN S2 43 m m) p) j = _
        rw [if_neg (by omega), (ti_wN (by omega)).2.2.2.1, rS]
      · have p2 : S3 = _ := p2
        rw [p2, ti_sR_ne q, (ti_wN (by omega)).2.2.2.1, rS]
    have r1 : sR S3 l 1 = some (sN S2) := by
      rcases p2 with p2 | ⟨-, p2⟩
      · have p2 : S3 = _ := p2
        rw [p2, ti_sR_eq]
      · have p2 : S3 = _ := p2
        rw [p2, ti_sR_eq]
    have re : ∀ i, i < n → sR S3 (sN S2) i = sR S d i := fun i hi => by
      rcases p2 with p2 | ⟨n0, -⟩
      · have p2 : S3 = _ := p2
        rw [p2, ti_sR_ne (by omega)]
        show (if sN S2 = sN S2 then (fun b => if b < n then sR (wN S2 43 m m) d b else sR (wN S2 43 m m) (sN S2) b) else sR (wN S2 43 m m) (sN S2)) i = _
        rw [if_pos rfl]
        show (if i < n then sR (wN S2 43 m m) d i else sR (wN S2 43 m m) (sN S2) i) = _
        rw [if_pos hi, (ti_wN (by omega)).2.2.2.1, rS]
      · omega
    have rl : sR (wI (wR S3 (sN S2) n (some x)) l 2 (Int32.ofNat (n + 1))) l 1 = some (sN S2) := by
      rw [sR_wI, ti_sR_ne (by omega)]
      exact r1
    refine ⟨fun p j hp q => ?_, ti_sI_eq _ _ _ _, fun p j hp q1 q2 => ?_, fun i hi => ?_, ?_⟩
    · rw [ti_sI_ne (by omega)]
      show sI S3 p j = _
      rw [fI p j hp, oS (by omega)]
    · rw [sR_wI, ti_sR_ne (by omega)]
      exact fR p j hp q1
    · rw [rl]
      show sR (wI (wR S3 (sN S2) n (some x)) l 2 (Int32.ofNat (n + 1))) (sN S2) i = _
      rw [sR_wI, ti_sR_ne (by omega)]
      exact re i hi
    · rw [rl]
      show sR (wI (wR S3 (sN S2) n (some x)) l 2 (Int32.ofNat (n + 1))) (sN S2) n = _
      rw [sR_wI, ti_sR_eq]
  · unfold f_AL_add2_B11
    refine p_of st_bR (p_of st_pI (p_ret ?_))
    rw [oc (by omega), o1]
    have rl : sR (wI (wR S2 d n (some x)) l 2 (Int32.ofNat (n + 1))) l 1 = some d := by
      rw [sR_wI, ti_sR_ne (by omega), rS]
      exact hr
    refine ⟨fun p j hp q => ?_, ti_sI_eq _ _ _ _, fun p j hp q1 q2 => ?_, fun i hi => ?_, ?_⟩
    · rw [ti_sI_ne (by omega)]
      show sI S2 p j = _
      rw [oS (by omega)]
    · rw [sR_wI, ti_sR_ne q2, rS]
    · rw [rl]
      show sR (wI (wR S2 d n (some x)) l 2 (Int32.ofNat (n + 1))) d i = _
      rw [sR_wI, ti_sR_ne (by omega), rS]
    · rw [rl]
      show sR (wI (wR S2 d n (some x)) l 2 (Int32.ofNat (n + 1))) d n = _
      rw [sR_wI, ti_sR_eq]
theorem lp_ne : ∀ q, q < 7 → lp q ≠ 0 := by decide
/-- a list's row out of the types -/
theorem LO_add {T : Nat → Nat} {S : AS} (hT : TI T S) {q n : Nat} (hq : q < 7) (hs : sI S (lp q) 2 = Int32.ofNat n) (hn : n < 201) : ∃ d, sR S (lp q) 1 = some d ∧ sL S d ≤ 400 ∧ lp q < sN S ∧ d < sN S ∧ d ≠ lp q ∧ (∀ k, T k ≠ 0 → kd (T k) ≠ 1 → T k ≠ 30 + q → k ≠ d) := by
  obtain ⟨l1, d, l2, l3, l4, l5, l6⟩ := hT.t6 q hq
  have a1 := (hT.t1 (lp q) (by rw [l1]; omega)).1
  have t0 := hT.t8.1
  refine ⟨d, l2, l5, a1, ?_, ?_, ?_⟩
  · rcases l3 with l3 | l3
    · exact (hT.t1 d (by rw [l3]; omega)).1
    · omega
  · rintro rfl
    rcases l3 with l3 | l3
    · omega
    · exact lp_ne q hq l3
  · rintro k hk hk1 hk2 rfl
    rcases l3 with l3 | l3
    · exact hk2 l3
    · have := (hT.t1 k hk).2.1
      rw [l3] at this hk1
      rw [hT.t8.2.1] at this
      exact hk1 this.symm
end
section
/-! ===== recoveries: recover, stop, vouch ===== -/
def bcv (a : Int32) : Int32 :=
  let i1 := a - (((a.toUInt32 >>> ((1 : Int32).toUInt32 &&& Int32.toUInt32 31)).toInt32) &&& (1431655765 : Int32))
  let i2 := (i1 &&& (858993459 : Int32)) + (((i1.toUInt32 >>> ((2 : Int32).toUInt32 &&& Int32.toUInt32 31)).toInt32) &&& (858993459 : Int32))
  let i3 := (i2 + ((i2.toUInt32 >>> ((4 : Int32).toUInt32 &&& Int32.toUInt32 31)).toInt32)) &&& (252645135 : Int32)
  let i4 := i3 + ((i3.toUInt32 >>> ((8 : Int32).toUInt32 &&& Int32.toUInt32 31)).toInt32)
  let i5 := i4 + ((i4.toUInt32 >>> ((16 : Int32).toUInt32 &&& Int32.toUInt32 31)).toInt32)
  i5 &&& (63 : Int32)
def mnv (a : Int32) : Int32 := sW (fun j => (a >>> (Int32.ofNat j &&& 31)) &&& (1 : Int32)) 6 0 0
theorem bc_mn : ∀ k, k < 64 → bcv (Int32.ofNat k) = mnv (Int32.ofNat k) := by decide +kernel
theorem p_bc {S : AS} {a : Int32} : Hp (f_IN_bitCount S a) (fun q => q = (bcv a, S)) := by
  unfold f_IN_bitCount
  exact p_of st_val (p_of st_val (p_of st_val (p_of st_val (p_of st_val (p_ret rfl)))))
theorem p_mn_L {S : AS} {a : Int32} : ∀ (k j fu : Nat) (x : Int32), j + k = 6 → Hp (f_M_many_L4 fu S a x (Int32.ofNat j)) (fun q => q = (sW (fun j => (a >>> (Int32.ofNat j &&& 31)) &&& (1 : Int32)) k j x, S))
  | _, _, 0, _, _ => p_0
  | 0, j, fu + 1, x, hk => by
    unfold f_M_many_L4 f_M_many_C4
    have e : j = 6 := by omega
    subst e
    exact p_of (st_T (by decide)) (p_ret rfl)
  | k + 1, j, fu + 1, x, hk => by
    unfold f_M_many_L4 f_M_many_C4
    refine p_of (st_F (fun q => by have := (ole (a := 6) (b := j) (by decide) (by omega)).mp q; omega)) (p_of st_val (p_of st_val ?_))
    rw [o1]
    exact p_mn_L k (j + 1) fu _ (by omega)
section
variable {T Tm : Nat → Nat} {S m : AS}
/-- a session speaks for its person -/
def SPK (m : AS) (s : Nat) : Prop := sI m 89 s ≠ 0 ∧ sI m 88 s = -1
theorem p_speaks (hmf : MF m) {s : Nat} (hs : s < 60) : Hp (f_M_speaks m (some 57) (Int32.ofNat s)) (fun q => (SPK m s ∧ q = (1, m)) ∨ (¬ SPK m s ∧ q = (0, m))) := by
  unfold f_M_speaks
  refine p_of (st_gRe (hmf 35 89 rfl)) (p_of (st_aIe (v := sI m 89 s) (oc (by omega)) rfl) (p_if (fun c => p_ret (Or.inr ⟨fun q => q.1 c, rfl⟩)) (fun c => ?_)))
  refine p_of (st_gRe (hmf 34 88 rfl)) (p_of (st_aIe (v := sI m 88 s) (oc (by omega)) rfl) (p_if (fun c2 => p_ret (Or.inl ⟨⟨c, c2⟩, rfl⟩)) (fun c2 => p_ret (Or.inr ⟨fun q => c2 q.2, rfl⟩))))
theorem SPK_r (h : FR S m) {s : Nat} (hs : s < nS m) : sR S (lel S 19 s) 2 = none ↔ sI m 88 s = -1 := by
  rcases (h.Ses.2 s hs).2.2.1 with ⟨q1, q2⟩ | ⟨o, o1, q1, q2⟩
  · rw [q1, q2]
    exact ⟨fun _ => rfl, fun _ => rfl⟩
  · rw [q1, q2]
    have := h.Ses.1.1
    unfold nS at hs
    exact ⟨fun q => (nomatch q), fun q => absurd q.symm (ofNat_ne (by omega))⟩
theorem per_eq {i j : Nat} : some (29 + 4 * i) = some (29 + 4 * j) ↔ i = j := ⟨fun q => by have := Option.some.inj q; omega, fun q => by rw [q]⟩
theorem h_stop (hT : TV T S) (hm : TI Tm m) (h : FR S m) (a c : Int32) : H2 (f_K_stop S (some 4) a c) (f_M_stop m (some 57) a c) (fun x y => AN [eX, eS] x.1 y.1 (sI y.2 57 82) ∧ cRec x.2 y.2) := by
  have b := FR_BB hT hm h
  have hmf := MF_of hm
  have no1 : H2 (some ((Sum.inr eX : Int32 ⊕ String), wX S)) (f_M_stop_B21 m (some 57) a c 0) (fun x y => AN [eX, eS] x.1 y.1 (sI y.2 57 82) ∧ cRec x.2 y.2) := by
    unfold f_M_stop_B21 f_M_stop_B64 f_M_stop_B65
    refine m_of (st_T rfl) (m_of st_rv (m_p2 p_mayB (fun v m' p => ?_)))
    cases p
    exact m_of (st_T rfl) (h2_ret ⟨AN_e 0 rfl (ti_sI_eq _ _ _ _), (FR_X hT (TI_t hm 1) (FR_t hT hm h 1)).Rec⟩)
  have no2 : ∀ x, H2 (f_K_stop_B52 S (some x)) (f_M_stop_B64 m (some 57) a (some 57) 1) (fun x y => AN [eX, eS] x.1 y.1 (sI y.2 57 82) ∧ cRec x.2 y.2) := fun x => by
    unfold f_K_stop_B52 f_K_stop_B53 f_M_stop_B64 f_M_stop_B65
    refine l_of (st_bxe (rS0 S)) (m_of st_rv (m_p2 p_mayB (fun v m' p => ?_)))
    cases p
    exact m_of (st_T rfl) (h2_ret ⟨AN_e 1 rfl (ti_sI_eq _ _ _ _), (FR_X hT (TI_t hm 2) (FR_t hT hm h 2)).Rec⟩)
  unfold f_K_stop f_M_stop f_M_stop_B20
  refine l_of st_rv (m_of st_rv (m_p2 (x_MR b a) (fun v S2 p => ?_)))
  refine l_bx (fun v' S' e => ?_) (fun v' S' e => ?_)
  · rcases x_fR b a _ e with ⟨r, r1, ea, e2⟩ | ⟨no, e2⟩
    · cases e2
      rcases p with ⟨-, p2⟩ | ⟨p1, -⟩
      · cases p2
        refine m_of (st_F one0) (m_of st_rv (m_p2 (x_MS b c) (fun v S2 p => ?_)))
        refine l_of st_rv (l_bx (fun v' S' e => ?_) (fun v' S' e => ?_))
        · rcases x_fS b c _ e with ⟨s, s1, ec, e2⟩ | ⟨no, e2⟩
          · cases e2
            rcases p with ⟨-, p2⟩ | ⟨p1, -⟩
            · cases p2
              subst ea
              subst ec
              unfold f_M_stop_B21
              have z20 := h.Rec.1.1
              have r20 : r < 20 := by
                unfold nR at r1
                omega
              have z60 := h.Ses.1.1
              have s60 : s < 60 := by
                unfold nS at s1
                omega
              obtain ⟨-, ⟨i, i6, g1, g2⟩, g3, g4, g5, g6, g7⟩ := h.Rec.2.2 r r1
              obtain ⟨l1, l2⟩ := h.Liv.1 s s1
              obtain ⟨-, ⟨p, p6, q1, q2⟩, -⟩ := h.Ses.2 s s1
              have q3 := SPK_r h s1
              refine m_of (st_F one0) (m_of (st_F one0) (m_of (st_gRe (hmf 73 119 rfl)) (m_of (st_aIe (v := sI m 119 r) (oc (by omega)) rfl) (l_of (st_gIe g4) ?_))))
              by_cases c1 : sI m 119 r = 0
              · exact l_of (st_T c1) (m_of (st_T c1) (no2 _))
              · refine l_of (st_F c1) (m_of (st_F c1) (m_of st_rv (m_p2 (p_speaks hmf s60) (fun v S2 p => ?_))))
                refine l_of (st_gIe l1) ?_
                rcases p with ⟨sp, e⟩ | ⟨sp, e⟩
                · cases e
                  refine l_of (st_F sp.1) (l_of (st_gRe (q3.mpr sp.2)) (l_of (st_T rfl) (l_of (st_gRe q1) (l_of (st_gRe g1) (l_of st_ac (l_of st_ac ?_))))))
                  refine m_of (st_F one0) (m_of (st_gRe (hmf 31 85 rfl)) (m_of (st_aIe (oc (by omega)) q2) (m_of (st_gRe (hmf 71 117 rfl)) (m_of (st_aIe (oc (by omega)) g2) ?_))))
                  by_cases c2 : p = i
                  · subst c2
                    refine l_of (st_T rfl) (m_of (st_T rfl) ?_)
                    unfold f_K_stop_B53 f_M_stop_B65 f_Recovery_countVouchers f_M_many
                    have hmf0 := MF_of (TI_t hm 0)
                    have h0 := (FR_t hT hm h 0).Rec
                    refine l_of (st_bx (rS1 S)) (m_of st_rv (m_p2 p_mayB (fun v m' p => ?_)))
                    cases p
                    refine m_of (st_F one0) (m_of (st_gRe (hmf0 73 119 rfl)) (m_of (st_bZe (oc (by omega))) (m_of (st_gRe (hmf0 74 120 rfl)) (m_of (st_aIe (v := sI m 120 r) (oc (by omega)) ((ti_sI_ne (by omega)).trans (lv0 m (by omega) 0))) ?_))))
                    refine l_of st_pZ (l_of st_rv ?_)
                    refine l_p2 (P := fun q => q = (bcv (sI m 120 r), wI S (lel S 27 r) 2 0)) (p_of (st_gIe (v := sI m 120 r) ((ti_sI_ne (by omega)).trans g5)) (p_b2 p_bc (fun v S' e => p_ret e))) (fun v S' e => ?_)
                    cases e
                    refine m_p2 (p_mn_L 6 0 kr_FU 0 rfl) (fun v S' e => ?_)
                    cases e
                    have ev : sI m 120 r = Int32.ofNat (sI m 120 r).toNatClampNeg := Int32.toInt_inj.mp (by rw [oi (by have := natI g6.1; omega)]; exact (natI g6.1).symm)
                    have eb : bcv (sI m 120 r) = sW (fun j => (sI m 120 r >>> (Int32.ofNat j &&& 31)) &&& (1 : Int32)) 6 0 0 := by
                      rw [ev]
                      exact bc_mn _ (by have := natI g6.1; omega)
                    rw [eb]
                    refine h2_ret ⟨AN_v ?_, ?_⟩
                    · rw [ti_sI_ne (by omega)]
                      exact ti_sI_eq _ _ _ _
                    · obtain ⟨u1, u2, u3⟩ := h0
                      have nn : nR (wI (wI m 57 82 0) 119 r 0) = nR (wI m 57 82 0) := by
                        unfold nR
                        rw [ti_sI_ne (by omega)]
                      have tr : ∀ k, k < nR (wI m 57 82 0) → T (lel S 27 k) = 46 := fun k hk => tyR b hk
                      refine ⟨⟨?_, ?_, ?_⟩, fun k k1 k2 => ?_, fun k hk => ?_⟩
                      · rw [ti_sI_ne (by omega)]
                        exact u1.1
                      · rw [ti_sI_ne (by omega)]
                        exact u1.2.1
                      · refine (ti_sI_ne (fun q => ?_)).trans (u1.2.2.trans (ti_sI_ne (by omega)).symm)
                        have := tr r r1
                        rw [← q.1, show T 27 = 26 from (hT.1.t6 6 (by decide)).1] at this
                        exact absurd this (by decide)
                      · rw [nn] at k1
                        have := u2 k k1 k2
                        exact ⟨(ti_sI_ne (by omega)).trans this.1, (ti_sI_ne (by omega)).trans this.2⟩
                      · rw [nn] at hk
                        obtain ⟨w1, w2, w3, w4, w5, w6, w7⟩ := u3 k hk
                        rw [nn]
                        refine ⟨w1, ?_, ?_, ?_, ?_, ?_, ?_⟩
                        · obtain ⟨x, x1, x2, x3⟩ := w2
                          exact ⟨x, x1, x2, (ti_sI_ne (by omega)).trans x3⟩
                        · exact (ti_sI_ne (by omega)).trans (w3.trans (ti_sI_ne (by omega)).symm)
                        · by_cases y : k = r
                          · subst y
                            exact (ti_sI_eq _ _ _ _).trans (ti_sI_eq _ _ _ _).symm
                          · refine (ti_sI_ne (fun q => y ?_)).trans (w4.trans (ti_sI_ne (by omega)).symm)
                            exact ((u3 r r1).1 k hk q.1)
                        · exact (ti_sI_ne (by omega)).trans (w5.trans (ti_sI_ne (by omega)).symm)
                        · rw [ti_sI_ne (by omega)]
                          exact w6
                        · exact (ti_sI_ne (by omega)).trans (w7.trans (ti_sI_ne (by omega)).symm)
                  · exact l_of (st_F (fun q => c2 (per_eq.mp q))) (m_of (st_F (fun q => c2 (oinj (by omega) (by omega) q))) (no2 _))
                · cases e
                  refine m_of (st_T rfl) ?_
                  by_cases c3 : sI m 89 s = 0
                  · exact l_of (st_T c3) (no2 _)
                  · refine l_of (st_F c3) (l_of (st_gR) (l_of (st_F (fun q => sp ⟨c3, q3.mp q⟩)) (no2 _)))
            · exact absurd ⟨s, s1, ec⟩ p1
          · cases e2
        · rcases x_fS b c _ e with ⟨s, s1, ec, e2⟩ | ⟨no, e2⟩
          · cases e2
          · cases e2
            rcases p with ⟨p1, -⟩ | ⟨-, p2⟩
            · exact absurd p1 no
            · cases p2
              exact m_of (st_T rfl) no1
      · exact absurd ⟨r, r1, ea⟩ p1
    · cases e2
  · rcases x_fR b a _ e with ⟨r, r1, ea, e2⟩ | ⟨no, e2⟩
    · cases e2
    · cases e2
      rcases p with ⟨p1, -⟩ | ⟨-, p2⟩
      · exact absurd p1 no
      · cases p2
        exact m_of (st_T rfl) no1
end
end
section
/-! ===== vouch, recover ===== -/
theorem or64 : ∀ k, k < 64 → ∀ p, p < 6 → 0 ≤ (Int32.ofNat k ||| ((1 : Int32) <<< (Int32.ofNat p &&& 31))).toInt ∧ (Int32.ofNat k ||| ((1 : Int32) <<< (Int32.ofNat p &&& 31))).toInt < 64 := by decide +kernel
theorem p_lvM_L {m : AS} (hmf : MF m) {s : Int32} : ∀ (k j fu : Nat) (u : Int32), j + k = 3 → Hp (f_M_levelNow_L4 fu m (some 57) s u (Int32.ofNat j)) (fun q => q.2 = m)
  | _, _, 0, _, _ => p_0
  | 0, j, fu + 1, u, hk => by
    unfold f_M_levelNow_L4 f_M_levelNow_C4
    have e : j = 3 := by omega
    subst e
    exact p_of (st_T (by decide)) (p_of (st_b2 (S' := m) rfl) (p_ret rfl))
  | k + 1, j, fu + 1, u, hk => by
    unfold f_M_levelNow_L4 f_M_levelNow_C4
    have nj : ¬ (3 : Int32) ≤ Int32.ofNat j := fun q => by
      have := (ole (a := 3) (b := j) (by decide) (by omega)).mp q
      omega
    have go : ∀ w : Int32, Hp (f_M_levelNow_B47 (f_M_levelNow_L4 fu) m (some 57) s (Int32.ofNat j) u w) (fun q => q.2 = m) := fun w => by
      unfold f_M_levelNow_B47
      refine p_of st_val (p_of st_val ?_)
      rw [o1]
      exact p_lvM_L hmf k (j + 1) fu _ (by omega)
    refine p_of (st_F nj) (p_of (st_gRe (hmf 36 90 rfl)) (p_of st_aI ?_))
    unfold f_M_levelNow_B46
    exact p_if (fun _ => go 0) (fun _ => p_of st_gI (p_if (fun _ => go 0) (fun _ => go _)))
section
variable {T Tm : Nat → Nat} {S m : AS}
/-- a session's level, when something else was written -/
theorem h_levelAt2 (h : FR S m) {S' m' : AS} (rs : sR S' = sR S) (ws : cWgt S' m') (hmf : MF m') {s : Nat} (hs : s < nS m) (ei : ∀ f, f < 3 → sI S' (mn S (lel S 19 s) 3) f = sI S (mn S (lel S 19 s) 3) f) (e90 : ∀ f, f < 3 → sI m' 90 (3 * s + f) = sI m 90 (3 * s + f)) (e0 : sI m' 57 0 = sI m 57 0) : H2 (f_Session_levelAt S' (some (lel S 19 s)) (sI m 57 0)) (f_M_levelNow m' (some 57) (Int32.ofNat s)) (fun a b => ∃ w, w < 8 ∧ a = (lv8 w, S') ∧ b = (lv8 w, m')) := by
  have z := h.Ses.1.1
  obtain ⟨x, ex⟩ := (h.Ses.2 s hs).2.2.2.1
  unfold f_Session_levelAt f_Shown_levelSince f_M_levelNow
  refine l_of (st_gRe (v := some x) (by rw [rs]; exact ex)) (l_of st_rv (l_b2 (fun v S2 e1 => ?_)))
  have key : H2 (f_Shown_levelSince_L4 kr_FU S' (some x) (sI m 57 0 - 120) 0 0) (f_M_levelNow_L4 kr_FU m' (some 57) (Int32.ofNat s) 0 0) (fun a b => ∃ w, w < 8 ∧ a = (lv8 w, S') ∧ b = (lv8 w, m')) := by
    cases c : sR S' x 0 with
    | none =>
      show H2 (f_Shown_levelSince_C4 (f_Shown_levelSince_L4 1999) S' (some x) (sI m 57 0 - 120) 0 0) _ _
      unfold f_Shown_levelSince_C4
      refine l_of (st_F (by decide)) (l_of (st_gRe c) (fun a b ha hb => nomatch ha))
    | some p =>
      have ep : mn S (lel S 19 s) 3 = p := by
        unfold mn
        rw [ex]
        show (sR S x 0).getD 0 = p
        rw [← rs, c]
        rfl
      have z8 : lv8 0 = 0 := by decide +kernel
      have q := h_lvl_L (S := S') (p := p) (m := m') (s := s) ws hmf c (by unfold nS at hs; omega) e0 h.NW.2.1 h.NW.2.2 (fun f hf => by
        rw [e90 f hf, ← ep, ei f hf]
        exact h.Ssh s hs f hf) 3 0 kr_FU kr_FU 0 rfl (by decide)
      rw [z8] at q
      exact q
  exact fun a b ha hb => by
    obtain ⟨w, w1, w2, w3⟩ := key _ _ e1 hb
    cases ha
    cases w2
    exact ⟨w, w1, rfl, w3⟩
theorem vouch_yes (hT : TV T S) (hm : TI Tm m) (h : FR S m) {r s p : Nat} (r1 : r < nR m) (s1 : s < nS m) (p6 : p < 6) (q1 : sR S (lel S 19 s) 1 = some (29 + 4 * p)) (q2 : sI m 85 s = Int32.ofNat p) : H2 (f_K_vouch_B92 S (some 4) (some (lel S 27 r)) (some (lel S 19 s)) 1) (f_M_vouch_B104 m (some 57) (Int32.ofNat r) (Int32.ofNat s) (some 57) 1 1) (fun x y => AN [eX, eS] x.1 y.1 (sI y.2 57 82) ∧ cRec x.2 y.2) := by
  have b := FR_BB hT hm h
  have hmf0 := MF_of (TI_t hm 0)
  have h0 := (FR_t hT hm h 0).Rec
  have z20 := h.Rec.1.1
  have r20 : r < 20 := by
    unfold nR at r1
    omega
  have z60 := h.Ses.1.1
  have s60 : s < 60 := by
    unfold nS at s1
    omega
  obtain ⟨-, -, g3, g4, g5, g6, g7⟩ := h.Rec.2.2 r r1
  have lv : ∀ {p j : Nat}, ¬ (p = 57 ∧ j = 82) → sI (wI m 57 82 0) p j = sI m p j := fun q => lv0 m q 0
  have tr : ∀ k, k < nR m → T (lel S 27 k) = 46 := fun k hk => tyR b hk
  have tx : ∀ y τ, T y = τ → τ ≠ 46 → y ≠ lel S 27 r := fun y τ hy ht q => by
    rw [q, tr r r1] at hy
    exact ht hy.symm
  unfold f_K_vouch_B92 f_M_vouch_B104
  refine l_of (st_bx (rS1 S)) (m_of st_rv (m_p2 p_mayB (fun v m' p => ?_)))
  cases p
  refine m_of (st_F one0) (m_of (st_gRe (hmf0 74 120 rfl)) (m_of (st_aIe (v := sI m 120 r) (oc (by omega)) (lv (by omega))) (m_of (st_gRe (hmf0 31 85 rfl)) (m_of (st_aIe (v := Int32.ofNat p) (oc (by omega)) ((lv (by omega)).trans q2)) (m_of (st_bIe (oc (by omega))) ?_)))))
  refine l_of (st_gIe g5) (l_of (st_gRe q1) (l_of (st_gIe (h.PF.1 p p6).2.2.2.2) (l_of st_pI ?_)))
  obtain ⟨w, ew⟩ : ∃ w, w = sI m 120 r ||| ((1 : Int32) <<< (Int32.ofNat p &&& 31)) := ⟨_, rfl⟩
  rw [← ew]
  obtain ⟨S6, e6⟩ : ∃ S6, S6 = wI S (lel S 27 r) 3 w := ⟨_, rfl⟩
  obtain ⟨m8, e8⟩ : ∃ m8, m8 = wI (wI m 57 82 0) 120 r w := ⟨_, rfl⟩
  rw [← e6, ← e8]
  have o6 : ∀ {p j : Nat}, ¬ (p = lel S 27 r ∧ j = 3) → sI S6 p j = sI S p j := fun q => by
    rw [e6]
    exact ti_sI_ne q
  have o8 : ∀ {p j : Nat}, ¬ (p = 57 ∧ j = 82) → ¬ (p = 120 ∧ j = r) → sI m8 p j = sI m p j := fun a1 a2 => by
    rw [e8]
    exact (ti_sI_ne a2).trans (lv a1)
  have s6 : sI S6 (lel S 27 r) 3 = w := by rw [e6, ti_sI_eq]
  have m8r : sI m8 120 r = w := by rw [e8, ti_sI_eq]
  have m82 : sI m8 57 82 = 0 := by rw [e8, ti_sI_ne (by omega), ti_sI_eq]
  have rS6 : sR S6 = sR S := by rw [e6, sR_wI]
  have hmf8 : MF m8 := MF_e hmf0 (by rw [e8, sR_wI])
  have n4 : (4 : Nat) ≠ lel S 27 r := tx 4 1 (kt4 hT.1).1 (by decide)
  refine l_of (st_gIe (v := sI m 121 r) ((o6 (by omega)).trans g7)) (l_of (st_gIe (v := sI m 57 0) ((o6 (by omega)).trans h.NW.1)) (l_of st_rv ?_))
  refine m_of (st_gRe (hmf8 75 121 rfl)) (m_of (st_aIe (v := sI m 121 r) (oc (by omega)) (o8 (by omega) (by omega))) (m_of st_rv ?_))
  obtain ⟨t43, -⟩ : T (lel S 19 s) = 43 ∧ True := ⟨tyS b s1, trivial⟩
  obtain ⟨x, x1, x2, x3, x4⟩ := tyM (j := 3) hT.1 t43 rfl
  have nm : mn S (lel S 19 s) 3 ≠ lel S 27 r := tx _ 48 x4 (by decide)
  have n1 : (1 : Nat) ≠ lel S 27 r := tx 1 52 hT.2 (by decide)
  refine h2_22 (h_levelAt2 h rS6 ⟨(o6 (by omega)).trans h.Wgt.1, (o6 (by omega)).trans h.Wgt.2.1, (o6 (by omega)).trans h.Wgt.2.2⟩ hmf8 s1 (fun f hf => o6 (by omega)) (fun f hf => o8 (by omega) (by omega)) (o8 (by omega) (by omega))) (fun v S' u m' q => ?_)
  obtain ⟨y, y8, q1', q2'⟩ := q
  cases q1'
  cases q2'
  refine l_of st_pI (l_of (st_gIe (ti_sI_eq _ _ _ _)) (m_of (st_bIe (oc (by omega))) (m_of (st_gRe (hmf8 75 121 rfl)) (m_of (st_aIe (oc (by omega)) (ti_sI_eq _ _ _ _)) ?_))))
  obtain ⟨u1, u2, u3⟩ := h.Rec
  have oM : ∀ {p j : Nat}, ¬ (p = 57 ∧ j = 82) → ¬ (p = 120 ∧ j = r) → ¬ (p = 121 ∧ j = r) → sI (wI m8 121 r (sI m 121 r + lv8 y)) p j = sI m p j := fun a1 a2 a3 => (ti_sI_ne a3).trans (o8 a1 a2)
  have oS : ∀ {p j : Nat}, ¬ (p = lel S 27 r ∧ j = 3) → ¬ (p = lel S 27 r ∧ j = 4) → sI (wI S6 (lel S 27 r) 4 (sI m 121 r + lv8 y)) p j = sI S p j := fun a1 a2 => (ti_sI_ne a2).trans (o6 a1)
  have nn : nR (wI m8 121 r (sI m 121 r + lv8 y)) = nR m := by
    unfold nR
    rw [oM (by omega) (by omega) (by omega)]
  have el : ∀ k, lel (wI S6 (lel S 27 r) 4 (sI m 121 r + lv8 y)) 27 k = lel S 27 k := fun k => by
    unfold lel
    rw [sR_wI, rS6]
  have n27 : (27 : Nat) ≠ lel S 27 r := tx 27 26 (hT.1.t6 6 (by decide)).1 (by decide)
  refine h2_ret ⟨AN_v ((ti_sI_ne (by omega)).trans m82), ⟨?_, ?_, ?_⟩, fun k k1 k2 => ?_, fun k hk => ?_⟩
  · rw [oM (by omega) (by omega) (by omega)]
    exact u1.1
  · rw [oM (by omega) (by omega) (by omega)]
    exact u1.2.1
  · rw [oM (by omega) (by omega) (by omega), oS (by omega) (by omega)]
    exact u1.2.2
  · rw [nn] at k1
    rw [oM (by omega) (by omega) (by omega), oM (by omega) (by omega) (by omega)]
    exact u2 k k1 k2
  · rw [nn] at hk
    obtain ⟨w1, w2, w3, w4, w5, w6, w7⟩ := u3 k hk
    rw [nn, el]
    refine ⟨fun b hb e => w1 b hb (by rw [el] at e; exact e), ?_, ?_, ?_, ?_, ?_, ?_⟩
    · obtain ⟨x, x1, x2, x3⟩ := w2
      exact ⟨x, x1, by rw [sR_wI, rS6]; exact x2, (oM (by omega) (by omega) (by omega)).trans x3⟩
    · exact (oS (by omega) (by omega)).trans (w3.trans (oM (by omega) (by omega) (by omega)).symm)
    · exact (oS (by omega) (by omega)).trans (w4.trans (oM (by omega) (by omega) (by omega)).symm)
    · by_cases z : k = r
      · subst z
        exact ((ti_sI_ne (by omega)).trans s6).trans ((ti_sI_ne (by omega)).trans m8r).symm
      · have : lel S 27 k ≠ lel S 27 r := fun q => z (((u3 r r1).1 k hk) q)
        exact (oS (by omega) (by omega)).trans (w5.trans (oM (by omega) (by omega) (by omega)).symm)
    · by_cases z : k = r
      · subst z
        rw [ti_sI_ne (by omega), m8r, ew]
        have ev : sI m 120 k = Int32.ofNat (sI m 120 k).toNatClampNeg := Int32.toInt_inj.mp (by rw [oi (by have := natI g6.1; omega)]; exact (natI g6.1).symm)
        rw [ev]
        exact or64 _ (by have := natI g6.1; omega) p p6
      · rw [oM (by omega) (by omega) (by omega)]
        exact w6
    · by_cases z : k = r
      · subst z
        exact (ti_sI_eq _ _ _ _).trans (ti_sI_eq _ _ _ _).symm
      · have : lel S 27 k ≠ lel S 27 r := fun q => z (((u3 r r1).1 k hk) q)
        exact (oS (by omega) (by omega)).trans (w7.trans (oM (by omega) (by omega) (by omega)).symm)
theorem h_vouch (hT : TV T S) (hm : TI Tm m) (h : FR S m) (a c : Int32) : H2 (f_K_vouch S (some 4) a c) (f_M_vouch m (some 57) a c) (fun x y => AN [eX, eS] x.1 y.1 (sI y.2 57 82) ∧ cRec x.2 y.2) := by
  have b := FR_BB hT hm h
  have hmf := MF_of hm
  have no1 : H2 (some ((Sum.inr eX : Int32 ⊕ String), wX S)) (f_M_vouch_B21 m (some 57) a c 0) (fun x y => AN [eX, eS] x.1 y.1 (sI y.2 57 82) ∧ cRec x.2 y.2) := by
    unfold f_M_vouch_B21 f_M_vouch_B71 f_M_vouch_B72 f_M_vouch_B103 f_M_vouch_B104
    refine m_of (st_T rfl) (m_of (st_T rfl) (m_of st_rv (m_p2 p_mayB (fun v m' p => ?_))))
    cases p
    exact m_of (st_T rfl) (h2_ret ⟨AN_e 0 rfl (ti_sI_eq _ _ _ _), (FR_X hT (TI_t hm 1) (FR_t hT hm h 1)).Rec⟩)
  have no3 : H2 (some ((Sum.inr eS : Int32 ⊕ String), wX S)) (f_M_vouch_B103 m (some 57) a c (some 57) 1) (fun x y => AN [eX, eS] x.1 y.1 (sI y.2 57 82) ∧ cRec x.2 y.2) := by
    unfold f_M_vouch_B103 f_M_vouch_B104
    refine m_of st_rv (m_p2 p_mayB (fun v m' p => ?_))
    cases p
    exact m_of (st_T rfl) (h2_ret ⟨AN_e 1 rfl (ti_sI_eq _ _ _ _), (FR_X hT (TI_t hm 2) (FR_t hT hm h 2)).Rec⟩)
  have no2 : H2 (some ((Sum.inr eS : Int32 ⊕ String), wX S)) (f_M_vouch_B71 m (some 57) a c 1) (fun x y => AN [eX, eS] x.1 y.1 (sI y.2 57 82) ∧ cRec x.2 y.2) := by
    unfold f_M_vouch_B71 f_M_vouch_B72
    exact m_of (st_T rfl) no3
  have k52 : ∀ x y, Le (f_K_vouch_B52 S (some 4) x y) (some ((Sum.inr eS : Int32 ⊕ String), wX S)) := fun x y q hq => by
    unfold f_K_vouch_B52 f_K_vouch_B53 at hq
    exact st_bxe (rS0 S) q hq
  have k91 : ∀ x y, Le (f_K_vouch_B91 S (some 4) x y) (some ((Sum.inr eS : Int32 ⊕ String), wX S)) := fun x y q hq => by
    unfold f_K_vouch_B91 f_K_vouch_B92 at hq
    exact st_bxe (rS0 S) q hq
  unfold f_K_vouch f_M_vouch f_M_vouch_B20
  refine l_of st_rv (m_of st_rv (m_p2 (x_MR b a) (fun v S2 p => ?_)))
  refine l_bx (fun v' S' e => ?_) (fun v' S' e => ?_)
  · rcases x_fR b a _ e with ⟨r, r1, ea, e2⟩ | ⟨no, e2⟩
    · cases e2
      rcases p with ⟨-, p2⟩ | ⟨p1, -⟩
      · cases p2
        refine m_of (st_F one0) (m_of st_rv (m_p2 (x_MS b c) (fun v S2 p => ?_)))
        refine l_of st_rv (l_bx (fun v' S' e => ?_) (fun v' S' e => ?_))
        · rcases x_fS b c _ e with ⟨s, s1, ec, e2⟩ | ⟨no, e2⟩
          · cases e2
            rcases p with ⟨-, p2⟩ | ⟨p1, -⟩
            · cases p2
              subst ea
              subst ec
              unfold f_M_vouch_B21
              have z20 := h.Rec.1.1
              have r20 : r < 20 := by
                unfold nR at r1
                omega
              have z60 := h.Ses.1.1
              have s60 : s < 60 := by
                unfold nS at s1
                omega
              obtain ⟨-, ⟨i, i6, g1, g2⟩, g3, g4, g5, g6, g7⟩ := h.Rec.2.2 r r1
              obtain ⟨l1, l2⟩ := h.Liv.1 s s1
              obtain ⟨-, ⟨p, p6, q1, q2⟩, -⟩ := h.Ses.2 s s1
              have q3 := SPK_r h s1
              refine m_of (st_F one0) (m_of (st_F one0) (m_of (st_gRe (hmf 73 119 rfl)) (m_of (st_aIe (v := sI m 119 r) (oc (by omega)) rfl) (l_of (st_gIe g4) ?_))))
              by_cases c1 : sI m 119 r = 0
              · exact l_of (st_T c1) (m_of (st_T c1) (l_of (k52 _ _) no2))
              · refine l_of (st_F c1) (m_of (st_F c1) (m_of st_rv (m_p2 (p_speaks hmf s60) (fun v S2 p => ?_))))
                refine l_of (st_gIe l1) ?_
                rcases p with ⟨sp, e⟩ | ⟨sp, e⟩
                · cases e
                  refine l_of (st_F sp.1) (l_of (st_gRe (q3.mpr sp.2)) (l_of (st_T rfl) (l_of (st_gRe q1) (l_of (st_gRe g1) (l_of st_ac (l_of st_ac ?_))))))
                  refine m_of (st_F one0) (m_of st_rv ?_)
                  by_cases c2 : p = i
                  · subst c2
                    refine l_of (st_T rfl) (l_of (k52 _ _) ?_)
                    unfold f_M_levelNow
                    refine m_p2 (p_lvM_L hmf 3 0 kr_FU 0 rfl) (fun v m2 e => ?_)
                    have e : m2 = m := e
                    rw [e]
                    exact m_if (fun _ => no2) (fun _ => m_of (st_gRe (hmf 31 85 rfl)) (m_of (st_aIe (oc (by omega)) q2) (m_of (st_gRe (hmf 71 117 rfl)) (m_of (st_aIe (oc (by omega)) g2) (m_of (st_T rfl) no2)))))
                  · refine l_of (st_F (fun q => c2 (per_eq.mp q))) ?_
                    unfold f_K_vouch_B53
                    refine l_of (st_bx (rS1 S)) (l_of (st_gIe h.NW.1) (l_of st_rv ?_))
                    refine h2_22 (h_levelAt h hmf (fun _ _ _ => rfl) s1) (fun v S' u m' q => ?_)
                    obtain ⟨w, w8, e1, e2⟩ := q
                    cases e1
                    cases e2
                    by_cases c3 : lv8 w < 3
                    · exact l_of (st_T c3) (m_of (st_T c3) (l_of (k91 _ _) no2))
                    · refine l_of (st_F c3) (m_of (st_F c3) (l_of (st_gRe q1) (l_of (st_gIe (h.PF.1 p p6).2.2.2.2) (l_of (st_gIe g5) (l_of (st_b2 (bt_is (by omega) S)) ?_)))))
                      refine m_of (st_gRe (hmf 31 85 rfl)) (m_of (st_aIe (oc (by omega)) q2) (m_of (st_gRe (hmf 71 117 rfl)) (m_of (st_aIe (oc (by omega)) g2) (m_of (st_F (fun q => c2 (oinj (by omega) (by omega) q))) ?_))))
                      unfold f_M_vouch_B72
                      refine m_of (st_F one0) (m_of (st_gRe (hmf 74 120 rfl)) (m_of (st_aIe (v := sI m 120 r) (oc (by omega)) rfl) (m_of (st_gRe (hmf 31 85 rfl)) (m_of (st_aIe (oc (by omega)) q2) ?_))))
                      by_cases c4 : bt (sI m 120 r) p = true
                      · rw [if_pos c4]
                        exact l_of (st_F one0) (m_of (st_F (fun q => (bt_is20' (by omega)).mp q c4)) (l_of (k91 _ _) no3))
                      · rw [if_neg c4]
                        exact l_of (st_T rfl) (m_of (st_T ((bt_is20' (by omega)).mpr c4)) (vouch_yes hT hm h r1 s1 p6 q1 q2))
                · cases e
                  refine m_of (st_T rfl) ?_
                  by_cases c3 : sI m 89 s = 0
                  · exact l_of (st_T c3) (l_of (k52 _ _) no2)
                  · refine l_of (st_F c3) (l_of (st_gR) (l_of (st_F (fun q => sp ⟨c3, q3.mp q⟩)) (l_of (k52 _ _) no2)))
            · exact absurd ⟨s, s1, ec⟩ p1
          · cases e2
        · rcases x_fS b c _ e with ⟨s, s1, ec, e2⟩ | ⟨no, e2⟩
          · cases e2
          · cases e2
            rcases p with ⟨p1, -⟩ | ⟨-, p2⟩
            · exact absurd p1 no
            · cases p2
              exact m_of (st_T rfl) no1
      · exact absurd ⟨r, r1, ea⟩ p1
    · cases e2
  · rcases x_fR b a _ e with ⟨r, r1, ea, e2⟩ | ⟨no, e2⟩
    · cases e2
    · cases e2
      rcases p with ⟨p1, -⟩ | ⟨-, p2⟩
      · exact absurd p1 no
      · cases p2
        exact m_of (st_T rfl) no1
end
end
section
/-! ===== recover ===== -/
section
variable {T Tm : Nat → Nat} {S m : AS}
/-- a person's open recovery -/
def OPR (m : AS) (i r : Nat) : Prop := sI m 119 r ≠ 0 ∧ sI m 117 r = Int32.ofNat i
theorem p_hasR_L (b : BB T Tm S m) (h : cRec S m) {i : Nat} (i6 : i < 6) : ∀ (k j fu : Nat), j + k = nR m → Hp (f_K_hasOpenRecovery_L2 fu S (some 4) (some (29 + 4 * i)) (Int32.ofNat j)) (fun q => q.2 = S ∧ (q.1 = 0 ∨ q.1 = 1) ∧ (q.1 = 1 ↔ ∃ r, j ≤ r ∧ r < nR m ∧ OPR m i r))
  | _, _, 0, _ => p_0
  | 0, j, fu + 1, hk => by
    unfold f_K_hasOpenRecovery_L2 f_K_hasOpenRecovery_C2
    have r := (K4F_of b.1.1).1 16 27 rfl
    have z := h.1
    have n20 : nR m ≤ 20 := z.1
    refine p_of (st_gRe r) (p_of st_rv (p_of st_size ?_))
    rw [z.2.2, show sI m 57 70 = Int32.ofNat (nR m) from z.2.1]
    refine p_of (st_T ((ole (by omega) (by omega)).mpr (by omega))) (p_ret ⟨rfl, Or.inl rfl, fun q => absurd (show (0 : Int32) = 1 from q) (by decide), ?_⟩)
    rintro ⟨r, q1, q2, -⟩
    omega
  | k + 1, j, fu + 1, hk => by
    unfold f_K_hasOpenRecovery_L2 f_K_hasOpenRecovery_C2 f_K_hasOpenRecovery_B42
    have r := (K4F_of b.1.1).1 16 27 rfl
    have z := h.1
    have n20 : nR m ≤ 20 := z.1
    obtain ⟨-, ⟨x, x6, g1, g2⟩, g3, g4, -⟩ := h.2.2 j (by omega)
    refine p_of (st_gRe r) (p_of st_rv (p_of st_size ?_))
    rw [z.2.2, show sI m 57 70 = Int32.ofNat (nR m) from z.2.1]
    refine p_of (st_F (fun q => by have := (ole (by omega) (by omega)).mp q; omega)) (p_of (st_gRe r) (p_of st_rv (p_of (st_get (oc (by omega)) (atR b (by omega))) (p_of st_cc (p_of (st_gIe g4) ?_)))))
    have go : ¬ OPR m i j → Hp ((some (Int32.ofNat j + (1 : Int32))).bind fun i1 => f_K_hasOpenRecovery_L2 fu S (some 4) (some (29 + 4 * i)) i1) (fun q => q.2 = S ∧ (q.1 = 0 ∨ q.1 = 1) ∧ (q.1 = 1 ↔ ∃ r, j ≤ r ∧ r < nR m ∧ OPR m i r)) := fun no => by
      refine p_of st_val ?_
      rw [o1]
      refine p_mono (p_hasR_L b h i6 k (j + 1) fu (by omega)) (fun q e => ⟨e.1, e.2.1, e.2.2.trans ⟨?_, ?_⟩⟩)
      · rintro ⟨r, q1, q2, q3⟩
        exact ⟨r, by omega, q2, q3⟩
      · rintro ⟨r, q1, q2, q3⟩
        refine ⟨r, ?_, q2, q3⟩
        have : r ≠ j := fun z => no (by rw [← z]; exact q3)
        omega
    refine p_if (fun c => go (fun q => q.1 c)) (fun c => ?_)
    refine p_of (st_gRe g1) (p_of st_ac (p_of st_ac (p_if (fun c2 => ?_) (fun c2 => go (fun q => c2 ?_)))))
    · have e := per_eq.mp c2
      subst e
      exact p_ret ⟨rfl, Or.inr rfl, fun _ => ⟨j, Nat.le_refl _, by omega, c, g2⟩, fun _ => rfl⟩
    · rw [oinj (by omega) (by omega) (g2.symm.trans q.2)]
/-- the reference looks for one -/
theorem p_recM_L (hmf : MF m) (n20 : nR m ≤ 20) (n1 : sI m 57 70 = Int32.ofNat (nR m)) {a x2 : Int32} {P : Int32 × AS → Prop} {y0 : Int32} (hy0 : y0 = 0 ∨ y0 = 1)
    (H : ∀ fu y, (y = 0 ∨ y = 1) → (y = 1 ↔ y0 = 1 ∧ ∀ r, r < nR m → ¬ (sI m 119 r ≠ 0 ∧ sI m 117 r = a)) → Hp (f_M_recover_L36 (fu + 1) m (some 57) a x2 y (Int32.ofNat (nR m))) P) :
    ∀ (k j fu : Nat) (y : Int32), j + k = nR m → (y = 0 ∨ y = 1) → (y = 1 ↔ y0 = 1 ∧ ∀ r, r < j → ¬ (sI m 119 r ≠ 0 ∧ sI m 117 r = a)) → Hp (f_M_recover_L36 fu m (some 57) a x2 y (Int32.ofNat j)) P
  | _, _, 0, _, _, _, _ => p_0
  | 0, j, fu + 1, y, hk, hy, he => by
    have e : j = nR m := by omega
    subst e
    exact H fu y hy he
  | k + 1, j, fu + 1, y, hk, hy, he => by
    unfold f_M_recover_L36 f_M_recover_C36
    refine p_of (st_gIe n1) (p_of (st_F (fun q => by have := (ole (by omega) (by omega)).mp q; omega)) ?_)
    have go : ∀ y', (y' = 0 ∨ y' = 1) → (y' = 1 ↔ y = 1 ∧ ¬ (sI m 119 j ≠ 0 ∧ sI m 117 j = a)) → Hp (f_M_recover_B75 (f_M_recover_L36 fu) m (some 57) a x2 (Int32.ofNat j) y') P := fun y' h01 hh => by
      unfold f_M_recover_B75
      refine p_of st_val ?_
      rw [o1]
      refine p_recM_L hmf n20 n1 hy0 H k (j + 1) fu y' (by omega) h01 ?_
      rw [hh, he]
      constructor
      · rintro ⟨⟨q1, q2⟩, q3⟩
        refine ⟨q1, fun r hr => ?_⟩
        by_cases c : r = j
        · rw [c]
          exact q3
        · exact q2 r (by omega)
      · rintro ⟨q1, q2⟩
        exact ⟨⟨q1, fun r hr => q2 r (by omega)⟩, q2 j (by omega)⟩
    have stay : ¬ (sI m 119 j ≠ 0 ∧ sI m 117 j = a) → y ≠ 0 → Hp (f_M_recover_B70 (f_M_recover_L36 fu) m (some 57) a x2 (Int32.ofNat j)) P := fun q c => by
      unfold f_M_recover_B70
      exact go 1 (Or.inr rfl) ⟨fun _ => ⟨hy.resolve_left c, q⟩, fun _ => rfl⟩
    have drop : (y = 1 → (sI m 119 j ≠ 0 ∧ sI m 117 j = a)) → Hp (f_M_recover_B74 (f_M_recover_L36 fu) m (some 57) a x2 (Int32.ofNat j)) P := fun q => by
      unfold f_M_recover_B74
      exact go 0 (Or.inl rfl) ⟨fun z => absurd z (by decide), fun z => absurd (q z.1) z.2⟩
    refine p_if (fun c => drop (fun q => by rw [c] at q; exact absurd q (by decide))) (fun c => ?_)
    refine p_of (st_gRe (hmf 73 119 rfl)) (p_of (st_aIe (v := sI m 119 j) (oc (by omega)) rfl) (p_if (fun c2 => stay (fun q => q.1 c2) c) (fun c2 => ?_)))
    exact p_of (st_gRe (hmf 71 117 rfl)) (p_of (st_aIe (v := sI m 117 j) (oc (by omega)) rfl) (p_if (fun c3 => drop (fun _ => ⟨c2, c3⟩)) (fun c3 => stay (fun q => c3 q.2) c)))
theorem p_newR {S1 : AS} {z p : Nat} {v : Int32} : Hp (f_Recovery_init S1 (some z) (some p) v) (fun S' => S' = wI (wR (wI S1 z 2 1) z 0 (some p)) z 1 v) := by
  unfold f_Recovery_init
  exact p_of st_val (p_of st_pZ (p_of st_pR (p_of st_pI (p_ret rfl))))
theorem recover_yes (hT : TV T S) (hm : TI Tm m) (h : FR S m) {i fu : Nat} (i6 : i < 6) (n19 : nR m < 20) : H2 (f_K_recover_B38 S (some 4) (some (29 + 4 * i)) 1) (f_M_recover_L36 (fu + 1) m (some 57) (Int32.ofNat i) 1 1 (Int32.ofNat (nR m))) (fun x y => AN [eX, eS] x.1 y.1 (sI y.2 57 82) ∧ cRec x.2 y.2) := by
  have b := FR_BB hT hm h
  have hmf := MF_of hm
  have hmf0 := MF_of (TI_t hm 0)
  have k4 := K4F_of hT.1
  have r := k4.1 16 27 rfl
  obtain ⟨u1, u2, u3⟩ := h.Rec
  have n70 : sI m 57 70 = Int32.ofNat (nR m) := u1.2.1
  have s27 : sI S 27 2 = Int32.ofNat (nR m) := u1.2.2.trans n70
  obtain ⟨d, d1, d2, d3, d4, d5, d6⟩ := LO_add hT.1 (q := 6) (by decide) s27 (by omega)
  have d1 : sR S 27 1 = some d := d1
  have d3 : 27 < sN S := d3
  have d5 : d ≠ 27 := d5
  have t4 := (kt4 hT.1).1
  have n4 : 4 < sN S := (hT.1.t1 4 (by rw [t4]; decide)).1
  have d4n : 4 ≠ d := d6 4 (by rw [t4]; decide) (by rw [t4]; decide) (by rw [t4]; decide)
  unfold f_K_recover_B38
  refine l_of (st_bx (rS1 S)) (l_of (st_gRe r) (l_of st_val ?_))
  obtain ⟨S4, e4⟩ : ∃ S4, S4 = nO S 17 := ⟨_, rfl⟩
  rw [← e4]
  have N4 : sN S4 = sN S + 1 := by rw [e4]; rfl
  have f4 : ∀ k, k < sN S → sI S4 k = sI S k ∧ sR S4 k = sR S k ∧ sL S4 k = sL S k := fun k hk => by
    have := ti_wN (S := S) (κ := 17) (l := 0) (s := kr_cN (17 - 10)) (k := k) (by omega)
    rw [e4]
    exact ⟨this.2.2.1, this.2.2.2.1, this.2.1⟩
  have z4 : sI S4 (sN S) = (fun _ => 0) := by
    rw [e4]
    exact (ti_wN0 S 17 0 (kr_cN (17 - 10))).2.2.1
  refine l_of (st_gIe (v := sI m 57 0) (by rw [(f4 4 n4).1]; exact h.NW.1)) (l_pd p_newR (fun S6 e => ?_))
  have e : S6 = _ := e
  have N6 : sN S6 = sN S + 1 := by
    rw [e]
    exact N4
  have f6 : ∀ k, k < sN S → (∀ j, sI S6 k j = sI S k j) ∧ (∀ j, sR S6 k j = sR S k j) ∧ sL S6 k = sL S k := fun k hk => by
    obtain ⟨a1, a2, a3⟩ := f4 k hk
    rw [e]
    refine ⟨fun j => ?_, fun j => ?_, a3⟩
    · rw [ti_sI_ne (by omega)]
      show sI (wI S4 (sN S) 2 1) k j = _
      rw [ti_sI_ne (by omega), a1]
    · rw [sR_wI, ti_sR_ne (by omega), sR_wI, a2]
  have g6 : sI S6 (sN S) 1 = sI m 57 0 ∧ sI S6 (sN S) 2 = 1 ∧ sI S6 (sN S) 3 = 0 ∧ sI S6 (sN S) 4 = 0 ∧ sR S6 (sN S) 0 = some (29 + 4 * i) := by
    rw [e]
    refine ⟨ti_sI_eq _ _ _ _, ?_, ?_, ?_, ?_⟩
    · rw [ti_sI_ne (by omega)]
      exact ti_sI_eq _ _ _ _
    · rw [ti_sI_ne (by omega)]
      show sI (wI S4 (sN S) 2 1) (sN S) 3 = 0
      rw [ti_sI_ne (by omega), z4]
    · rw [ti_sI_ne (by omega)]
      show sI (wI S4 (sN S) 2 1) (sN S) 4 = 0
      rw [ti_sI_ne (by omega), z4]
    · rw [sR_wI, ti_sR_eq]
  refine l_of st_rv (l_p2 (p_add (S := S6) (l := 27) (d := d) (x := sN S) (n := nR m) (by rw [(f6 27 d3).2.1]; exact d1) (by rw [(f6 27 d3).1]; exact s27) (by omega) (by rw [(f6 d d4).2.2]; exact d2) (by omega) (by omega) d5) (fun v S8 p => ?_))
  obtain ⟨p1, p2, p3, p4, p5⟩ := p
  have p2 : sI S8 27 2 = Int32.ofNat (nR m + 1) := p2
  have fI : ∀ k j, k < sN S → ¬ (k = 27 ∧ (j = 0 ∨ j = 2)) → sI S8 k j = sI S k j := fun k j hk q => (p1 k j (by omega) q).trans ((f6 k hk).1 j)
  have fR : ∀ k j, k < sN S → ¬ (k = 27 ∧ j = 1) → ¬ (k = d ∧ j = nR m) → sR S8 k j = sR S k j := fun k j hk q1 q2 => (p3 k j (by omega) q1 q2).trans ((f6 k hk).2.1 j)
  have r8 : sR S8 4 16 = some 27 := (fR 4 16 n4 (by omega) (by omega)).trans r
  have elo : ∀ k, k < nR m → lel S8 27 k = lel S 27 k := fun k hk => by
    unfold lel
    rw [p4 k hk, (f6 d d4).2.1, d1]
    rfl
  have eln : lel S8 27 (nR m) = sN S := by
    unfold lel
    rw [p5]
    rfl
  have old : ∀ k, k < nR m → lel S 27 k < sN S ∧ lel S 27 k ≠ 27 ∧ lel S 27 k ≠ d := fun k hk => by
    have t := tyR b hk
    refine ⟨(hT.1.t1 _ (by rw [t]; decide)).1, fun q => ?_, d6 _ (by rw [t]; decide) (by rw [t]; decide) (by rw [t]; decide)⟩
    rw [q, show T 27 = 26 from (hT.1.t6 6 (by decide)).1] at t
    exact absurd t (by decide)
  refine l_of (st_gRe r8) (l_of st_rv (l_of st_size ?_))
  rw [p2, show Int32.ofNat (nR m + 1) - 1 = Int32.ofNat (nR m) by rw [← o1]; exact Int32.add_sub_cancel _ _]
  unfold f_M_recover_L36 f_M_recover_C36
  have lv : ∀ {p j : Nat}, ¬ (p = 57 ∧ j = 82) → sI (wI m 57 82 0) p j = sI m p j := fun q => lv0 m q 0
  refine m_of (st_gIe n70) (m_of (st_T ((ole (by omega) (by omega)).mpr (Nat.le_refl _))) (m_of st_rv (m_p2 p_mayB (fun v m' q => ?_))))
  cases q
  refine m_of (st_F one0) (m_of (st_gRe (hmf0 71 117 rfl)) (m_of (st_gIe (v := Int32.ofNat (nR m)) ((lv (by omega)).trans n70)) (m_of (st_bIe (oc (by omega))) ?_)))
  refine m_of (st_gRe (hmf0 72 118 rfl)) (m_of (st_gIe (v := Int32.ofNat (nR m)) ((ti_sI_ne (by omega)).trans ((lv (by omega)).trans n70))) (m_of (st_gIe (v := sI m 57 0) ((ti_sI_ne (by omega)).trans (lv (by omega)))) (m_of (st_bIe (oc (by omega))) ?_)))
  refine m_of (st_gRe (hmf0 73 119 rfl)) (m_of (st_gIe (v := Int32.ofNat (nR m)) ((ti_sI_ne (by omega)).trans ((ti_sI_ne (by omega)).trans ((lv (by omega)).trans n70)))) (m_of (st_bZe (oc (by omega))) ?_))
  refine m_of (st_gIe (v := Int32.ofNat (nR m)) ((ti_sI_ne (by omega)).trans ((ti_sI_ne (by omega)).trans ((ti_sI_ne (by omega)).trans ((lv (by omega)).trans n70))))) (m_of st_pI (m_of (st_gIe (ti_sI_eq _ _ _ _)) ?_))
  rw [show Int32.ofNat (nR m) + 1 - 1 = Int32.ofNat (nR m) from Int32.add_sub_cancel _ _, o1]
  obtain ⟨M, eM⟩ : ∃ M, M = wI (wI (wI (wI (wI m 57 82 0) 117 (nR m) (Int32.ofNat i)) 118 (nR m) (sI m 57 0)) 119 (nR m) 1) 57 70 (Int32.ofNat (nR m + 1)) := ⟨_, rfl⟩
  rw [← eM]
  have m70 : sI M 57 70 = Int32.ofNat (nR m + 1) := by rw [eM, ti_sI_eq]
  have m82 : sI M 57 82 = 0 := by rw [eM, ti_sI_ne (by omega), ti_sI_ne (by omega), ti_sI_ne (by omega), ti_sI_ne (by omega), ti_sI_eq]
  have m117 : sI M 117 (nR m) = Int32.ofNat i := by rw [eM, ti_sI_ne (by omega), ti_sI_ne (by omega), ti_sI_ne (by omega), ti_sI_eq]
  have m118 : sI M 118 (nR m) = sI m 57 0 := by rw [eM, ti_sI_ne (by omega), ti_sI_ne (by omega), ti_sI_eq]
  have m119 : sI M 119 (nR m) = 1 := by rw [eM, ti_sI_ne (by omega), ti_sI_eq]
  have oM : ∀ {p j : Nat}, ¬ (p = 57 ∧ (j = 82 ∨ j = 70)) → ¬ ((p = 117 ∨ p = 118 ∨ p = 119) ∧ j = nR m) → sI M p j = sI m p j := fun q1 q2 => by
    rw [eM, ti_sI_ne (by omega), ti_sI_ne (by omega), ti_sI_ne (by omega), ti_sI_ne (by omega), ti_sI_ne (by omega)]
  have nnn : nn (sI M 57 70) = nR m + 1 := by
    rw [m70]
    exact nn_o (by omega)
  have enn : nR M = nR m + 1 := nnn
  refine h2_ret ⟨AN_v m82, ⟨?_, ?_, ?_⟩, fun k k1 k2 => ?_, fun k hk => ?_⟩
  · rw [nnn]
    omega
  · rw [nnn]
    exact m70
  · rw [m70]
    exact p2
  · rw [enn] at k1
    rw [oM (by omega) (by omega), oM (by omega) (by omega)]
    exact u2 k (by omega) k2
  · rw [enn] at hk
    rw [enn]
    by_cases c : k = nR m
    · subst c
      obtain ⟨v1, v2⟩ := u2 (nR m) (Nat.le_refl _) (by omega)
      rw [eln]
      have gN : ∀ j, sI S8 (sN S) j = sI S6 (sN S) j := fun j => p1 (sN S) j (by omega) (by omega)
      have gR' : sR S8 (sN S) 0 = some (29 + 4 * i) := (p3 (sN S) 0 (by omega) (by omega) (by omega)).trans g6.2.2.2.2
      refine ⟨fun b hb e => ?_, ⟨i, i6, gR', m117⟩, ?_, ?_, ?_, ?_, ?_⟩
      · by_cases q : b = nR m
        · exact q
        · rw [elo b (by omega)] at e
          have := (old b (by omega)).1
          omega
      · rw [gN, g6.1, m118]
      · rw [gN, g6.2.1, m119]
      · rw [gN, g6.2.2.1, oM (by omega) (by omega), v1]
      · rw [oM (by omega) (by omega), v1]
        decide
      · rw [gN, g6.2.2.2.1, oM (by omega) (by omega), v2]
    · have hk : k < nR m := by omega
      obtain ⟨o1', o2, o3⟩ := old k hk
      obtain ⟨w1, w2, w3, w4, w5, w6, w7⟩ := u3 k hk
      have gI' : ∀ j, sI S8 (lel S 27 k) j = sI S (lel S 27 k) j := fun j => fI _ j o1' (by omega)
      rw [elo k hk]
      refine ⟨fun b hb e => ?_, ?_, ?_, ?_, ?_, ?_, ?_⟩
      · by_cases q : b = nR m
        · rw [q, eln] at e
          omega
        · rw [elo b (by omega)] at e
          exact w1 b (by omega) e
      · obtain ⟨x, x1, x2, x3⟩ := w2
        exact ⟨x, x1, (fR _ 0 o1' (by omega) (by omega)).trans x2, (oM (by omega) (by omega)).trans x3⟩
      · rw [gI', oM (by omega) (by omega)]
        exact w3
      · rw [gI', oM (by omega) (by omega)]
        exact w4
      · rw [gI', oM (by omega) (by omega)]
        exact w5
      · rw [oM (by omega) (by omega)]
        exact w6
      · rw [gI', oM (by omega) (by omega)]
        exact w7
theorem h_recover (hT : TV T S) (hm : TI Tm m) (h : FR S m) (a : Int32) : H2 (f_K_recover S (some 4) a) (f_M_recover m (some 57) a) (fun x y => AN [eX, eS] x.1 y.1 (sI y.2 57 82) ∧ cRec x.2 y.2) := by
  have b := FR_BB hT hm h
  have hmf := MF_of hm
  obtain ⟨u1, u2, u3⟩ := h.Rec
  have n20 : nR m ≤ 20 := u1.1
  have n70 : sI m 57 70 = Int32.ofNat (nR m) := u1.2.1
  -- the reference refuses
  have no : ∀ fu x2, (x2 = 0 ∨ x2 = 1) → Hp (f_M_recover_L36 (fu + 1) m (some 57) a x2 0 (Int32.ofNat (nR m))) (fun q => q = (0, wI m 57 82 (if x2 = 0 then 1 else 2))) := fun fu x2 h2 => by
    unfold f_M_recover_L36 f_M_recover_C36
    refine p_of (st_gIe n70) (p_of (st_T ((ole (by omega) (by omega)).mpr (Nat.le_refl _))) (p_of st_rv (p_b2 p_mayB (fun v m' q => ?_))))
    rcases h2 with rfl | rfl
    · cases q
      exact p_of (st_T rfl) (p_ret rfl)
    · cases q
      exact p_of (st_T rfl) (p_ret rfl)
  have any : ∀ x2 y0, (x2 = 0 ∨ x2 = 1) → y0 = 0 → Hp (f_M_recover_L36 kr_FU m (some 57) a x2 y0 0) (fun q => q = (0, wI m 57 82 (if x2 = 0 then 1 else 2))) := fun x2 y0 h2 h0 => by
    subst h0
    refine p_recM_L hmf n20 n70 (y0 := 0) (Or.inl rfl) (fun fu y hy he => ?_) (nR m) 0 kr_FU 0 (Nat.zero_add _) (Or.inl rfl) ⟨fun q => absurd q (by decide), fun q => absurd q.1 (by decide)⟩
    have y0 : y = 0 := hy.resolve_right (fun q => absurd (he.mp q).1 (by decide))
    rw [y0]
    exact no fu x2 h2
  have bad : H2 (some ((Sum.inr eS : Int32 ⊕ String), wX S)) (f_M_recover_L36 kr_FU m (some 57) a 1 0 0) (fun x y => AN [eX, eS] x.1 y.1 (sI y.2 57 82) ∧ cRec x.2 y.2) := m_hp (any 1 0 (Or.inr rfl) rfl) (fun q e => by
    rw [e, if_neg one0]
    exact h2_ret ⟨AN_e 1 rfl (ti_sI_eq _ _ _ _), (FR_X hT (TI_t hm 2) (FR_t hT hm h 2)).Rec⟩)
  have k37 : ∀ x, Le (f_K_recover_B37 S (some 4) x) (some ((Sum.inr eS : Int32 ⊕ String), wX S)) := fun x q hq => by
    unfold f_K_recover_B37 f_K_recover_B38 at hq
    exact st_bxe (rS0 S) q hq
  unfold f_K_recover f_M_recover f_M_recover_B31 f_M_recover_B32
  refine m_of (st_b2 (q_six m a)) (l_of st_rv (l_bx (fun v S' e => ?_) (fun v S' e => ?_)))
  · rcases x_fp b a _ e with ⟨i, i1, ea, e2⟩ | ⟨-, e2⟩
    · cases e2
      rw [if_pos ((six_iff _).mpr ⟨i, i1, ea⟩)]
      have ai : a.toNatClampNeg = i := by rw [ea]; exact oc (by omega)
      refine m_of (st_F one0) (m_of (st_gRe (hmf 7 64 rfl)) (m_of (st_aIe (v := sI m 64 i) ai rfl) (l_of (st_gIe (h.Awy i i1)) ?_)))
      by_cases c1 : sI m 64 i = 0
      · refine l_of (st_T c1) (m_of (st_T c1) (l_of st_rv ?_))
        unfold f_K_hasOpenRecovery
        refine l_p2 (p_hasR_L b h.Rec i1 (nR m) 0 kr_FU (Nat.zero_add _)) (fun w S2 p => ?_)
        obtain ⟨p1, p2, p3⟩ := p
        have p1 : S2 = S := p1
        have p2 : w = 0 ∨ w = 1 := p2
        have p3 : w = 1 ↔ _ := p3
        rw [p1]
        refine m_of (st_gIe n70) ?_
        by_cases c2 : (20 : Int32) ≤ Int32.ofNat (nR m)
        · refine m_of (st_T c2) ?_
          refine l_if (fun c3 => ?_) (fun c3 => l_of (k37 _) bad)
          refine l_of (st_gRe ((K4F_of hT.1).1 16 27 rfl)) (l_of st_rv (l_of st_size ?_))
          rw [u1.2.2, n70]
          exact l_of (st_T c2) (l_of (k37 _) bad)
        · have n19 : nR m < 20 := Nat.not_le.mp (fun q => c2 ((ole (a := 20) (by decide) (by omega)).mpr q))
          refine m_of (st_F c2) ?_
          by_cases c3 : w = 0
          · refine l_of (st_T c3) (l_of (st_gRe ((K4F_of hT.1).1 16 27 rfl)) (l_of st_rv (l_of st_size ?_)))
            rw [u1.2.2, n70]
            refine l_of (st_F c2) (fun x y hx hy => ?_)
            have none' : ∀ r, r < nR m → ¬ (sI m 119 r ≠ 0 ∧ sI m 117 r = a) := fun r hr q => by
              have := p3.mpr ⟨r, Nat.zero_le _, hr, q.1, q.2.trans ea⟩
              rw [c3] at this
              exact absurd this (by decide)
            refine p_recM_L hmf n20 n70 (y0 := 1) (P := fun q => AN [eX, eS] x.1 q.1 (sI q.2 57 82) ∧ cRec x.2 q.2) (Or.inr rfl) (fun fu y' hy' he => ?_) (nR m) 0 kr_FU 1 (Nat.zero_add _) (Or.inr rfl) ⟨fun _ => ⟨rfl, fun r hr => absurd hr (Nat.not_lt_zero _)⟩, fun _ => rfl⟩ y hy
            rw [he.mpr ⟨rfl, none'⟩, ea]
            exact fun q hq => recover_yes hT hm h i1 n19 x q hx hq
          · refine l_of (st_F c3) (l_of (k37 _) ?_)
            obtain ⟨r, -, r1, r2⟩ := p3.mp (p2.resolve_left c3)
            refine m_hp (P := fun q => q = (0, wI m 57 82 2)) ?_ (fun q e => by
              rw [e]
              exact h2_ret ⟨AN_e 1 rfl (ti_sI_eq _ _ _ _), (FR_X hT (TI_t hm 2) (FR_t hT hm h 2)).Rec⟩)
            refine p_recM_L hmf n20 n70 (y0 := 1) (Or.inr rfl) (fun fu y' hy' he => ?_) (nR m) 0 kr_FU 1 (Nat.zero_add _) (Or.inr rfl) ⟨fun _ => ⟨rfl, fun r hr => absurd hr (Nat.not_lt_zero _)⟩, fun _ => rfl⟩
            have y0 : y' = 0 := hy'.resolve_right (fun q => (he.mp q).2 r r1 ⟨r2.1, r2.2.trans ea.symm⟩)
            rw [y0]
            exact no fu 1 (Or.inr rfl)
      · exact l_of (st_F c1) (m_of (st_F c1) (l_of (k37 _) bad))
    · cases e2
  · rcases x_fp b a _ e with ⟨i, i1, rfl, e2⟩ | ⟨no', e2⟩
    · cases e2
    · cases e2
      rw [if_neg (fun q => no' ((six_iff _).mp q))]
      refine m_of (st_T rfl) (m_hp (any 0 0 (Or.inl rfl) rfl) (fun q e => ?_))
      rw [e, if_pos rfl]
      exact h2_ret ⟨AN_e 0 rfl (ti_sI_eq _ _ _ _), (FR_X hT (TI_t hm 1) (FR_t hT hm h 1)).Rec⟩
end
end
section
/-! ===== the endings' bundle on other states ===== -/
theorem ST_cong {T : Nat → Nat} {S m S' m' : AS} {n nf nt : Nat} (h : ST T S m n nf nt) (r1 : sR S' = sR S) (r2 : sL S' = sL S) (r3 : ∀ k j, (T k = 22 ∨ T k = 24 ∨ T k = 43 ∨ T k = 44 ∨ T k = 17) → ¬ (T k = 43 ∧ 5 ≤ j) → ¬ (T k = 44 ∧ (j = 6 ∨ j = 11)) → sI S' k j = sI S k j)
    (q1 : sR m' = sR m) (q2 : sL m' = sL m) (q3 : ∀ p j, (p = 85 ∨ p = 88 ∨ p = 99 ∨ p = 93 ∨ p = 108 ∨ p = 105 ∨ p = 113 ∨ (p = 57 ∧ (j = 30 ∨ j = 46 ∨ j = 52))) → sI m' p j = sI m p j) : ST T S' m' n nf nt := by
  obtain ⟨⟨a1, a2, a3, a4, a5, a6⟩, b, c, ⟨d1, d2, d3, d4, d5, d6, d7, d8, d9⟩, e, f, g⟩ := h
  have el : ∀ l i, lel S' l i = lel S l i := fun l i => by
    unfold lel
    rw [r1]
  refine ⟨⟨a1, ?_, ?_, a4, fun s hs => ?_, fun s hs => ?_⟩, fun i hi => ?_, ?_, ⟨d1, d2, d3, ?_, ?_, ?_, ?_, ?_, ?_⟩, fun s hs => ?_, fun s hs => ?_, fun v hv => ?_⟩
  · unfold K4F
    rw [r1]
    exact a2
  · rw [r2]
    exact a3
  · rw [el, r1]
    exact a5 s hs
  · rw [el, r1]
    exact a6 s hs
  · rw [r1]
    exact b i hi
  · exact MF_e c q1
  · rw [r3 19 2 (by omega) (by omega) (by omega)]
    exact d4
  · rw [q3 57 30 (by omega)]
    exact d5
  · rw [r3 23 2 (by omega) (by omega) (by omega)]
    exact d6
  · rw [q3 57 46 (by omega)]
    exact d7
  · rw [q3 57 52 (by omega)]
    exact d8
  · rw [q2]
    exact d9
  · obtain ⟨h1, ⟨p, p1, p2, p3⟩, h3⟩ := e s hs
    have t := (a5 s hs).1
    rw [el, r3 _ 0 (by omega) (by omega) (by omega)]
    refine ⟨h1, ⟨p, p1, by rw [r1]; exact p2, by rw [q3 85 s (by omega)]; exact p3⟩, fun o ho => ?_⟩
    rw [el, r1, q3 88 s (by omega)]
    exact h3 o ho
  · obtain ⟨h1, ⟨c, s', p1, p2, p3, p4, p5⟩, h3⟩ := f s hs
    have t := (a6 s hs).1
    rw [el, r3 _ 5 (by omega) (by omega) (by omega), r3 _ 10 (by omega) (by omega) (by omega)]
    refine ⟨h1, ⟨c, s', p1, p2, by rw [q3 99 s (by omega)]; exact p3, by rw [q3 93 c (by omega)]; exact p4, by rw [r1, el]; exact p5⟩, fun v hv => ?_⟩
    rw [h3 v hv]
    constructor
    · rintro ⟨t, t1, t2, t3⟩
      exact ⟨t, t1, (q3 108 t (by omega)).trans t2, (q3 105 t (by omega)).trans t3⟩
    · rintro ⟨t, t1, t2, t3⟩
      exact ⟨t, t1, (q3 108 t (by omega)).symm.trans t2, (q3 105 t (by omega)).symm.trans t3⟩
  · rw [r3 (53 + v) 1 (by have := a4 v hv; omega) (by have := a4 v hv; omega) (by have := a4 v hv; omega), q3 113 v (by omega)]
    exact g v hv
/-- the bundle's own start at such states -/
theorem EE_mk {T : Nat → Nat} {S m S' m' : AS} {d : Nat} (h : FR S m) (r1 : sR S' = sR S) (r2 : ∀ s, s < nS m → sI S' (lel S 19 s) 6 = sI S (lel S 19 s) 6) (r3 : sI S' 4 9 = sI S 4 9) (r4 : ∀ f, f < nF m → sI S' (lel S 23 f) 6 = sI S (lel S 23 f) 6 ∧ sI S' (lel S 23 f) 11 = sI S (lel S 23 f) 11)
    (q : ∀ p j, (p = 89 ∨ p = 103 ∨ p = 116) → sI m' p j = sI m p j) (ha : AU d (sI m 89) (nS m) S' m') : EE d T S' m' (nS m) (nF m) S' m' := by
  have el : ∀ l i, lel S' l i = lel S l i := fun l i => by
    unfold lel
    rw [r1]
  have e89 : sI m' 89 = sI m 89 := funext fun j => q 89 j (by omega)
  refine ⟨KE_rf T S', ME_rf m', fun s hs => ?_, ?_, fun f hf => ?_, ?_, fun x x1 x2 v hv => ?_⟩
  · rw [el, r2 s hs, e89]
    exact h.Liv.1 s hs
  · rw [r3, e89]
    exact h.Liv.2
  · obtain ⟨a1, a2⟩ := r4 f hf
    obtain ⟨b1, b2, b3⟩ := h.God.2 f hf
    rw [el, a1, a2, q 103 f (by omega)]
    exact ⟨b1, fun v hv => by rw [q 116 _ (by omega)]; exact b2 v hv, fun z v hv => by rw [q 116 _ (by omega)]; exact b3 z v hv⟩
  · rw [e89]
    exact ha
  · rw [q 116 _ (by omega)]
    exact h.God.1 x x1 x2 v hv
/-! ===== leave ===== -/
section
variable {T Tm : Nat → Nat} {S m : AS}
/-- attempts of a person are denied -/
theorem p_deny_L (b : BB T Tm S m) (h : cAtt S m) {i : Nat} (i6 : i < 6) {B : AS} (eB : sI B 18 2 = sI S 18 2) : ∀ (k j fu : Nat) (S1 : AS), j + k = uA m → sR S1 = sR S → sL S1 = sL S → (∀ p c, ¬ (c = 5 ∧ T p = 42) → sI S1 p c = sI B p c) → (∀ a, a < uA m → sI S1 (lel S 18 a) 5 = if a < j ∧ sI m 75 a = Int32.ofNat i ∧ sI B (lel S 18 a) 5 = 0 then 2 else sI B (lel S 18 a) 5) →
    Hp (f_K_denyAttemptsOf_L2 fu S1 (some 4) (some (29 + 4 * i)) (Int32.ofNat j)) (fun S2 => sR S2 = sR S ∧ sL S2 = sL S ∧ (∀ p c, ¬ (c = 5 ∧ T p = 42) → sI S2 p c = sI B p c) ∧ (∀ a, a < uA m → sI S2 (lel S 18 a) 5 = if sI m 75 a = Int32.ofNat i ∧ sI B (lel S 18 a) 5 = 0 then 2 else sI B (lel S 18 a) 5))
  | _, _, 0, _, _, _, _, _, _ => p_0
  | 0, j, fu + 1, S1, hk, r1, r2, r3, r4 => by
    unfold f_K_denyAttemptsOf_L2 f_K_denyAttemptsOf_C2
    have r : sR S1 4 7 = some 18 := by rw [r1]; exact (K4F_of b.1.1).1 7 18 rfl
    have z := zA b
    have n60 : uA m ≤ 60 := z.1
    have t18 := (b.1.1.t6 1 (by decide)).1
    have e : sI S1 18 2 = Int32.ofNat (uA m) := (r3 18 2 (by omega)).trans (eB.trans (z.2.2.trans z.2.1))
    refine p_of (st_gRe r) (p_of st_rv (p_of st_size ?_))
    rw [e]
    refine p_of (st_T ((ole (by omega) (by omega)).mpr (by omega))) (p_ret ⟨r1, r2, r3, fun a ha => ?_⟩)
    rw [r4 a ha]
    by_cases c : sI m 75 a = Int32.ofNat i ∧ sI B (lel S 18 a) 5 = 0
    · rw [if_pos ⟨by omega, c⟩, if_pos c]
    · rw [if_neg (fun q => c q.2), if_neg c]
  | k + 1, j, fu + 1, S1, hk, r1, r2, r3, r4 => by
    unfold f_K_denyAttemptsOf_L2 f_K_denyAttemptsOf_C2 f_K_denyAttemptsOf_B45
    have r : sR S1 4 7 = some 18 := by rw [r1]; exact (K4F_of b.1.1).1 7 18 rfl
    have z := zA b
    have n60 : uA m ≤ 60 := z.1
    have t18 := (b.1.1.t6 1 (by decide)).1
    have e : sI S1 18 2 = Int32.ofNat (uA m) := (r3 18 2 (by omega)).trans (eB.trans (z.2.2.trans z.2.1))
    have ja : j < uA m := by omega
    obtain ⟨inj, ⟨x, x6, g1, g2⟩, -⟩ := h.2 j ja
    refine p_of (st_gRe r) (p_of st_rv (p_of st_size ?_))
    rw [e]
    refine p_of (st_F (fun q => by have := (ole (by omega) (by omega)).mp q; omega)) (p_of (st_gRe r) (p_of st_rv (p_of (st_get (oc (by omega)) (by rw [r1]; exact atA b ja)) (p_of st_cc (p_of (st_gRe (v := some (29 + 4 * x)) (by rw [r1]; exact g1)) (p_of st_ac (p_of st_ac ?_)))))))
    have e5 : sI S1 (lel S 18 j) 5 = sI B (lel S 18 j) 5 := by
      rw [r4 j ja, if_neg (fun q => absurd q.1 (by omega))]
    have same : ¬ (sI m 75 j = Int32.ofNat i ∧ sI B (lel S 18 j) 5 = 0) → Hp ((some (Int32.ofNat j + (1 : Int32))).bind fun i1 => f_K_denyAttemptsOf_L2 fu S1 (some 4) (some (29 + 4 * i)) i1) (fun S2 => sR S2 = sR S ∧ sL S2 = sL S ∧ (∀ p c, ¬ (c = 5 ∧ T p = 42) → sI S2 p c = sI B p c) ∧ (∀ a, a < uA m → sI S2 (lel S 18 a) 5 = if sI m 75 a = Int32.ofNat i ∧ sI B (lel S 18 a) 5 = 0 then 2 else sI B (lel S 18 a) 5)) := fun no => by
      refine p_of st_val ?_
      rw [o1]
      refine p_deny_L b h i6 eB k (j + 1) fu S1 (by omega) r1 r2 r3 (fun a ha => ?_)
      rw [r4 a ha]
      by_cases c : a = j
      · subst c
        rw [if_neg (fun q => absurd q.1 (by omega)), if_neg (fun q => no q.2)]
      · by_cases c2 : a < j ∧ sI m 75 a = Int32.ofNat i ∧ sI B (lel S 18 a) 5 = 0
        · rw [if_pos c2, if_pos ⟨by omega, c2.2⟩]
        · rw [if_neg c2, if_neg (fun q => c2 ⟨by omega, q.2⟩)]
    refine p_if (fun c => ?_) (fun c => same (fun q => c ?_))
    · have ex := per_eq.mp c
      subst ex
      refine p_of (st_gIe e5) (p_if (fun c2 => ?_) (fun c2 => same (fun q => c2 q.2)))
      refine p_of st_pI (p_of st_val ?_)
      rw [o1]
      refine p_deny_L b h i6 eB k (j + 1) fu _ (by omega) r1 r2 (fun p q z => ?_) (fun a ha => ?_)
      · rw [ti_sI_ne (fun w => z ⟨w.2, by rw [w.1]; exact tyA b ja⟩)]
        exact r3 p q z
      · by_cases d : a = j
        · subst d
          rw [ti_sI_eq, if_pos ⟨by omega, g2, c2⟩]
        · rw [ti_sI_ne (fun w => d ((h.2 j ja).1 a ha w.1)), r4 a ha]
          by_cases c3 : a < j ∧ sI m 75 a = Int32.ofNat x ∧ sI B (lel S 18 a) 5 = 0
          · rw [if_pos c3, if_pos ⟨by omega, c3.2⟩]
          · rw [if_neg c3, if_neg (fun q => c3 ⟨by omega, q.2⟩)]
    · rw [oinj (by omega) (by omega) (g2.symm.trans q.1)]
/-- recoveries of a person are stopped -/
theorem p_stopR_L (b : BB T Tm S m) (h : cRec S m) {i : Nat} (i6 : i < 6) {B : AS} (eB : sI B 27 2 = sI S 27 2) : ∀ (k j fu : Nat) (S1 : AS), j + k = nR m → sR S1 = sR S → sL S1 = sL S → (∀ p c, ¬ (c = 2 ∧ T p = 46) → sI S1 p c = sI B p c) → (∀ a, a < nR m → sI S1 (lel S 27 a) 2 = if a < j ∧ sI m 117 a = Int32.ofNat i then 0 else sI B (lel S 27 a) 2) →
    Hp (f_K_stopRecoveriesOf_L2 fu S1 (some 4) (some (29 + 4 * i)) (Int32.ofNat j)) (fun S2 => sR S2 = sR S ∧ sL S2 = sL S ∧ (∀ p c, ¬ (c = 2 ∧ T p = 46) → sI S2 p c = sI B p c) ∧ (∀ a, a < nR m → sI S2 (lel S 27 a) 2 = if sI m 117 a = Int32.ofNat i then 0 else sI B (lel S 27 a) 2))
  | _, _, 0, _, _, _, _, _, _ => p_0
  | 0, j, fu + 1, S1, hk, r1, r2, r3, r4 => by
    unfold f_K_stopRecoveriesOf_L2 f_K_stopRecoveriesOf_C2
    have r : sR S1 4 16 = some 27 := by rw [r1]; exact (K4F_of b.1.1).1 16 27 rfl
    have z := zR b
    have n60 : nR m ≤ 20 := z.1
    have t18 := (b.1.1.t6 6 (by decide)).1
    have e : sI S1 27 2 = Int32.ofNat (nR m) := (r3 27 2 (by rw [show T 27 = 26 from t18]; omega)).trans (eB.trans (z.2.2.trans z.2.1))
    refine p_of (st_gRe r) (p_of st_rv (p_of st_size ?_))
    rw [e]
    refine p_of (st_T ((ole (by omega) (by omega)).mpr (by omega))) (p_ret ⟨r1, r2, r3, fun a ha => ?_⟩)
    rw [r4 a ha]
    by_cases c : sI m 117 a = Int32.ofNat i
    · rw [if_pos ⟨by omega, c⟩, if_pos c]
    · rw [if_neg (fun q => c q.2), if_neg c]
  | k + 1, j, fu + 1, S1, hk, r1, r2, r3, r4 => by
    unfold f_K_stopRecoveriesOf_L2 f_K_stopRecoveriesOf_C2 f_K_stopRecoveriesOf_B38
    have r : sR S1 4 16 = some 27 := by rw [r1]; exact (K4F_of b.1.1).1 16 27 rfl
    have z := zR b
    have n60 : nR m ≤ 20 := z.1
    have t18 := (b.1.1.t6 6 (by decide)).1
    have e : sI S1 27 2 = Int32.ofNat (nR m) := (r3 27 2 (by rw [show T 27 = 26 from t18]; omega)).trans (eB.trans (z.2.2.trans z.2.1))
    have ja : j < nR m := by omega
    obtain ⟨inj, ⟨x, x6, g1, g2⟩, -⟩ := h.2.2 j ja
    refine p_of (st_gRe r) (p_of st_rv (p_of st_size ?_))
    rw [e]
    refine p_of (st_F (fun q => by have := (ole (by omega) (by omega)).mp q; omega)) (p_of (st_gRe r) (p_of st_rv (p_of (st_get (oc (by omega)) (by rw [r1]; exact atR b ja)) (p_of st_cc (p_of (st_gRe (v := some (29 + 4 * x)) (by rw [r1]; exact g1)) (p_of st_ac (p_of st_ac ?_)))))))
    refine p_if (fun c => ?_) (fun c => ?_)
    · have ex := per_eq.mp c
      subst ex
      refine p_of st_pZ (p_of st_val ?_)
      rw [o1]
      refine p_stopR_L b h i6 eB k (j + 1) fu _ (by omega) r1 r2 (fun p q z => ?_) (fun a ha => ?_)
      · rw [ti_sI_ne (fun w => z ⟨w.2, by rw [w.1]; exact tyR b ja⟩)]
        exact r3 p q z
      · by_cases d : a = j
        · subst d
          rw [ti_sI_eq, if_pos ⟨by omega, g2⟩]
        · rw [ti_sI_ne (fun w => d ((h.2.2 j ja).1 a ha w.1)), r4 a ha]
          by_cases c3 : a < j ∧ sI m 117 a = Int32.ofNat x
          · rw [if_pos c3, if_pos ⟨by omega, c3.2⟩]
          · rw [if_neg c3, if_neg (fun q => c3 ⟨by omega, q.2⟩)]
    · refine p_of st_val ?_
      rw [o1]
      refine p_stopR_L b h i6 eB k (j + 1) fu S1 (by omega) r1 r2 r3 (fun a ha => ?_)
      rw [r4 a ha]
      by_cases d : a = j
      · subst d
        rw [if_neg (fun q => absurd q.1 (by omega)), if_neg (fun q => c (by rw [oinj (by omega) (by omega) (g2.symm.trans q.2)]))]
      · by_cases c2 : a < j ∧ sI m 117 a = Int32.ofNat i
        · rw [if_pos c2, if_pos ⟨by omega, c2.2⟩]
        · rw [if_neg c2, if_neg (fun q => c2 ⟨by omega, q.2⟩)]
end
/-- the reference's two loops -/
theorem p_lvR_L {m : AS} {i : Int32} {x : Int32} {n : Nat} (hmf : MF m) (hn : sI m 57 70 = Int32.ofNat n) (n20 : n ≤ 20) : ∀ (k j fu : Nat) (M : AS), j + k = n → sR M = sR m → sL M = sL m → (∀ p c, p ≠ 119 → sI M p c = sI m p c) → (∀ r, sI M 119 r = if r < j then (if sI m 119 r = 0 ∨ sI m 117 r = i then 0 else 1) else sI m 119 r) →
    Hp (f_M_leave_L103 fu M (some 57) i x (Int32.ofNat j)) (fun q => q.1 = x ∧ sR q.2 = sR m ∧ sL q.2 = sL m ∧ (∀ p c, p ≠ 119 → sI q.2 p c = sI m p c) ∧ (∀ r, sI q.2 119 r = if r < n then (if sI m 119 r = 0 ∨ sI m 117 r = i then 0 else 1) else sI m 119 r))
  | _, _, 0, _, _, _, _, _, _ => p_0
  | 0, j, fu + 1, M, hk, r1, r2, r3, r4 => by
    unfold f_M_leave_L103 f_M_leave_C103
    have e : j = n := by omega
    subst e
    exact p_of (st_gIe ((r3 57 70 (by omega)).trans hn)) (p_of (st_T ((ole (by omega) (by omega)).mpr (Nat.le_refl _))) (p_ret ⟨rfl, r1, r2, r3, r4⟩))
  | k + 1, j, fu + 1, M, hk, r1, r2, r3, r4 => by
    unfold f_M_leave_L103 f_M_leave_C103
    have hm := MF_e hmf r1
    have old : sI M 119 j = sI m 119 j := by rw [r4 j, if_neg (by omega)]
    have go : ∀ w : Int32, (w = if sI m 119 j = 0 ∨ sI m 117 j = i then 0 else 1) → Hp (f_M_leave_B140 (f_M_leave_L103 fu) M (some 57) i x (Int32.ofNat j) (some 119) (Int32.ofNat j) w) (fun q => q.1 = x ∧ sR q.2 = sR m ∧ sL q.2 = sL m ∧ (∀ p c, p ≠ 119 → sI q.2 p c = sI m p c) ∧ (∀ r, sI q.2 119 r = if r < n then (if sI m 119 r = 0 ∨ sI m 117 r = i then 0 else 1) else sI m 119 r)) := fun w hw => by
      unfold f_M_leave_B140
      refine p_of (st_bZe (oc (by omega))) (p_of st_val ?_)
      rw [o1]
      refine p_lvR_L hmf hn n20 k (j + 1) fu _ (by omega) r1 r2 (fun p c q => ?_) (fun r => ?_)
      · rw [ti_sI_ne (fun z => q z.1)]
        exact r3 p c q
      · by_cases c : r = j
        · subst c
          rw [ti_sI_eq, if_pos (by omega)]
          exact hw
        · rw [ti_sI_ne (fun z => c z.2), r4 r]
          by_cases c2 : r < j
          · rw [if_pos c2, if_pos (show r < j + 1 by omega)]
          · rw [if_neg c2, if_neg (show ¬ r < j + 1 by omega)]
    refine p_of (st_gIe ((r3 57 70 (by omega)).trans hn)) (p_of (st_F (fun q => by have := (ole (by omega) (by omega)).mp q; omega)) (p_of (st_gRe (hm 73 119 rfl)) (p_of (st_gRe (hm 73 119 rfl)) (p_of (st_aIe (v := sI m 119 j) (oc (by omega)) old) (p_if (fun c => ?_) (fun c => ?_))))))
    · unfold f_M_leave_B139
      exact go 0 (if_pos (Or.inl c)).symm
    · refine p_of (st_gRe (hm 71 117 rfl)) (p_of (st_aIe (v := sI m 117 j) (oc (by omega)) (r3 117 j (by omega))) (p_if (fun c2 => ?_) (fun c2 => ?_)))
      · unfold f_M_leave_B139
        exact go 0 (if_pos (Or.inr c2)).symm
      · exact go 1 (if_neg (fun q => q.elim c c2)).symm
theorem p_lvA_L {m : AS} {i : Int32} {x : Int32} {n nr : Nat} (hmf : MF m) (hn : sI m 57 19 = Int32.ofNat n) (n60 : n ≤ 60) (hr : sI m 57 70 = Int32.ofNat nr) (n20 : nr ≤ 20) : ∀ (k j fu : Nat) (M : AS), j + k = n → sR M = sR m → sL M = sL m → (∀ p c, p ≠ 80 → sI M p c = sI m p c) → (∀ a, sI M 80 a = if a < j ∧ sI m 75 a = i ∧ sI m 80 a = 0 then 2 else sI m 80 a) →
    Hp (f_M_leave_L52 fu M (some 57) i x (Int32.ofNat j)) (fun q => q.1 = x ∧ sR q.2 = sR m ∧ sL q.2 = sL m ∧ (∀ p c, p ≠ 80 → p ≠ 119 → sI q.2 p c = sI m p c) ∧ (∀ a, sI q.2 80 a = if a < n ∧ sI m 75 a = i ∧ sI m 80 a = 0 then 2 else sI m 80 a) ∧ (∀ r, sI q.2 119 r = if r < nr then (if sI m 119 r = 0 ∨ sI m 117 r = i then 0 else 1) else sI m 119 r))
  | _, _, 0, _, _, _, _, _, _ => p_0
  | 0, j, fu + 1, M, hk, r1, r2, r3, r4 => by
    unfold f_M_leave_L52 f_M_leave_C52
    have e : j = n := by omega
    subst e
    refine p_of (st_gIe ((r3 57 19 (by omega)).trans hn)) (p_of (st_T ((ole (by omega) (by omega)).mpr (Nat.le_refl _))) ?_)
    refine p_mono (p_lvR_L (m := M) (n := nr) (MF_e hmf r1) ((r3 57 70 (by omega)).trans hr) n20 nr 0 kr_FU M (Nat.zero_add _) rfl rfl (fun _ _ _ => rfl) (fun r => by rw [if_neg (Nat.not_lt_zero _)])) (fun q p => ?_)
    obtain ⟨p1, p2, p3, p4, p5⟩ := p
    refine ⟨p1, p2.trans r1, p3.trans r2, fun p c z1 z2 => (p4 p c z2).trans (r3 p c z1), fun a => (p4 80 a (by omega)).trans (r4 a), fun r => ?_⟩
    rw [p5 r, r3 119 r (by omega), r3 117 r (by omega)]
  | k + 1, j, fu + 1, M, hk, r1, r2, r3, r4 => by
    unfold f_M_leave_L52 f_M_leave_C52
    have hm := MF_e hmf r1
    have old : sI M 80 j = sI m 80 j := by rw [r4 j, if_neg (fun q => absurd q.1 (by omega))]
    have go : ∀ w : Int32, (w = if sI m 75 j = i ∧ sI m 80 j = 0 then 2 else sI m 80 j) → Hp (f_M_leave_B94 (f_M_leave_L52 fu) M (some 57) i x (Int32.ofNat j) (some 80) (Int32.ofNat j) w) (fun q => q.1 = x ∧ sR q.2 = sR m ∧ sL q.2 = sL m ∧ (∀ p c, p ≠ 80 → p ≠ 119 → sI q.2 p c = sI m p c) ∧ (∀ a, sI q.2 80 a = if a < n ∧ sI m 75 a = i ∧ sI m 80 a = 0 then 2 else sI m 80 a) ∧ (∀ r, sI q.2 119 r = if r < nr then (if sI m 119 r = 0 ∨ sI m 117 r = i then 0 else 1) else sI m 119 r)) := fun w hw => by
      unfold f_M_leave_B94
      refine p_of (st_bIe (oc (by omega))) (p_of st_val ?_)
      rw [o1]
      refine p_lvA_L hmf hn n60 hr n20 k (j + 1) fu _ (by omega) r1 r2 (fun p c q => ?_) (fun a => ?_)
      · rw [ti_sI_ne (fun z => q z.1)]
        exact r3 p c q
      · by_cases c : a = j
        · subst c
          rw [ti_sI_eq, hw]
          by_cases c2 : sI m 75 a = i ∧ sI m 80 a = 0
          · rw [if_pos c2, if_pos ⟨by omega, c2⟩]
          · rw [if_neg c2, if_neg (fun q => c2 q.2)]
        · rw [ti_sI_ne (fun z => c z.2), r4 a]
          by_cases c2 : a < j ∧ sI m 75 a = i ∧ sI m 80 a = 0
          · rw [if_pos c2, if_pos ⟨by omega, c2.2⟩]
          · rw [if_neg c2, if_neg (fun q => c2 ⟨by omega, q.2⟩)]
    have stay : ¬ (sI m 75 j = i ∧ sI m 80 j = 0) → Hp (f_M_leave_B88 (f_M_leave_L52 fu) M (some 57) i x (Int32.ofNat j) (some 80) (Int32.ofNat j)) (fun q => q.1 = x ∧ sR q.2 = sR m ∧ sL q.2 = sL m ∧ (∀ p c, p ≠ 80 → p ≠ 119 → sI q.2 p c = sI m p c) ∧ (∀ a, sI q.2 80 a = if a < n ∧ sI m 75 a = i ∧ sI m 80 a = 0 then 2 else sI m 80 a) ∧ (∀ r, sI q.2 119 r = if r < nr then (if sI m 119 r = 0 ∨ sI m 117 r = i then 0 else 1) else sI m 119 r)) := fun no => by
      unfold f_M_leave_B88
      exact p_of (st_gRe (hm 25 80 rfl)) (p_of (st_aIe (v := sI m 80 j) (oc (by omega)) old) (go _ (if_neg no).symm))
    refine p_of (st_gIe ((r3 57 19 (by omega)).trans hn)) (p_of (st_F (fun q => by have := (ole (by omega) (by omega)).mp q; omega)) (p_of (st_gRe (hm 25 80 rfl)) (p_of (st_gRe (hm 20 75 rfl)) (p_of (st_aIe (v := sI m 75 j) (oc (by omega)) (r3 75 j (by omega))) (p_if (fun c => ?_) (fun c => stay (fun q => c q.1)))))))
    exact p_of (st_gRe (hm 25 80 rfl)) (p_of (st_aIe (v := sI m 80 j) (oc (by omega)) old) (p_if (fun c2 => go 2 (if_pos ⟨c, c2⟩).symm) (fun c2 => stay (fun q => c2 q.2))))
end
section
section
variable {T Tm : Nat → Nat} {S m : AS}
theorem P_end_cong {S m M : AS} (h : P_end S m) (e : ∀ p j, (p = 57 ∨ p = 89 ∨ p = 103 ∨ p = 116 ∨ p = 123 ∨ p = 124) → sI M p j = sI m p j) : P_end S M := by
  obtain ⟨h1, ⟨h2, h3⟩, h4⟩ := h
  have e1 : nS M = nS m := by
    unfold nS
    rw [e 57 30 (by omega)]
  have e2 : nF M = nF m := by
    unfold nF
    rw [e 57 46 (by omega)]
  have e89 : sI M 89 = sI m 89 := funext fun j => e 89 j (by omega)
  refine ⟨⟨fun s hs => ?_, ?_⟩, ⟨fun x x1 x2 v hv => ?_, fun f hf => ?_⟩, ?_⟩
  · rw [e1] at hs
    rw [e89]
    exact h1.1 s hs
  · rw [e89, e1]
    exact h1.2
  · rw [e2] at x1
    rw [e 116 _ (by omega)]
    exact h2 x x1 x2 v hv
  · rw [e2] at hf
    obtain ⟨g1, g2, g3⟩ := h3 f hf
    rw [e 103 f (by omega)]
    exact ⟨g1, fun v hv => by rw [e 116 _ (by omega)]; exact g2 v hv, fun z v hv => by rw [e 116 _ (by omega)]; exact g3 z v hv⟩
  · unfold cAU
    rw [e89, e1]
    exact AU_cong h4 rfl rfl (e 57 77 (by omega)) (funext fun j => e 123 j (by omega)) (funext fun j => e 124 j (by omega)) rfl
def P_leave (S m : AS) : Prop := cAwy S m ∧ cAst S m ∧ cRec S m ∧ P_end S m
theorem FR_leave (h : FR S m) : P_leave S m := ⟨h.Awy, h.Ast, h.Rec, FR_end h⟩
theorem leave_go (hT : TV T S) (hm : TI Tm m) (h : FR S m) {i : Nat} (i6 : i < 6) : H2 (f_K_leave_B19 S (some 4) (some (29 + 4 * i)) (some (29 + 4 * i)) 1) (f_M_leave_B32 (wI m 57 82 0) (some 57) (Int32.ofNat i) (some 64) (Int32.ofNat i) 1) (fun x y => AN [eX] x.1 y.1 (sI y.2 57 82) ∧ P_leave x.2 y.2) := by
  have b := FR_BB hT hm h
  have hmf0 := MF_of (TI_t hm 0)
  obtain ⟨tP, -, -, -⟩ := kt_P hT.1 h.PF i6
  obtain ⟨t4, t5, t6, -, -, -, -, -, -, -, -, -⟩ := kt4 hT.1
  unfold f_K_leave_B19 f_M_leave_B32
  refine l_of st_pZ (l_of (st_gIe (v := 1) (ti_sI_eq _ _ _ _)) (l_of (st_F one0) (l_of st_rv ?_)))
  refine m_of (st_bZe (oc (by omega))) (m_of (st_gRe (v := some 64) (hmf0 7 64 rfl)) (m_of (st_aIe (v := 1) (oc (by omega)) (ti_sI_eq _ _ _ _)) (m_of (st_F one0) (m_of st_rv ?_))))
  obtain ⟨S1, eS⟩ : ∃ S1, S1 = wI S (29 + 4 * i) 11 1 := ⟨_, rfl⟩
  obtain ⟨m1, em⟩ : ∃ m1, m1 = wI (wI m 57 82 0) 64 i 1 := ⟨_, rfl⟩
  rw [← eS, ← em]
  have oS : ∀ {p j : Nat}, ¬ (p = 29 + 4 * i ∧ j = 11) → sI S1 p j = sI S p j := fun q => by
    rw [eS]
    exact ti_sI_ne q
  have sS : sI S1 (29 + 4 * i) 11 = 1 := by rw [eS, ti_sI_eq]
  have rS : sR S1 = sR S := by rw [eS, sR_wI]
  have lS : sL S1 = sL S := by rw [eS]; rfl
  have om : ∀ {p j : Nat}, ¬ (p = 57 ∧ j = 82) → ¬ (p = 64 ∧ j = i) → sI m1 p j = sI m p j := fun q1 q2 => by
    rw [em]
    exact (ti_sI_ne q2).trans (ti_sI_ne q1)
  have m82 : sI m1 57 82 = 0 := by rw [em, ti_sI_ne (by omega), ti_sI_eq]
  have m64 : sI m1 64 i = 1 := by rw [em, ti_sI_eq]
  have rm : sR m1 = sR m := by rw [em, sR_wI, sR_wI]
  have lm : sL m1 = sL m := by rw [em]; rfl
  unfold f_K_denyAttemptsOf f_K_stopRecoveriesOf
  refine l_pd (p_deny_L b h.Att i6 (B := S1) (oS (by omega)) (uA m) 0 kr_FU S1 (Nat.zero_add _) rS lS (fun _ _ _ => rfl) (fun a ha => by rw [if_neg (fun q => absurd q.1 (Nat.not_lt_zero _))])) (fun S4 p => ?_)
  obtain ⟨a1, a2, a3, a4⟩ := p
  have t27 : T 27 = 26 := (hT.1.t6 6 (by decide)).1
  have t18 : T 18 = 21 := (hT.1.t6 1 (by decide)).1
  refine l_of st_rv (l_pd (p_stopR_L b h.Rec i6 (B := S4) ((a3 27 2 (by omega)).trans (oS (by omega))) (nR m) 0 kr_FU S4 (Nat.zero_add _) a1 a2 (fun _ _ _ => rfl) (fun a ha => by rw [if_neg (fun q => absurd q.1 (Nat.not_lt_zero _))])) (fun S6 p => ?_))
  obtain ⟨b1, b2, b3, b4⟩ := p
  have o6 : ∀ {p j : Nat}, ¬ (p = 29 + 4 * i ∧ j = 11) → ¬ (j = 5 ∧ T p = 42) → ¬ (j = 2 ∧ T p = 46) → sI S6 p j = sI S p j := fun q1 q2 q3 => (b3 _ _ q3).trans ((a3 _ _ q2).trans (oS q1))
  have st : ST T S6 m1 (nS m) (nF m) (nT m) := ST_cong (ST_of hT hm h) b1 b2 (fun k j q1 q2 q3 => o6 (fun z => by rw [z.1, tP] at q1; omega) (by omega) (by omega)) rm lm (fun p j q => om (by omega) (by omega))
  have tF : ∀ f, f < nF m → T (lel S 23 f) = 44 := fun f hf => tyF b hf
  have tS : ∀ s, s < nS m → T (lel S 19 s) = 43 := fun s hs => tyS b hs
  have nP : ∀ k τ, T k = τ → τ ≠ 13 → k ≠ 29 + 4 * i := fun k τ hk ht q => by
    rw [q, tP] at hk
    exact ht hk.symm
  have he : EE 0 T S6 m1 (nS m) (nF m) S6 m1 := EE_mk h b1 (fun s hs => o6 (fun z => nP _ _ (tS s hs) (by decide) z.1) (by omega) (by omega)) (o6 (by omega) (by omega) (by omega)) (fun f hf => ⟨o6 (fun z => nP _ _ (tF f hf) (by decide) z.1) (by omega) (by omega), o6 (fun z => nP _ _ (tF f hf) (by decide) z.1) (by omega) (by omega)⟩) (fun p j q => om (by omega) (by omega))
    (AU_cong h.AU (o6 (by omega) (by omega) (by omega)) (funext fun j => o6 (by omega) (by omega) (by omega)) (om (by omega) (by omega)) (funext fun j => om (by omega) (by omega)) (funext fun j => om (by omega) (by omega)) rfl)
  refine l_of st_rv (h2_x2 (h_eA st he i6) (fun v S8 u m2 p => ?_) (fun v S8 u m2 p => ?_))
  · obtain ⟨S', c', m', e1, e2, he'⟩ := p
    cases e1
    cases e2
    have pe := EE_out (S0 := S6) (m0 := m1) (n := nS m) (nf := nF m) he'.1.1 (by unfold nS; rw [he'.2.1.2.2 57 30 (by rfl), om (by omega) (by omega)]) (by unfold nF; rw [he'.2.1.2.2 57 46 (by rfl), om (by omega) (by omega)]) he'
    have k8 : ∀ {k j : Nat}, T k ≠ 0 → KW (T k) j = false → sI S8 k j = sI S6 k j := fun q1 q2 => he'.1.2.2 _ _ q1 q2
    have m8 : ∀ {p j : Nat}, MW p j = false → sI m2 p j = sI m1 p j := fun q => he'.2.1.2.2 _ _ q
    have z19 : sI m 57 19 = Int32.ofNat (uA m) := (zA b).2.1
    have z70 : sI m 57 70 = Int32.ofNat (nR m) := (zR b).2.1
    have n60 : uA m ≤ 60 := (zA b).1
    have n20 : nR m ≤ 20 := (zR b).1
    refine m_hp (p_lvA_L (m := m2) (i := Int32.ofNat i) (x := Int32.ofNat c') (n := uA m) (nr := nR m) (MF_e (MF_e (MF_of hm) rm) he'.2.1.1) ((m8 (by rfl)).trans ((om (by omega) (by omega)).trans z19)) n60 ((m8 (by rfl)).trans ((om (by omega) (by omega)).trans z70)) n20 (uA m) 0 kr_FU m2 (Nat.zero_add _) rfl rfl (fun _ _ _ => rfl) (fun a => by rw [if_neg (fun q => absurd q.1 (Nat.not_lt_zero _))])) (fun q p => ?_)
    obtain ⟨v1, M⟩ := q
    obtain ⟨p1, p2, p3, p4, p5, p6⟩ := p
    have p1 : v1 = Int32.ofNat c' := p1
    have p4 : ∀ p c, p ≠ 80 → p ≠ 119 → sI M p c = sI m2 p c := p4
    have p5 : ∀ a, sI M 80 a = if a < uA m ∧ sI m2 75 a = Int32.ofNat i ∧ sI m2 80 a = 0 then 2 else sI m2 80 a := p5
    have p6 : ∀ r, sI M 119 r = if r < nR m then (if sI m2 119 r = 0 ∨ sI m2 117 r = Int32.ofNat i then 0 else 1) else sI m2 119 r := p6
    have oM : ∀ {p j : Nat}, MW p j = false → p ≠ 80 → p ≠ 119 → ¬ (p = 57 ∧ j = 82) → ¬ (p = 64 ∧ j = i) → sI M p j = sI m p j := fun q1 q2 q3 q4 q5 => (p4 _ _ q2 q3).trans ((m8 q1).trans (om q4 q5))
    rw [p1]
    have eR8 : sR S8 = sR S := he'.1.1.trans b1
    have el : ∀ l k, lel S8 l k = lel S l k := fun l k => by
      unfold lel
      rw [eR8]
    have eA' : uA M = uA m := by
      unfold uA
      rw [oM (by rfl) (by omega) (by omega) (by omega) (by omega)]
    have eR' : nR M = nR m := by
      unfold nR
      rw [oM (by rfl) (by omega) (by omega) (by omega) (by omega)]
    refine h2_ret ⟨AN_v ?_, fun j hj => ?_, ⟨fun a ha ha2 => ?_, fun a ha => ?_⟩, ⟨⟨?_, ?_, ?_⟩, fun r r1 r2 => ?_, fun r hr => ?_⟩, P_end_cong pe (fun p j q => p4 p j (by omega) (by omega))⟩
    · show sI M 57 82 = 0
      rw [p4 57 82 (by omega) (by omega), m8 (by rfl), m82]
    · obtain ⟨tj, -⟩ := kt_P hT.1 h.PF hj
      show sI S8 (29 + 4 * j) 11 = sI M 64 j
      rw [k8 (by rw [tj]; decide) (by rw [tj]; rfl), p4 64 j (by omega) (by omega), m8 (by rfl), b3 _ _ (by omega), a3 _ _ (by omega)]
      by_cases c : j = i
      · subst c
        rw [sS, m64]
      · rw [oS (by omega), om (by omega) (by omega)]
        exact h.Awy j hj
    · rw [eA'] at ha
      show sI M 82 a = 0
      rw [oM (by rfl) (by omega) (by omega) (by omega) (by omega)]
      exact h.Ast.1 a ha ha2
    · rw [eA'] at ha
      have ta := tyA b ha
      have nA' := nP _ _ ta (by decide)
      have kA : ∀ {j : Nat}, j ≠ 5 → sI S8 (lel S 18 a) j = sI S (lel S 18 a) j := fun q => (k8 (by rw [ta]; decide) (by rw [ta]; rfl)).trans (o6 (fun z => nA' z.1) (by omega) (by omega))
      have k5 : sI S8 (lel S 18 a) 5 = if sI m 75 a = Int32.ofNat i ∧ sI S (lel S 18 a) 5 = 0 then 2 else sI S (lel S 18 a) 5 := by
        rw [k8 (by rw [ta]; decide) (by rw [ta]; rfl), b3 _ _ (by omega), a4 a ha, oS (fun z => nA' z.1)]
      obtain ⟨w1, w2, w3, w4⟩ := h.Ast.2 a ha
      have e80 : sI M 80 a = if sI m 75 a = Int32.ofNat i ∧ sI m 80 a = 0 then 2 else sI m 80 a := by
        rw [p5 a, m8 (by rfl), m8 (by rfl), om (by omega) (by omega), om (by omega) (by omega)]
        by_cases c : sI m 75 a = Int32.ofNat i ∧ sI m 80 a = 0
        · rw [if_pos c, if_pos ⟨ha, c⟩]
        · rw [if_neg c, if_neg (fun q => c q.2)]
      show sI S8 (lel S8 18 a) 5 = sI M 80 a ∧ sI S8 (lel S8 18 a) 8 = sI M 82 a ∧ sI S8 (lel S8 18 a) 9 = sI M 83 a ∧ (sI M 80 a = 0 → sI S8 (lel S8 18 a) 6 = sI M 79 a ∧ sI S8 (lel S8 18 a) 7 = sI M 81 a ∧ (0 ≤ (sI M 82 a).toInt ∧ (sI M 82 a).toInt ≤ 11) ∧ 0 ≤ (sI M 81 a).toInt ∧ (sI M 81 a).toInt < (sI M 69 (12 * nn (sI M 78 a) + nn (sI M 79 a))).toInt)
      rw [el, k5, e80, w1, kA (by omega), kA (by omega), kA (by omega), kA (by omega), oM (p := 82) (by rfl) (by omega) (by omega) (by omega) (by omega), oM (p := 83) (by rfl) (by omega) (by omega) (by omega) (by omega), oM (p := 79) (by rfl) (by omega) (by omega) (by omega) (by omega), oM (p := 81) (by rfl) (by omega) (by omega) (by omega) (by omega), oM (p := 78) (by rfl) (by omega) (by omega) (by omega) (by omega), oM (p := 69) (by rfl) (by omega) (by omega) (by omega) (by omega)]
      refine ⟨rfl, w2, w3, fun q => w4 ?_⟩
      by_cases c : sI m 75 a = Int32.ofNat i ∧ sI m 80 a = 0
      · exact c.2
      · rw [if_neg c] at q
        exact q
    · show nn (sI M 57 70) ≤ 20
      rw [oM (by rfl) (by omega) (by omega) (by omega) (by omega)]
      exact n20
    · show sI M 57 70 = Int32.ofNat (nn (sI M 57 70))
      rw [oM (by rfl) (by omega) (by omega) (by omega) (by omega)]
      exact z70
    · show sI S8 27 2 = sI M 57 70
      rw [oM (by rfl) (by omega) (by omega) (by omega) (by omega), k8 (by rw [t27]; decide) (by rw [t27]; rfl), o6 (by omega) (by omega) (by omega)]
      exact (zR b).2.2
    · rw [eR'] at r1
      show sI M 120 r = 0 ∧ sI M 121 r = 0
      rw [oM (by rfl) (by omega) (by omega) (by omega) (by omega), oM (by rfl) (by omega) (by omega) (by omega) (by omega)]
      exact h.Rec.2.1 r r1 r2
    · rw [eR'] at hr
      have tr := tyR b hr
      have nA' := nP _ _ tr (by decide)
      have kA : ∀ {j : Nat}, j ≠ 2 → sI S8 (lel S 27 r) j = sI S (lel S 27 r) j := fun q => (k8 (by rw [tr]; decide) (by rw [tr]; rfl)).trans (o6 (fun z => nA' z.1) (by omega) (by omega))
      have k2 : sI S8 (lel S 27 r) 2 = if sI m 117 r = Int32.ofNat i then 0 else sI S (lel S 27 r) 2 := by
        rw [k8 (by rw [tr]; decide) (by rw [tr]; rfl), b4 r hr, a3 _ _ (by omega), oS (fun z => nA' z.1)]
      obtain ⟨w1, w2, w3, w4, w5, w6, w7⟩ := h.Rec.2.2 r hr
      have t01 : sI m 119 r = 0 ∨ sI m 119 r = 1 := by
        obtain ⟨-, tt, -⟩ := md_at hm (j := 73) (p := 119) rfl rfl
        exact In01 (hm.t5 119 r 20 0 1 (by rw [tt]; rfl) (by omega))
      have e119 : sI M 119 r = if sI m 117 r = Int32.ofNat i then 0 else sI m 119 r := by
        rw [p6 r, if_pos hr, m8 (by rfl), m8 (by rfl), om (by omega) (by omega), om (by omega) (by omega)]
        by_cases c : sI m 117 r = Int32.ofNat i
        · rw [if_pos c, if_pos (Or.inr c)]
        · rw [if_neg c]
          rcases t01 with q | q
          · rw [if_pos (Or.inl q), q]
          · rw [if_neg (fun z => z.elim (fun y => by rw [y] at q; exact absurd q (by decide)) c), q]
      show (∀ b, b < nR M → lel S8 27 b = lel S8 27 r → b = r) ∧ (∃ i, i < 6 ∧ sR S8 (lel S8 27 r) 0 = some (29 + 4 * i) ∧ sI M 117 r = Int32.ofNat i) ∧ sI S8 (lel S8 27 r) 1 = sI M 118 r ∧ sI S8 (lel S8 27 r) 2 = sI M 119 r ∧ sI S8 (lel S8 27 r) 3 = sI M 120 r ∧ (0 ≤ (sI M 120 r).toInt ∧ (sI M 120 r).toInt < 64) ∧ sI S8 (lel S8 27 r) 4 = sI M 121 r
      rw [el, k2, e119, w4, kA (by omega), kA (by omega), kA (by omega), eR', eR8, oM (p := 118) (by rfl) (by omega) (by omega) (by omega) (by omega), oM (p := 120) (by rfl) (by omega) (by omega) (by omega) (by omega), oM (p := 121) (by rfl) (by omega) (by omega) (by omega) (by omega), oM (p := 117) (by rfl) (by omega) (by omega) (by omega) (by omega)]
      exact ⟨fun b hb e => w1 b hb (by rw [el] at e; exact e), w2, w3, rfl, w5, w6, w7⟩
  · obtain ⟨S', c', m', e1, -⟩ := p
    cases e1
theorem h_leave (hT : TV T S) (hm : TI Tm m) (h : FR S m) (a : Int32) : H2 (f_K_leave S (some 4) a) (f_M_leave m (some 57) a) (fun x y => AN [eX] x.1 y.1 (sI y.2 57 82) ∧ P_leave x.2 y.2) := by
  have b := FR_BB hT hm h
  have hmf := MF_of (TI_t hm 0)
  unfold f_K_leave f_M_leave
  refine m_of (st_b2 (q_six m a)) (m_of st_rv ?_)
  refine l_of st_rv (l_bx (fun v S' e => ?_) (fun v S' e => ?_))
  · rcases x_fp b a _ e with ⟨i, i1, rfl, e2⟩ | ⟨no, e2⟩
    · cases e2
      rw [if_pos ((six_iff _).mpr ⟨i, i1, rfl⟩)]
      refine m_p2 p_may (fun v m' p => ?_)
      cases p
      refine l_of (st_gIe (h.Awy i i1)) (m_of (st_F one0) (m_of (st_gRe (hmf 7 64 rfl)) (m_of (st_gRe (hmf 7 64 rfl)) (m_of (st_aIe (v := sI m 64 i) (oc (by omega)) (lv0 m (by omega) 0)) ?_))))
      by_cases c : sI m 64 i = 0
      · exact l_of (st_T c) (m_of (st_T c) (leave_go hT hm h i1))
      · refine l_of (st_F c) (m_of (st_F c) ?_)
        unfold f_K_leave_B19 f_M_leave_B32
        refine l_of st_pZ (l_of (st_gIe (v := 0) (ti_sI_eq _ _ _ _)) (l_of (st_T rfl) ?_))
        refine m_of (st_bZe (oc (by omega))) (m_of (st_gRe (v := some 64) (hmf 7 64 rfl)) (m_of (st_aIe (v := 0) (oc (by omega)) (ti_sI_eq _ _ _ _)) (m_of (st_T rfl) ?_)))
        obtain ⟨tP, -, -, -⟩ := kt_P hT.1 h.PF i1
        have h0 := FR_t hT hm h 0
        obtain ⟨S1, eS⟩ : ∃ S1, S1 = wI S (29 + 4 * i) 11 0 := ⟨_, rfl⟩
        obtain ⟨m1, em⟩ : ∃ m1, m1 = wI (wI m 57 82 0) 64 i 0 := ⟨_, rfl⟩
        rw [← eS]
        show H2 (some (Sum.inl (-1), S1)) (some (-1, wI (wI m 57 82 0) 64 i 0)) _
        rw [← em]
        have kS : Kp T T (k_cAst ++ (k_cRec ++ (k_cLiv ++ (k_cGod ++ k_cAU)))) S S1 := ⟨fun _ _ => rfl, fun k j q1 q2 => by
          rw [eS, ti_sI_ne]
          rintro ⟨rfl, rfl⟩
          rw [tP] at q2
          exact absurd q2 (by decide +kernel), fun k j _ _ => by rw [eS, sR_wI]⟩
        have t64 := (md_at hm (j := 7) (p := 64) rfl rfl).2.1
        have kM : Kp Tm Tm (m_cAst ++ (m_cRec ++ (m_cLiv ++ (m_cGod ++ m_cAU)))) (wI m 57 82 0) m1 := ⟨fun _ _ => rfl, fun k j q1 q2 => by
          rw [em, ti_sI_ne]
          rintro ⟨rfl, rfl⟩
          rw [t64, show cl (100 + 7) j = 10700 from if_neg (by decide)] at q2
          exact absurd q2 (by decide +kernel), fun k j _ _ => by rw [em, sR_wI]⟩
        have b0 := FR_BB hT (TI_t hm 0) h0
        have sub : ∀ {ds : List Nat}, ds.all (fun z => (k_cAst ++ (k_cRec ++ (k_cLiv ++ (k_cGod ++ k_cAU)))).contains z) = true → Kp T T ds S S1 := fun hs => Kp_sub kS (fun z hz => List.contains_iff_mem.mp (List.all_eq_true.mp hs z hz))
        have subM : ∀ {ds : List Nat}, ds.all (fun z => (m_cAst ++ (m_cRec ++ (m_cLiv ++ (m_cGod ++ m_cAU)))).contains z) = true → Kp Tm Tm ds (wI m 57 82 0) m1 := fun hs => Kp_sub kM (fun z hz => List.contains_iff_mem.mp (List.all_eq_true.mp hs z hz))
        refine h2_ret ⟨AN_v ?_, fun j hj => ?_, cAst_fr b0 h0.Ast (sub (by decide +kernel)) (subM (by decide +kernel)), cRec_fr b0 h0.Rec (sub (by decide +kernel)) (subM (by decide +kernel)), cLiv_fr b0 h0.Liv (sub (by decide +kernel)) (subM (by decide +kernel)), cGod_fr b0 h0.God (sub (by decide +kernel)) (subM (by decide +kernel)), cAU_fr b0 h0.AU (sub (by decide +kernel)) (subM (by decide +kernel))⟩
        · rw [em, ti_sI_ne (by omega)]
          exact ti_sI_eq _ _ _ _
        · show sI S1 (29 + 4 * j) 11 = sI m1 64 j
          rw [eS, em]
          by_cases q : j = i
          · subst q
            exact (ti_sI_eq _ _ _ _).trans (ti_sI_eq _ _ _ _).symm
          · exact (ti_sI_ne (by omega)).trans ((h0.Awy j hj).trans (ti_sI_ne (by omega)).symm)
    · cases e2
  · rcases x_fp b a _ e with ⟨i, i1, rfl, e2⟩ | ⟨no, e2⟩
    · cases e2
    · cases e2
      rw [if_neg (fun q => no ((six_iff _).mp q))]
      refine m_p2 p_may (fun v m' p => ?_)
      cases p
      exact m_of (st_T rfl) (h2_ret ⟨AN_e 0 rfl (ti_sI_eq _ _ _ _), FR_leave (FR_X hT (TI_t hm 1) (FR_t hT hm h 1))⟩)
end
end
section
/-! ===== withdraw ===== -/
/-- whose family, of which service -/
def WDF (S m : AS) (n f : Nat) : Prop := ∃ c s p v, (c < 60 ∧ s < n ∧ p < 6 ∧ v < 4) ∧ (sI m 99 f = Int32.ofNat c ∧ sI m 93 c = Int32.ofNat s ∧ sI m 94 c = Int32.ofNat v ∧ sI m 85 s = Int32.ofNat p) ∧ (sR S (lel S 23 f) 0 = some (lel S 19 s) ∧ sR S (lel S 19 s) 1 = some (29 + 4 * p) ∧ sI S (lel S 23 f) 1 = Int32.ofNat v)
theorem WDF_of {S m : AS} (h : FR S m) {f : Nat} (hf : f < nF m) : WDF S m (nS m) f := by
  obtain ⟨c, c1, c2, c3, c4, -⟩ := h.Fam.2 f hf
  obtain ⟨-, ⟨s, s1, s2, s3⟩, ⟨v, v1, v2, v3⟩, -⟩ := h.Cod.2 c c1
  obtain ⟨-, ⟨p, p1, p2, p3⟩, -⟩ := h.Ses.2 s s1
  have zc := h.Cod.1.1
  refine ⟨c, s, p, v, ⟨by unfold nC at c1; omega, s1, p1, v1⟩, ⟨c3, s3, v3, p3⟩, ?_, p2, ?_⟩
  · rw [c2]
    exact s2
  · rw [c2]
    exact v2
theorem h_wd_L {T : Nat → Nat} {S0 m0 : AS} {n nf nt p0 v0 : Nat} (st : ST T S0 m0 n nf nt) (wd : ∀ f, f < nf → WDF S0 m0 n f) (hp : p0 < 6) (hv : v0 < 4) : ∀ (k i fu fu' : Nat) (c : Int32) (S m : AS), i + k = nf → EE 0 T S0 m0 n nf S m →
    H2 (f_K_withdraw_L28 fu S (some 4) (Int32.ofNat v0) (some (29 + 4 * p0)) c (Int32.ofNat i)) (f_M_withdraw_L44 fu' m (some 57) (Int32.ofNat p0) (Int32.ofNat v0) c (Int32.ofNat i)) (fun a b => ∃ S' c' m', a = (.inl c', S') ∧ b = (c', m') ∧ EE 0 T S0 m0 n nf S' m')
  | _, _, 0, _, _, _, _, _, _ => h2_l0
  | _, _, _ + 1, 0, _, _, _, _, _ => h2_m0
  | 0, i, fu + 1, fu' + 1, c, S, m, hk, he => by
    unfold f_K_withdraw_L28 f_K_withdraw_C28 f_M_withdraw_L44 f_M_withdraw_C44
    have hkf := st.1.2.1
    obtain ⟨-, -, e23, e46⟩ := ET st he
    obtain ⟨n60, nf60, -⟩ := st.2.2.2.1
    have le : Int32.ofNat nf ≤ Int32.ofNat i := (ole (by omega) (by omega)).mpr (by omega)
    refine l_of (st_gRe (show sR S 4 13 = some 23 by rw [he.1.1]; exact hkf.1 13 23 rfl)) (l_of st_rv (l_of st_size (l_of (st_T (by rw [e23]; exact le)) ?_)))
    exact m_of (st_gIe e46) (m_of (st_T le) (h2_ret ⟨S, c, m, rfl, rfl, he⟩))
  | k + 1, i, fu + 1, fu' + 1, c, S, m, hk, he => by
    unfold f_K_withdraw_L28 f_K_withdraw_C28 f_M_withdraw_L44 f_M_withdraw_C44
    have hkf := st.1.2.1
    have hm := MF_e st.2.2.1 he.2.1.1
    obtain ⟨-, -, e23, e46⟩ := ET st he
    obtain ⟨n60, nf60, -⟩ := st.2.2.2.1
    have le : ¬ Int32.ofNat nf ≤ Int32.ofNat i := fun q => by
      have := (ole (by omega) (by omega)).mp q
      omega
    have r13 : sR S 4 13 = some 23 := by rw [he.1.1]; exact hkf.1 13 23 rfl
    have hi : i < nf := by omega
    obtain ⟨cc, s, p, v, ⟨c60, s1, p6, v4⟩, ⟨m99, m93, m94, m85⟩, ⟨k0, k1, k2⟩⟩ := wd i hi
    obtain ⟨g1, g2, g3⟩ := he.2.2.2.2.1 i hi
    have tg := (ST_f st hi).1
    refine l_of (st_gRe r13) (l_of st_rv (l_of st_size (l_of (st_F (by rw [e23]; exact le)) ?_)))
    refine l_of (st_gRe r13) (l_of st_rv (l_of (st_get (oc (by omega)) (EE_get he (ST_f st hi).2)) (l_of st_cc (l_of (st_gIe g1) ?_))))
    refine m_of (st_gIe e46) (m_of (st_F le) (m_of (st_gRe (hm 51 103 rfl)) (m_of (st_aIe (v := sI m 103 i) (oc (by omega)) rfl) ?_)))
    have skip : H2 (f_K_withdraw_B92 (f_K_withdraw_L28 fu) S (some 4) (Int32.ofNat v0) (some (29 + 4 * p0)) c (Int32.ofNat i)) (f_M_withdraw_B104 (f_M_withdraw_L44 fu') m (some 57) (Int32.ofNat p0) (Int32.ofNat v0) c (Int32.ofNat i)) (fun a b => ∃ S' c' m', a = (.inl c', S') ∧ b = (c', m') ∧ EE 0 T S0 m0 n nf S' m') := by
      unfold f_K_withdraw_B92 f_M_withdraw_B104 f_M_withdraw_B105 f_M_withdraw_B118 f_M_withdraw_B131
      refine l_of st_val (m_of (st_T rfl) (m_of st_val (m_of (st_T rfl) (m_of st_val ?_))))
      rw [o1, Int32.add_zero]
      exact h_wd_L st wd hp hv k (i + 1) fu fu' c S m (by omega) he
    by_cases c1 : sI m 103 i = 0
    · exact l_of (st_T c1) (m_of (st_T c1) skip)
    · have eM : ∀ {q j : Nat}, MW q j = false → sI m q j = sI m0 q j := fun q => he.2.1.2.2 _ _ q
      refine l_of (st_F c1) (m_of (st_F c1) (l_of (st_gRe (v := some (lel S0 19 s)) (by rw [he.1.1]; exact k0)) (l_of (st_gRe (v := some (29 + 4 * p)) (by rw [he.1.1]; exact k1)) (l_of st_ac (l_of st_ac ?_)))))
      refine m_of (st_gRe (hm 31 85 rfl)) (m_of (st_gRe (hm 40 93 rfl)) (m_of (st_gRe (hm 47 99 rfl)) (m_of (st_aIe (v := Int32.ofNat cc) (oc (by omega)) ((eM (by rfl)).trans m99)) (m_of (st_aIe (v := Int32.ofNat s) (oc (by omega)) ((eM (by rfl)).trans m93)) (m_of (st_aIe (v := Int32.ofNat p) (oc (by omega)) ((eM (by rfl)).trans m85)) ?_)))))
      by_cases c2 : p = p0
      · subst c2
        refine l_of (st_T rfl) (m_of (st_T rfl) (l_of (st_gIe (v := Int32.ofNat v) ((KE_ty he.1 tg (by decide) (by decide)).trans k2)) ?_))
        refine m_of (st_gRe (hm 41 94 rfl)) (m_of (st_gRe (hm 47 99 rfl)) (m_of (st_aIe (v := Int32.ofNat cc) (oc (by omega)) ((eM (by rfl)).trans m99)) (m_of (st_aIe (v := Int32.ofNat v) (oc (by omega)) ((eM (by rfl)).trans m94)) ?_)))
        by_cases c3 : Int32.ofNat v = Int32.ofNat v0
        · refine l_of (st_T c3) (m_of (st_T c3) (l_of st_rv ?_))
          unfold f_K_withdraw_B92 f_M_withdraw_B105 f_M_withdraw_B118 f_M_withdraw_B131
          refine m_of (st_F one0) (m_of st_val (m_of (st_F one0) (m_of st_rv ?_)))
          refine h2_xd (h_eF st he hi) (fun w S' m' q => ?_) (fun w S' m' q => ?_)
          · obtain ⟨S2, e, he', -⟩ := q
            cases e
            refine l_of st_val (l_of st_val (m_of st_val ?_))
            rw [o1]
            exact h_wd_L st wd hp hv k (i + 1) fu fu' (c + 1) S' m' (by omega) he'
          · obtain ⟨S2, e, -⟩ := q
            cases e
        · exact l_of (st_F c3) (m_of (st_F c3) skip)
      · exact l_of (st_F (fun q => c2 (per_eq.mp q))) (m_of (st_F (fun q => c2 (oinj (by omega) (by omega) q))) skip)
section
variable {T Tm : Nat → Nat} {S m : AS}
def P_wd (S m : AS) : Prop := cCon S m ∧ P_end S m
theorem FR_wd (h : FR S m) : P_wd S m := ⟨h.Con, FR_end h⟩
theorem wd_go (hT : TV T S) (hm : TI Tm m) (h : FR S m) {i v : Nat} (i6 : i < 6) (v4 : v < 4) : H2 (f_K_withdraw_L28 kr_FU (wI S (32 + 4 * i) v 0) (some 4) (Int32.ofNat v) (some (29 + 4 * i)) 0 0) (f_M_withdraw_L44 kr_FU (wI (wI m 57 82 0) 91 (4 * i + v) 0) (some 57) (Int32.ofNat i) (Int32.ofNat v) 0 0) (fun x y => AN [eX] x.1 y.1 (sI y.2 57 82) ∧ P_wd x.2 y.2) := by
  obtain ⟨tP, -, -, t16⟩ := kt_P hT.1 h.PF i6
  obtain ⟨S1, eS⟩ : ∃ S1, S1 = wI S (32 + 4 * i) v 0 := ⟨_, rfl⟩
  obtain ⟨m1, em⟩ : ∃ m1, m1 = wI (wI m 57 82 0) 91 (4 * i + v) 0 := ⟨_, rfl⟩
  rw [← eS, ← em]
  have oS : ∀ {p j : Nat}, ¬ (p = 32 + 4 * i ∧ j = v) → sI S1 p j = sI S p j := fun q => by
    rw [eS]
    exact ti_sI_ne q
  have sS : sI S1 (32 + 4 * i) v = 0 := by rw [eS, ti_sI_eq]
  have rS : sR S1 = sR S := by rw [eS, sR_wI]
  have lS : sL S1 = sL S := by rw [eS]; rfl
  have om : ∀ {p j : Nat}, ¬ (p = 57 ∧ j = 82) → ¬ (p = 91 ∧ j = 4 * i + v) → sI m1 p j = sI m p j := fun q1 q2 => by
    rw [em]
    exact (ti_sI_ne q2).trans (ti_sI_ne q1)
  have m82 : sI m1 57 82 = 0 := by rw [em, ti_sI_ne (by omega), ti_sI_eq]
  have m91 : sI m1 91 (4 * i + v) = 0 := by rw [em, ti_sI_eq]
  have rm : sR m1 = sR m := by rw [em, sR_wI, sR_wI]
  have lm : sL m1 = sL m := by rw [em]; rfl
  have nP : ∀ k τ, T k = τ → τ ≠ 16 → k ≠ 32 + 4 * i := fun k τ hk ht q => by
    rw [q, t16] at hk
    exact ht hk.symm
  obtain ⟨t4, t5, t6, -⟩ := kt4 hT.1
  have b := FR_BB hT hm h
  have tF : ∀ f, f < nF m → T (lel S 23 f) = 44 := fun f hf => tyF b hf
  have tS : ∀ s, s < nS m → T (lel S 19 s) = 43 := fun s hs => tyS b hs
  have el : ∀ l k, lel S1 l k = lel S l k := fun l k => by
    unfold lel
    rw [rS]
  have st : ST T S1 m1 (nS m) (nF m) (nT m) := ST_cong (ST_of hT hm h) rS lS (fun k j q1 q2 q3 => oS (fun z => by rw [z.1, t16] at q1; omega)) rm lm (fun p j q => om (by omega) (by omega))
  have he : EE 0 T S1 m1 (nS m) (nF m) S1 m1 := EE_mk h rS (fun s hs => oS (fun z => nP _ _ (tS s hs) (by decide) z.1)) (oS (by omega)) (fun f hf => ⟨oS (fun z => nP _ _ (tF f hf) (by decide) z.1), oS (fun z => nP _ _ (tF f hf) (by decide) z.1)⟩) (fun p j q => om (by omega) (by omega))
    (AU_cong h.AU (oS (by omega)) (funext fun j => oS (by omega)) (om (by omega) (by omega)) (funext fun j => om (by omega) (by omega)) (funext fun j => om (by omega) (by omega)) rfl)
  have wd : ∀ f, f < nF m → WDF S1 m1 (nS m) f := fun f hf => by
    obtain ⟨c, s, p, u, h1, ⟨a1, a2, a3, a4⟩, b1, b2, b3⟩ := WDF_of h hf
    refine ⟨c, s, p, u, h1, ⟨(om (by omega) (by omega)).trans a1, (om (by omega) (by omega)).trans a2, (om (by omega) (by omega)).trans a3, (om (by omega) (by omega)).trans a4⟩, ?_, ?_, ?_⟩
    · rw [rS, el, el]
      exact b1
    · rw [rS, el]
      exact b2
    · rw [el, oS (fun z => nP _ _ (tF f hf) (by decide) z.1)]
      exact b3
  refine h2_mono (h_wd_L st wd i6 v4 (nF m) 0 kr_FU kr_FU 0 S1 m1 (Nat.zero_add _) he) (fun x y p => ?_)
  obtain ⟨S', c', m', rfl, rfl, he'⟩ := p
  have pe := EE_out (S0 := S1) (m0 := m1) (n := nS m) (nf := nF m) he'.1.1 (by unfold nS; rw [he'.2.1.2.2 57 30 (by rfl), om (by omega) (by omega)]) (by unfold nF; rw [he'.2.1.2.2 57 46 (by rfl), om (by omega) (by omega)]) he'
  refine ⟨AN_v ((he'.2.1.2.2 57 82 (by rfl)).trans m82), fun c hc => ⟨fun j hj => ?_, ?_⟩, pe⟩
  · obtain ⟨-, -, -, tj⟩ := kt_P hT.1 h.PF hj
    rw [KE_ty he'.1 tj (by decide) (by rfl), he'.2.1.2.2 91 _ (by rfl)]
    by_cases q : j = i ∧ c = v
    · obtain ⟨rfl, rfl⟩ := q
      rw [sS, m91]
    · rw [oS (by omega), om (by omega) (by omega)]
      exact (h.Con c hc).1 j hj
  · have t20 := (kt4 hT.1).2.2.2.2.2.2.2.1
    rw [KE_ty he'.1 t20 (by decide) (by rfl), he'.2.1.2.2 91 _ (by rfl), oS (by omega), om (by omega) (by omega)]
    exact (h.Con c hc).2
theorem h_withdraw (hT : TV T S) (hm : TI Tm m) (h : FR S m) (a c : Int32) : H2 (f_K_withdraw S (some 4) a c) (f_M_withdraw m (some 57) a c) (fun x y => AN [eX] x.1 y.1 (sI y.2 57 82) ∧ P_wd x.2 y.2) := by
  have b := FR_BB hT hm h
  have hmf := MF_of (TI_t hm 0)
  have bad : H2 (some ((Sum.inr eX : Int32 ⊕ String), wX S)) (f_M_withdraw_B20 m (some 57) a c (some 57) 0) (fun x y => AN [eX] x.1 y.1 (sI y.2 57 82) ∧ P_wd x.2 y.2) := by
    unfold f_M_withdraw_B20
    refine m_of st_rv (m_p2 p_may (fun v m' p => ?_))
    cases p
    exact m_of (st_T rfl) (h2_ret ⟨AN_e 0 rfl (ti_sI_eq _ _ _ _), FR_wd (FR_X hT (TI_t hm 1) (FR_t hT hm h 1))⟩)
  unfold f_K_withdraw f_M_withdraw f_M_withdraw_B19
  refine m_of (st_b2 (q_six m a)) ?_
  refine l_of st_rv (l_bx (fun v S' e => ?_) (fun v S' e => ?_))
  · rcases x_fp b a _ e with ⟨i, i1, rfl, e2⟩ | ⟨no, e2⟩
    · cases e2
      rw [if_pos ((six_iff _).mpr ⟨i, i1, rfl⟩)]
      obtain ⟨-, -, -, t16⟩ := kt_P hT.1 h.PF i1
      have l16 : sL S (32 + 4 * i) = 4 := (hT.1.t1 _ (by rw [t16]; decide)).2.2.2 4 (by rw [t16]; rfl)
      have r9 := (h.PF.1 i i1).2.2.2.1
      refine m_of (st_F one0) (m_of (st_b2 (q_ser m c)) (l_of (st_gRe r9) (l_of st_aN ?_)))
      rw [l16]
      refine l_bx (fun v S' e => ?_) (fun v S' e => ?_)
      · rcases p_rI _ e with ⟨h1, h2, e2⟩ | ⟨-, e2⟩
        · cases e2
          rw [oi (by decide)] at h2
          obtain ⟨s, s1, rfl⟩ := (IX_iff (n := 4) (a := c) (by decide)).mpr ⟨h1, by omega⟩
          rw [if_pos ((fou_iff _).mpr ⟨s, s1, rfl⟩)]
          refine m_of (st_F one0) ?_
          unfold f_M_withdraw_B20
          refine m_of st_rv (m_p2 p_may (fun v m' p => ?_))
          cases p
          refine m_of (st_F one0) (m_of (st_gRe (hmf 37 91 rfl)) (m_of (st_bIe (ix4 i (by omega) s s1)) ?_))
          refine l_of (st_gRe r9) (l_of (st_bIe (oc (by omega))) ?_)
          exact wd_go hT hm h i1 s1
        · cases e2
      · rcases p_rI _ e with ⟨h1, h2, e2⟩ | ⟨h1, e2⟩
        · cases e2
        · cases e2
          rw [if_neg (show ¬ (0 ≤ c ∧ c ≤ 3) from fun q => h1 (by have := (IX_iff (n := 4) (by decide)).mp ((fou_iff _).mp q); rw [oi (by decide)]; exact this))]
          exact m_of (st_T rfl) bad
    · cases e2
  · rcases x_fp b a _ e with ⟨i, i1, rfl, e2⟩ | ⟨no, e2⟩
    · cases e2
    · cases e2
      rw [if_neg (fun q => no ((six_iff _).mp q))]
      exact m_of (st_T rfl) bad
end
end
section
/-! ===== is it answered right ===== -/
theorem ix3' : ∀ i, i < 6 → ((3 : Int32) * Int32.ofNat i).toNatClampNeg = 3 * i := by decide +kernel
theorem ix3'' : ∀ i, i < 6 → ∀ f, f < 3 → (3 : Int32) * Int32.ofNat i + Int32.ofNat f = Int32.ofNat (3 * i + f) := by decide +kernel
def NK (S1 S2 : AS) (p : Nat) (now : Int32) : Prop := (sR S2 = sR S1 ∧ sL S2 = sL S1) ∧ sI S2 p 4 = now ∧ sI S2 p 5 = sI S1 p 4 ∧ sI S2 p 6 = sI S1 p 5 ∧ ∀ q j, ¬ (q = p ∧ 4 ≤ j ∧ j ≤ 6) → sI S2 q j = sI S1 q j
theorem p_noteK {S1 : AS} {p : Nat} {now : Int32} : Hp (f_Person_noteWrong S1 (some p) now) (fun S2 => NK S1 S2 p now) := by
  unfold f_Person_noteWrong
  refine p_of st_gI (p_of st_pI (p_of (st_gIe (v := sI S1 p 4) (ti_sI_ne (by omega))) (p_of st_pI (p_of st_pI (p_ret ⟨⟨rfl, rfl⟩, ti_sI_eq _ _ _ _, ?_, ?_, fun q j z => ?_⟩)))))
  · rw [ti_sI_ne (by omega), ti_sI_eq]
  · rw [ti_sI_ne (by omega), ti_sI_ne (by omega), ti_sI_eq]
  · rw [ti_sI_ne (by omega), ti_sI_ne (by omega), ti_sI_ne (by omega)]
def NM (m1 m2 : AS) (i : Nat) : Prop := (sR m2 = sR m1 ∧ sL m2 = sL m1) ∧ sI m2 61 (3 * i + 2) = sI m1 57 0 ∧ sI m2 61 (3 * i + 1) = sI m1 61 (3 * i + 2) ∧ sI m2 61 (3 * i) = sI m1 61 (3 * i + 1) ∧ ∀ q j, ¬ (q = 61 ∧ 3 * i ≤ j ∧ j ≤ 3 * i + 2) → sI m2 q j = sI m1 q j
theorem p_noteM {m1 : AS} (hmf : MF m1) {i : Nat} (hi : i < 6) : Hp (f_M_answers_B118 m1 (some 57) (Int32.ofNat i)) (fun q => q.1 = 0 ∧ NM m1 q.2 i) := by
  unfold f_M_answers_B118
  refine p_of (st_gRe (hmf 4 61 rfl)) (p_of (st_gRe (hmf 4 61 rfl)) (p_of (st_aIe (v := sI m1 61 (3 * i + 1)) (ix3 i (by omega) 1 (by decide)) rfl) (p_of (st_bIe (ix3' i hi)) ?_)))
  refine p_of (st_gRe (hmf 4 61 rfl)) (p_of (st_gRe (hmf 4 61 rfl)) (p_of (st_aIe (v := sI m1 61 (3 * i + 2)) (ix3 i (by omega) 2 (by decide)) (ti_sI_ne (by omega))) (p_of (st_bIe (ix3 i (by omega) 1 (by decide))) ?_)))
  refine p_of (st_gRe (hmf 4 61 rfl)) (p_of (st_gIe (v := sI m1 57 0) ((ti_sI_ne (by omega)).trans (ti_sI_ne (by omega)))) (p_of (st_bIe (ix3 i (by omega) 2 (by decide))) (p_ret ⟨rfl, ⟨rfl, rfl⟩, ti_sI_eq _ _ _ _, ?_, ?_, fun q j z => ?_⟩)))
  · exact (ti_sI_ne (by omega)).trans (ti_sI_eq _ _ _ _)
  · exact (ti_sI_ne (by omega)).trans ((ti_sI_ne (by omega)).trans (ti_sI_eq _ _ _ _))
  · exact (ti_sI_ne (by omega)).trans ((ti_sI_ne (by omega)).trans (ti_sI_ne (by omega)))
theorem fac_upd {S m S' m' : AS} (h : cFac S m) {i f : Nat} (a1 : sI S' (30 + 4 * i) f = sI m' 58 (3 * i + f)) (a2 : sI S' (31 + 4 * i) f = sI m' 59 (3 * i + f)) (a3 : sI S' (29 + 4 * i) 3 = sI m' 60 i) (hb : sI m' 58 (3 * i + f) = 1 → 0 ≤ (sI m' 59 (3 * i + f)).toInt ∧ (sI m' 59 (3 * i + f)).toInt ≤ 4) (f3 : f < 3)
    (oS : ∀ j c, ¬ (j = i ∧ c = f) → sI S' (30 + 4 * j) c = sI S (30 + 4 * j) c ∧ sI S' (31 + 4 * j) c = sI S (31 + 4 * j) c) (o3 : ∀ j, j ≠ i → sI S' (29 + 4 * j) 3 = sI S (29 + 4 * j) 3) (oM : ∀ q, q ≠ 3 * i + f → sI m' 58 q = sI m 58 q ∧ sI m' 59 q = sI m 59 q) (om3 : ∀ j, j ≠ i → sI m' 60 j = sI m 60 j) : cFac S' m' := by
  intro j hj
  refine ⟨fun c hc => ?_, ?_⟩
  · by_cases q : j = i ∧ c = f
    · obtain ⟨rfl, rfl⟩ := q
      exact ⟨a1, a2, hb⟩
    · obtain ⟨e1, e2⟩ := oS j c q
      obtain ⟨e3, e4⟩ := oM (3 * j + c) (by omega)
      rw [e1, e2, e3, e4]
      exact (h j hj).1 c hc
  · by_cases q : j = i
    · subst q
      exact a3
    · rw [o3 j q, om3 j q]
      exact (h j hj).2
theorem fac_cong {S m S' m' : AS} (h : cFac S m) (eS : ∀ j c, j < 6 → sI S' (30 + 4 * j) c = sI S (30 + 4 * j) c ∧ sI S' (31 + 4 * j) c = sI S (31 + 4 * j) c ∧ sI S' (29 + 4 * j) 3 = sI S (29 + 4 * j) 3) (eM : ∀ q, sI m' 58 q = sI m 58 q ∧ sI m' 59 q = sI m 59 q ∧ sI m' 60 q = sI m 60 q) : cFac S' m' := by
  intro j hj
  refine ⟨fun c hc => ?_, ?_⟩
  · rw [(eS j c hj).1, (eS j c hj).2.1, (eM _).1, (eM _).2.1]
    exact (h j hj).1 c hc
  · rw [(eS j 0 hj).2.2, (eM _).2.2]
    exact (h j hj).2
theorem wrg_note {S m S' m' : AS} (h : cWrg S m) {i : Nat} {now : Int32} (n0 : 0 ≤ now.toInt) (n1 : now.toInt ≤ 30000) (i6 : i < 6) (a4 : sI S' (29 + 4 * i) 4 = now) (a5 : sI S' (29 + 4 * i) 5 = sI S (29 + 4 * i) 4) (a6 : sI S' (29 + 4 * i) 6 = sI S (29 + 4 * i) 5)
    (b2 : sI m' 61 (3 * i + 2) = now) (b1 : sI m' 61 (3 * i + 1) = sI m 61 (3 * i + 2)) (b0 : sI m' 61 (3 * i) = sI m 61 (3 * i + 1)) (oS : ∀ j c, j ≠ i → j < 6 → 4 ≤ c → c ≤ 6 → sI S' (29 + 4 * j) c = sI S (29 + 4 * j) c) (oM : ∀ q, ¬ (3 * i ≤ q ∧ q ≤ 3 * i + 2) → sI m' 61 q = sI m 61 q) : cWrg S' m' := by
  intro j hj
  by_cases q : j = i
  · subst q
    rw [a4, a5, a6, b2, b1, b0]
    exact ⟨Or.inr ⟨rfl, n0, n1⟩, (h j hj).1, (h j hj).2.1⟩
  · rw [oS j 4 q hj (by omega) (by omega), oS j 5 q hj (by omega) (by omega), oS j 6 q hj (by omega) (by omega), oM _ (by omega), oM _ (by omega), oM _ (by omega)]
    exact h j hj
theorem wrg_cong {S m S' m' : AS} (h : cWrg S m) (eS : ∀ j c, j < 6 → 4 ≤ c → c ≤ 6 → sI S' (29 + 4 * j) c = sI S (29 + 4 * j) c) (eM : ∀ q, sI m' 61 q = sI m 61 q) : cWrg S' m' := by
  intro j hj
  rw [eS j 4 hj (by omega) (by omega), eS j 5 hj (by omega) (by omega), eS j 6 hj (by omega) (by omega), eM, eM, eM]
  exact h j hj
/-- which cells an answer writes -/
def RW (τ j : Nat) : Prop := τ = 2 ∨ τ = 3 ∨ τ = 4 ∨ τ = 14 ∨ τ = 15 ∨ (τ = 13 ∧ 3 ≤ j ∧ j ≤ 6)
def RWm (p j : Nat) : Prop := p = 58 ∨ p = 59 ∨ p = 60 ∨ p = 61 ∨ p = 123 ∨ p = 124 ∨ p = 125 ∨ (p = 57 ∧ (j = 77 ∨ j = 81))
def RT (T : Nat → Nat) (lv : Nat → Int32) (n : Nat) (S m S' m' : AS) : Prop :=
  (sR S' = sR S ∧ sL S' = sL S ∧ ∀ k j, T k ≠ 0 → ¬ RW (T k) j → sI S' k j = sI S k j) ∧ (sR m' = sR m ∧ sL m' = sL m ∧ ∀ p j, ¬ RWm p j → sI m' p j = sI m p j) ∧ cFac S' m' ∧ cWrg S' m' ∧ AU 0 lv n S' m'
section
variable {T : Nat → Nat} {S m : AS}
theorem h_right (hT : TI T S) (hp : PF S) (hmf : MF m) (fac : cFac S m) (wrg : cWrg S m) (nw : cNW S m) {lv : Nat → Int32} {n : Nat} (au : AU 0 lv n S m) (hn : n ≤ 60) (hL : sL m 123 = 1200) {i f : Nat} (i6 : i < 6) (f3 : f < 3) (r v : Int32) :
    H2 (f_K_isAnsweredRight S (some 4) (some (29 + 4 * i)) (Int32.ofNat f) r v) (f_M_answers m (some 57) (Int32.ofNat i) (Int32.ofNat f) r v) (fun x y => ∃ w, (w = 0 ∨ w = 1) ∧ x.1 = w ∧ y.1 = w ∧ RT T lv n S m x.2 y.2) := by
  have k4 := K4F_of hT
  obtain ⟨n0, n1, n2⟩ := nw
  obtain ⟨t29, t30, t31, -⟩ := kt_P hT hp i6
  obtain ⟨t4, t5, t6, t7, -⟩ := kt4 hT
  obtain ⟨q1, q2, q3, -, q5⟩ := hp.1 i i6
  obtain ⟨f1, f2, fb⟩ := (fac i i6).1 f f3
  have fl := (fac i i6).2
  have jx := ix3 i (by omega) f f3
  have tP : ∀ j, j < 6 → T (29 + 4 * j) = 13 ∧ T (30 + 4 * j) = 14 ∧ T (31 + 4 * j) = 15 := fun j hj => by
    obtain ⟨a, b, c, -⟩ := kt_P hT hp hj
    exact ⟨a, b, c⟩
  have nA : ∀ k τ, T k = τ → τ ≠ 2 → τ ≠ 3 → τ ≠ 4 → k ≠ 5 ∧ k ≠ 6 ∧ k ≠ 7 := fun k τ hk h2 h3 h4 => by
    refine ⟨fun z => ?_, fun z => ?_, fun z => ?_⟩ <;> rw [z] at hk
    · rw [t5] at hk
      exact h2 hk.symm
    · rw [t6] at hk
      exact h3 hk.symm
    · rw [t7] at hk
      exact h4 hk.symm
  -- what holds of the states behind the taking: no audit yet
  have noted : ∀ S1 m1, (sR S1 = sR S ∧ sL S1 = sL S ∧ ∀ p j, ¬ (p = 30 + 4 * i ∧ j = f) → ¬ (p = 31 + 4 * i ∧ j = f) → ¬ (p = 29 + 4 * i ∧ j = 3) → sI S1 p j = sI S p j) → (sR m1 = sR m ∧ sL m1 = sL m ∧ ∀ p j, ¬ (p = 58 ∨ p = 59 ∨ p = 60) → sI m1 p j = sI m p j) → cFac S1 m1 →
      ∀ S2 m2, NK S1 S2 (29 + 4 * i) (sI m 57 0) → NM m1 m2 i → RT T lv n S m S2 m2 := fun S1 m1 hS hM hf S2 m2 hk hm => by
    obtain ⟨e1, e2, e3⟩ := hS
    obtain ⟨g1, g2, g3⟩ := hM
    obtain ⟨⟨k1, k2⟩, k3, k5, k6, k7⟩ := hk
    obtain ⟨⟨l1, l2⟩, l3, l5, l6, l7⟩ := hm
    refine ⟨⟨k1.trans e1, k2.trans e2, fun k j h0 q => ?_⟩, ⟨l1.trans g1, l2.trans g2, fun p j q => ?_⟩, ?_, ?_, ?_⟩
    · unfold RW at q
      rw [k7 k j (fun z => q (by rw [z.1, t29]; omega)), e3 k j (fun z => q (by rw [z.1, t30]; omega)) (fun z => q (by rw [z.1, t31]; omega)) (fun z => q (by rw [z.1, t29]; omega))]
    · unfold RWm at q
      rw [l7 p j (by omega), g3 p j (by omega)]
    · exact fac_cong hf (fun j c hj => ⟨k7 _ _ (by omega), k7 _ _ (by omega), k7 _ _ (by omega)⟩) (fun q => ⟨l7 _ _ (by omega), l7 _ _ (by omega), l7 _ _ (by omega)⟩)
    · refine wrg_note wrg n1 n2 i6 k3 (k5.trans (e3 _ _ (by omega) (by omega) (by omega))) (k6.trans (e3 _ _ (by omega) (by omega) (by omega))) (l3.trans (g3 57 0 (by omega))) (l5.trans (g3 _ _ (by omega))) (l6.trans (g3 _ _ (by omega))) (fun j c hj hj6 hc hc2 => ?_) (fun q hq => ?_)
      · rw [k7 _ _ (by omega), e3 _ _ (by omega) (by omega) (by omega)]
      · rw [l7 _ _ (by omega), g3 _ _ (by omega)]
    · refine AU_cong au ?_ (funext fun j => ?_) ?_ (funext fun j => ?_) (funext fun j => ?_) rfl
      · rw [k7 _ _ (by omega), e3 _ _ (by omega) (by omega) (by omega)]
      · have n6 : 29 + 4 * i ≠ 6 := by omega
        rw [k7 _ _ (by omega), e3 _ _ (by omega) (by omega) (by omega)]
      · rw [l7 _ _ (by omega), g3 _ _ (by omega)]
      · rw [l7 _ _ (by omega), g3 _ _ (by omega)]
      · rw [l7 _ _ (by omega), g3 _ _ (by omega)]
  -- the same with the audit's entry: class behind the noting, reference before it
  have audited : ∀ S1 m1, (sR S1 = sR S ∧ sL S1 = sL S ∧ ∀ p j, ¬ (p = 30 + 4 * i ∧ j = f) → ¬ (p = 31 + 4 * i ∧ j = f) → ¬ (p = 29 + 4 * i ∧ j = 3) → sI S1 p j = sI S p j) → (sR m1 = sR m ∧ sL m1 = sL m ∧ ∀ p j, ¬ (p = 58 ∨ p = 59 ∨ p = 60) → sI m1 p j = sI m p j) → cFac S1 m1 →
      ∀ S2 S3 m3 m4, NK S1 S2 (29 + 4 * i) (sI m 57 0) → AWK S2 S3 (Int32.ofNat 4) (Int32.ofNat (3 * i + f)) → AWM m1 m3 (Int32.ofNat 4) (Int32.ofNat (3 * i + f)) → NM m3 m4 i → RT T lv n S m S3 m4 := fun S1 m1 hS hM hf S2 S3 m3 m4 hk a b hm => by
    obtain ⟨e1, e2, e3⟩ := hS
    obtain ⟨g1, g2, g3⟩ := hM
    obtain ⟨⟨k1, k2⟩, k3, k5, k6, k7⟩ := hk
    obtain ⟨⟨l1, l2⟩, l3, l5, l6, l7⟩ := hm
    have a' := a.1.2.2
    have b' := b.1.2.2
    refine ⟨⟨a.1.1.trans (k1.trans e1), a.1.2.1.trans (k2.trans e2), fun k j h0 q => ?_⟩, ⟨l1.trans (b.1.1.trans g1), l2.trans (b.1.2.1.trans g2), fun p j q => ?_⟩, ?_, ?_, ?_⟩
    · unfold RW at q
      rw [a' k j (fun z => q (by rw [z, t5]; omega)) (fun z => q (by rw [z, t6]; omega)) (fun z => q (by rw [z, t7]; omega)), k7 k j (fun z => q (by rw [z.1, t29]; omega)), e3 k j (fun z => q (by rw [z.1, t30]; omega)) (fun z => q (by rw [z.1, t31]; omega)) (fun z => q (by rw [z.1, t29]; omega))]
    · unfold RWm at q
      rw [l7 p j (by omega), b' p j (by omega) (by omega) (by omega) (by omega), g3 p j (by omega)]
    · refine fac_cong hf (fun j c hj => ⟨?_, ?_, ?_⟩) (fun q => ⟨?_, ?_, ?_⟩)
      · rw [a' _ _ (by omega) (by omega) (by omega), k7 _ _ (by omega)]
      · rw [a' _ _ (by omega) (by omega) (by omega), k7 _ _ (by omega)]
      · rw [a' _ _ (by omega) (by omega) (by omega), k7 _ _ (by omega)]
      · rw [l7 _ _ (by omega), b' _ _ (by omega) (by omega) (by omega) (by omega)]
      · rw [l7 _ _ (by omega), b' _ _ (by omega) (by omega) (by omega) (by omega)]
      · rw [l7 _ _ (by omega), b' _ _ (by omega) (by omega) (by omega) (by omega)]
    · refine wrg_note wrg n1 n2 i6 ?_ ?_ ?_ ?_ ?_ ?_ (fun j c hj hj6 hc hc2 => ?_) (fun q hq => ?_)
      · rw [a' _ _ (by omega) (by omega) (by omega), k3]
      · rw [a' _ _ (by omega) (by omega) (by omega), k5, e3 _ _ (by omega) (by omega) (by omega)]
      · rw [a' _ _ (by omega) (by omega) (by omega), k6, e3 _ _ (by omega) (by omega) (by omega)]
      · rw [l3, b' _ _ (by omega) (by omega) (by omega) (by omega), g3 _ _ (by omega)]
      · rw [l5, b' _ _ (by omega) (by omega) (by omega) (by omega), g3 _ _ (by omega)]
      · rw [l6, b' _ _ (by omega) (by omega) (by omega) (by omega), g3 _ _ (by omega)]
      · rw [a' _ _ (by omega) (by omega) (by omega), k7 _ _ (by omega), e3 _ _ (by omega) (by omega) (by omega)]
      · rw [l7 _ _ (by omega), b' _ _ (by omega) (by omega) (by omega) (by omega), g3 _ _ (by omega)]
    · have s2 : AU 0 lv n S2 m1 := by
        refine AU_cong au ?_ (funext fun j => ?_) (g3 _ _ (by omega)) (funext fun j => g3 _ _ (by omega)) (funext fun j => g3 _ _ (by omega)) rfl
        · rw [k7 _ _ (by omega), e3 _ _ (by omega) (by omega) (by omega)]
        · have n6 : 29 + 4 * i ≠ 6 := by omega
          rw [k7 _ _ (by omega), e3 _ _ (by omega) (by omega) (by omega)]
      have s3 := AU_w (lv' := lv) (n' := n) s2 (by rw [g2]; exact hL) hn hn (by decide) (by omega) a b (fun s _ => by omega) (fun s _ => ⟨Or.inl, fun q => q.elim id (fun z => absurd z.1 (by decide))⟩) (fun s h => Or.inl ⟨rfl, h, Or.inl (by omega)⟩)
      exact AU_cong s3 rfl rfl (l7 _ _ (by omega)) (funext fun j => l7 _ _ (by omega)) (funext fun j => l7 _ _ (by omega)) rfl
  have rf0 : RT T lv n S m S m := ⟨⟨rfl, rfl, fun _ _ _ _ => rfl⟩, ⟨rfl, rfl, fun _ _ _ => rfl⟩, fac, wrg, au⟩
  have idS : (sR S = sR S ∧ sL S = sL S ∧ ∀ p j, ¬ (p = 30 + 4 * i ∧ j = f) → ¬ (p = 31 + 4 * i ∧ j = f) → ¬ (p = 29 + 4 * i ∧ j = 3) → sI S p j = sI S p j) := ⟨rfl, rfl, fun _ _ _ _ _ => rfl⟩
  have idM : (sR m = sR m ∧ sL m = sL m ∧ ∀ p j, ¬ (p = 58 ∨ p = 59 ∨ p = 60) → sI m p j = sI m p j) := ⟨rfl, rfl, fun _ _ _ => rfl⟩
  have nowS : ∀ S1, (sR S1 = sR S ∧ sL S1 = sL S ∧ ∀ p j, ¬ (p = 30 + 4 * i ∧ j = f) → ¬ (p = 31 + 4 * i ∧ j = f) → ¬ (p = 29 + 4 * i ∧ j = 3) → sI S1 p j = sI S p j) → sI S1 4 0 = sI m 57 0 := fun S1 h => by rw [h.2.2 _ _ (by omega) (by omega) (by omega)]; exact n0
  -- the class behind a wrong answer, no state lost
  have kC : ∀ S1 σ, (sR S1 = sR S ∧ sL S1 = sL S ∧ ∀ p j, ¬ (p = 30 + 4 * i ∧ j = f) → ¬ (p = 31 + 4 * i ∧ j = f) → ¬ (p = 29 + 4 * i ∧ j = 3) → sI S1 p j = sI S p j) → (σ = 0 ∨ sI S1 (30 + 4 * i) f ≠ 2) → Hp ((gI S1 22 0 (some 4)).bind fun v15 => (kr_rv S1 16 (some (29 + 4 * i))).bind fun u16 => (f_Person_noteWrong S1 (some (29 + 4 * i)) v15).bind fun S17 => f_K_isAnsweredRight_B39 S17 (some 4) (some (29 + 4 * i)) (Int32.ofNat f) σ 0) (fun q => q.1 = 0 ∧ NK S1 q.2 (29 + 4 * i) (sI m 57 0)) := fun S1 σ hS h2 => by
    refine p_of (st_gIe (nowS S1 hS)) (p_of st_rv (p_bd p_noteK (fun S2 nk => ?_)))
    unfold f_K_isAnsweredRight_B39
    refine p_if (fun _ => p_of st_z (p_ret ⟨rfl, nk⟩)) (fun c => p_of st_rv ?_)
    have pf2 : PF S2 := by
      unfold PF
      rw [nk.1.1, hS.1]
      refine ⟨fun j hj => ⟨(hp.1 j hj).1, (hp.1 j hj).2.1, (hp.1 j hj).2.2.1, (hp.1 j hj).2.2.2.1, ?_⟩, hp.2⟩
      rw [nk.2.2.2.2 _ _ (by omega), hS.2.2 _ _ (by omega) (by omega) (by omega)]
      exact (hp.1 j hj).2.2.2.2
    refine p_b2 (p_stateOf pf2 i6 f3) (fun w S3 e => ?_)
    cases e
    refine p_of (st_F (fun q => ?_)) (p_of st_z (p_ret ⟨rfl, nk⟩))
    rw [nk.2.2.2.2 _ _ (by omega)] at q
    exact h2.elim c (fun z => z q)
  -- the class behind a wrong answer, the factor lost
  have kD : ∀ S1, (sR S1 = sR S ∧ sL S1 = sL S ∧ ∀ p j, ¬ (p = 30 + 4 * i ∧ j = f) → ¬ (p = 31 + 4 * i ∧ j = f) → ¬ (p = 29 + 4 * i ∧ j = 3) → sI S1 p j = sI S p j) → sI S1 (30 + 4 * i) f = 2 → Hp ((gI S1 22 0 (some 4)).bind fun v15 => (kr_rv S1 16 (some (29 + 4 * i))).bind fun u16 => (f_Person_noteWrong S1 (some (29 + 4 * i)) v15).bind fun S17 => f_K_isAnsweredRight_B39 S17 (some 4) (some (29 + 4 * i)) (Int32.ofNat f) 1 0) (fun q => q.1 = 0 ∧ ∃ S2, NK S1 S2 (29 + 4 * i) (sI m 57 0) ∧ AWK S2 q.2 (Int32.ofNat 4) (Int32.ofNat (3 * i + f))) := fun S1 hS h2 => by
    refine p_of (st_gIe (nowS S1 hS)) (p_of st_rv (p_bd p_noteK (fun S2 nk => ?_)))
    unfold f_K_isAnsweredRight_B39
    refine p_of (st_F one0) (p_of st_rv ?_)
    have pf2 : PF S2 := by
      unfold PF
      rw [nk.1.1, hS.1]
      refine ⟨fun j hj => ⟨(hp.1 j hj).1, (hp.1 j hj).2.1, (hp.1 j hj).2.2.1, (hp.1 j hj).2.2.2.1, ?_⟩, hp.2⟩
      rw [nk.2.2.2.2 _ _ (by omega), hS.2.2 _ _ (by omega) (by omega) (by omega)]
      exact (hp.1 j hj).2.2.2.2
    refine p_b2 (p_stateOf pf2 i6 f3) (fun w S3 e => ?_)
    cases e
    refine p_of (st_T ?_) ?_
    · rw [nk.2.2.2.2 _ _ (by omega)]
      exact h2
    · have r2 : sR S2 = sR S := nk.1.1.trans hS.1
      refine p_of (st_gRe (v := some 5) (by rw [r2]; exact k4.1 1 5 rfl)) (p_of (st_gIe (pf2.1 i i6).2.2.2.2) (p_of st_gI (p_of st_rv ?_)))
      rw [ix3'' i i6 f f3]
      exact p_bd (p_aw (S := S2) (k := Int32.ofNat 4) (by rw [r2]; exact k4.2.1) (by rw [r2]; exact k4.2.2.1)) (fun S9 a => p_of st_z (p_ret ⟨rfl, S2, nk, a⟩))
  have mS : ∀ m1, (sR m1 = sR m ∧ sL m1 = sL m ∧ ∀ p j, ¬ (p = 58 ∨ p = 59 ∨ p = 60) → sI m1 p j = sI m p j) → Hp (f_M_answers_B112 m1 (some 57) (Int32.ofNat i) (Int32.ofNat f)) (fun q => q.1 = 0 ∧ ∃ m3, AWM (wI m1 58 (3 * i + f) 2) m3 (Int32.ofNat 4) (Int32.ofNat (3 * i + f)) ∧ NM m3 q.2 i) := fun m1 hM => by
    have hm1 := MF_e hmf hM.1
    unfold f_M_answers_B112 f_M_suspend
    refine p_of st_rv (p_bd (P := fun m3 => AWM (wI m1 58 (3 * i + f) 2) m3 (Int32.ofNat 4) (Int32.ofNat (3 * i + f))) ?_ (fun m3 b => ?_))
    · refine p_of (st_gRe (hm1 1 58 rfl)) (p_of (st_bIe jx) (p_of st_rv ?_))
      rw [ix3'' i i6 f f3]
      exact p_bd (p_mw (m := wI m1 58 (3 * i + f) 2) (k := Int32.ofNat 4) (MF_e hm1 rfl)) (fun m4 b => p_ret b)
    · exact p_mono (p_noteM (MF_e hm1 b.1.1) i6) (fun q p => ⟨p.1, m3, b, p.2⟩)
  unfold f_K_isAnsweredRight f_M_answers
  refine l_of st_rv (l_p2 (p_stateOf hp i6 f3) (fun w S2 e => ?_))
  cases e
  refine m_of st_val (m_of (st_gRe (hmf 1 58 rfl)) (m_of (st_aIe (v := sI m 58 (3 * i + f)) jx rfl) ?_))
  by_cases s1 : sI m 58 (3 * i + f) = 1
  · have sS1 : sI S (30 + 4 * i) f = 1 := f1.trans s1
    refine l_of (st_T sS1) (m_of (st_T s1) ?_)
    unfold f_K_isAnsweredRight_B14 f_Person_takes
    obtain ⟨b0, b4⟩ := fb s1
    have e1 : (sI m 59 (3 * i + f) + 1).toInt = (sI m 59 (3 * i + f)).toInt + 1 := by
      rw [Int32.toInt_add, show (1 : Int32).toInt = 1 from by decide]
      exact bm (by omega) (by omega)
    refine l_of st_rv ?_
    -- the factor is lost
    have lost : ∀ S1 m1, (sR S1 = sR S ∧ sL S1 = sL S ∧ ∀ p j, ¬ (p = 30 + 4 * i ∧ j = f) → ¬ (p = 31 + 4 * i ∧ j = f) → ¬ (p = 29 + 4 * i ∧ j = 3) → sI S1 p j = sI S p j) → (sR m1 = sR m ∧ sL m1 = sL m ∧ ∀ p j, ¬ (p = 58 ∨ p = 59 ∨ p = 60) → sI m1 p j = sI m p j) → sI S1 (30 + 4 * i) f = 2 → cFac S1 (wI m1 58 (3 * i + f) 2) →
        H2 ((gI S1 22 0 (some 4)).bind fun v15 => (kr_rv S1 16 (some (29 + 4 * i))).bind fun u16 => (f_Person_noteWrong S1 (some (29 + 4 * i)) v15).bind fun S17 => f_K_isAnsweredRight_B39 S17 (some 4) (some (29 + 4 * i)) (Int32.ofNat f) 1 0) (f_M_answers_B112 m1 (some 57) (Int32.ofNat i) (Int32.ofNat f)) (fun x y => ∃ w, (w = 0 ∨ w = 1) ∧ x.1 = w ∧ y.1 = w ∧ RT T lv n S m x.2 y.2) := fun S1 m1 hS hM h2 hf => fun x y hx hy => by
      obtain ⟨x1, S2, nk, a⟩ := kD S1 hS h2 x hx
      obtain ⟨y1, m3, b, nm⟩ := mS m1 hM y hy
      exact ⟨0, Or.inl rfl, x1, y1, audited S1 (wI m1 58 (3 * i + f) 2) hS ⟨hM.1, hM.2.1, fun p j q => (ti_sI_ne (by omega)).trans (hM.2.2 p j q)⟩ hf S2 _ m3 _ nk a b nm⟩
    by_cases r0 : r = 0
    · -- wrong
      have mB : ∀ y0 : Int32, Le (f_M_answers_B43 m (some 57) (Int32.ofNat i) (Int32.ofNat f) r v ((3 : Int32) * Int32.ofNat i + Int32.ofNat f) y0) (f_M_answers_B77 m (some 57) (Int32.ofNat i) (Int32.ofNat f) r ((3 : Int32) * Int32.ofNat i + Int32.ofNat f) y0) := fun y0 a ha => by
        unfold f_M_answers_B43 at ha
        rw [if_pos r0] at ha
        exact ha
      have body : H2 (kr_b2 (kr_b2 (f_K_isFactor S (Int32.ofNat f)) fun v5 S4 => if v5 = 0 then some ((0 : Int32), S4) else (gR S4 16 1 (some (29 + 4 * i))).bind fun v6 => (aI S4 40 v6 (Int32.ofNat f)).bind fun v7 => if v7 = (1 : Int32) then if r = 0 then (gR S4 16 2 (some (29 + 4 * i))).bind fun v8 => (aI S4 40 v8 (Int32.ofNat f)).bind fun v9 => (bI S4 v8 (Int32.ofNat f) (v9 + (1 : Int32))).bind fun S10 => (gR S10 16 2 (some (29 + 4 * i))).bind fun v11 => (aI S10 40 v11 (Int32.ofNat f)).bind fun v12 => if v12 < (5 : Int32) then some ((0 : Int32), S10) else (gR S10 16 1 (some (29 + 4 * i))).bind fun v13 => (bI S10 v13 (Int32.ofNat f) (2 : Int32)).bind fun S14 => some ((0 : Int32), S14) else if Int32.ofNat f = (2 : Int32) then (gI S4 16 3 (some (29 + 4 * i))).bind fun v15 => if v15 < v then f_Person_takes_B74 S4 (some (29 + 4 * i)) (Int32.ofNat f) v else (gR S4 16 1 (some (29 + 4 * i))).bind fun v16 => (bI S4 v16 (Int32.ofNat f) (2 : Int32)).bind fun S17 => some ((0 : Int32), S17) else f_Person_takes_B74 S4 (some (29 + 4 * i)) (Int32.ofNat f) v else some ((0 : Int32), S4)) fun v14 S13 => if v14 = 0 then (gI S13 22 0 (some 4)).bind fun v15 => (kr_rv S13 16 (some (29 + 4 * i))).bind fun u16 => (f_Person_noteWrong S13 (some (29 + 4 * i)) v15).bind fun S17 => f_K_isAnsweredRight_B39 S17 (some 4) (some (29 + 4 * i)) (Int32.ofNat f) 1 v14 else f_K_isAnsweredRight_B39 S13 (some 4) (some (29 + 4 * i)) (Int32.ofNat f) 1 v14)
          (f_M_answers_B77 m (some 57) (Int32.ofNat i) (Int32.ofNat f) r ((3 : Int32) * Int32.ofNat i + Int32.ofNat f) 0) (fun x y => ∃ w, (w = 0 ∨ w = 1) ∧ x.1 = w ∧ y.1 = w ∧ RT T lv n S m x.2 y.2) := by
        unfold f_M_answers_B77 f_M_answers_B94
        refine m_of (st_gRe (hmf 2 59 rfl)) (m_of (st_aIe (v := sI m 59 (3 * i + f)) jx rfl) (m_of (st_T r0) (m_of (st_bIe jx) (m_of (st_T rfl) ?_))))
        refine m_of (st_gRe (v := some 59) (hmf 2 59 rfl)) (m_of (st_aIe jx (ti_sI_eq _ _ _ _)) ?_)
        have hM : (sR (wI m 59 (3 * i + f) (sI m 59 (3 * i + f) + 1)) = sR m ∧ sL (wI m 59 (3 * i + f) (sI m 59 (3 * i + f) + 1)) = sL m ∧ ∀ p j, ¬ (p = 58 ∨ p = 59 ∨ p = 60) → sI (wI m 59 (3 * i + f) (sI m 59 (3 * i + f) + 1)) p j = sI m p j) := ⟨rfl, rfl, fun p j q => ti_sI_ne (by omega)⟩
        refine l_p2 (P := fun q => q.1 = 0 ∧ ((sI m 59 (3 * i + f) + 1 < 5 ∧ q.2 = wI S (31 + 4 * i) f (sI m 59 (3 * i + f) + 1)) ∨ (¬ sI m 59 (3 * i + f) + 1 < 5 ∧ q.2 = wI (wI S (31 + 4 * i) f (sI m 59 (3 * i + f) + 1)) (30 + 4 * i) f 2))) ?_ (fun w S1 p => ?_)
        · refine p_of (st_b2 (q_Kfac S _)) ?_
          rw [if_pos ((thr_iff _).mpr ⟨f, f3, rfl⟩)]
          refine p_of (st_F one0) (p_of (st_gRe q2) (p_of (st_aIe (oc (by omega)) sS1) (p_of (st_T rfl) (p_of (st_T r0) (p_of (st_gRe q3) (p_of (st_aIe (oc (by omega)) f2) (p_of (st_bIe (oc (by omega))) ?_)))))))
          refine p_of (st_gRe (v := some (31 + 4 * i)) q3) (p_of (st_aIe (oc (by omega)) (ti_sI_eq _ _ _ _)) (p_if (fun c => p_ret ⟨rfl, Or.inl ⟨c, rfl⟩⟩) (fun c => ?_)))
          exact p_of (st_gRe (v := some (30 + 4 * i)) q2) (p_of (st_bIe (oc (by omega))) (p_ret ⟨rfl, Or.inr ⟨c, rfl⟩⟩))
        · obtain ⟨p1, p2⟩ := p
          have p1 : w = 0 := p1
          rw [p1]
          refine l_of (st_T rfl) ?_
          rcases p2 with ⟨c, p2⟩ | ⟨c, p2⟩
          · have p2 : S1 = _ := p2
            have ne5 : ¬ sI m 59 (3 * i + f) + 1 = 5 := fun q => by
              rw [q] at c
              exact absurd c (by decide)
            refine m_of (st_F ne5) ?_
            have hS : (sR S1 = sR S ∧ sL S1 = sL S ∧ ∀ p j, ¬ (p = 30 + 4 * i ∧ j = f) → ¬ (p = 31 + 4 * i ∧ j = f) → ¬ (p = 29 + 4 * i ∧ j = 3) → sI S1 p j = sI S p j) := by
              rw [p2]
              exact ⟨rfl, rfl, fun p j z1 z2 z3 => ti_sI_ne z2⟩
            intro x y hx hy
            obtain ⟨x1, nk⟩ := kC S1 1 hS (Or.inr (by rw [p2, ti_sI_ne (by omega), sS1]; decide)) x hx
            obtain ⟨y1, nm⟩ := p_noteM (MF_e hmf hM.1) i6 y hy
            refine ⟨0, Or.inl rfl, x1, y1, noted S1 _ hS hM ?_ _ _ nk nm⟩
            refine fac_upd fac (i := i) (f := f) ?_ ?_ ?_ (fun _ => ?_) f3 (fun j c z => ⟨?_, ?_⟩) (fun j z => ?_) (fun q z => ⟨ti_sI_ne (by omega), ti_sI_ne (by omega)⟩) (fun j z => ti_sI_ne (by omega))
            · rw [p2, ti_sI_ne (by omega)]
              exact f1.trans (ti_sI_ne (by omega)).symm
            · rw [p2, ti_sI_eq, ti_sI_eq]
            · rw [p2, ti_sI_ne (by omega)]
              exact fl.trans (ti_sI_ne (by omega)).symm
            · rw [ti_sI_eq, e1]
              have := Int32.lt_iff_toInt_lt.mp c
              rw [e1, show (5 : Int32).toInt = 5 from by decide] at this
              omega
            · rw [p2, ti_sI_ne (by omega)]
            · rw [p2, ti_sI_ne (by omega)]
            · rw [p2, ti_sI_ne (by omega)]
          · have p2 : S1 = _ := p2
            have e5 : sI m 59 (3 * i + f) + 1 = 5 := by
              have : ¬ (sI m 59 (3 * i + f) + 1).toInt < (5 : Int32).toInt := fun q => c (Int32.lt_iff_toInt_lt.mpr q)
              rw [e1, show (5 : Int32).toInt = 5 from by decide] at this
              exact Int32.toInt_inj.mp (by rw [e1, show (5 : Int32).toInt = 5 from by decide]; omega)
            refine m_of (st_T e5) ?_
            have hS : (sR S1 = sR S ∧ sL S1 = sL S ∧ ∀ p j, ¬ (p = 30 + 4 * i ∧ j = f) → ¬ (p = 31 + 4 * i ∧ j = f) → ¬ (p = 29 + 4 * i ∧ j = 3) → sI S1 p j = sI S p j) := by
              rw [p2]
              exact ⟨rfl, rfl, fun p j z1 z2 z3 => (ti_sI_ne z1).trans (ti_sI_ne z2)⟩
            refine lost S1 _ hS hM (by rw [p2, ti_sI_eq]) ?_
            refine fac_upd fac (i := i) (f := f) ?_ ?_ ?_ (fun z => ?_) f3 (fun j c z => ⟨?_, ?_⟩) (fun j z => ?_) (fun q z => ⟨(ti_sI_ne (by omega)).trans (ti_sI_ne (by omega)), (ti_sI_ne (by omega)).trans (ti_sI_ne (by omega))⟩) (fun j z => (ti_sI_ne (by omega)).trans (ti_sI_ne (by omega)))
            · rw [p2]
              exact (ti_sI_eq _ _ _ _).trans (ti_sI_eq _ _ _ _).symm
            · rw [p2]
              exact ((ti_sI_ne (by omega)).trans (ti_sI_eq _ _ _ _)).trans ((ti_sI_ne (by omega)).trans (ti_sI_eq _ _ _ _)).symm
            · rw [p2]
              exact ((ti_sI_ne (by omega)).trans (ti_sI_ne (by omega))).trans (fl.trans ((ti_sI_ne (by omega)).trans (ti_sI_ne (by omega))).symm)
            · rw [ti_sI_eq] at z
              exact absurd z (by decide)
            · rw [p2]
              exact (ti_sI_ne (by omega)).trans (ti_sI_ne (by omega))
            · rw [p2]
              exact (ti_sI_ne (by omega)).trans (ti_sI_ne (by omega))
            · rw [p2]
              exact (ti_sI_ne (by omega)).trans (ti_sI_ne (by omega))
      unfold f_M_answers_B42
      by_cases c2 : Int32.ofNat f = 2
      · exact m_of (st_T c2) (m_of (st_T r0) (m_of (mB 0) body))
      · exact m_of (st_F c2) (m_of (mB 0) body)
    · -- right
      refine l_p2 (P := fun q => (q.1 = 1 ∧ (Int32.ofNat f = 2 → sI m 60 i < v) ∧ q.2 = if f = 2 then wI (wI S (31 + 4 * i) f 0) (29 + 4 * i) 3 v else wI S (31 + 4 * i) f 0) ∨ (q.1 = 0 ∧ Int32.ofNat f = 2 ∧ ¬ sI m 60 i < v ∧ q.2 = wI S (30 + 4 * i) f 2)) ?_ (fun w S1 p => ?_)
      · have b74 : (Int32.ofNat f = 2 → sI m 60 i < v) → Hp (f_Person_takes_B74 S (some (29 + 4 * i)) (Int32.ofNat f) v) (fun q => (q.1 = 1 ∧ (Int32.ofNat f = 2 → sI m 60 i < v) ∧ q.2 = if f = 2 then wI (wI S (31 + 4 * i) f 0) (29 + 4 * i) 3 v else wI S (31 + 4 * i) f 0) ∨ (q.1 = 0 ∧ Int32.ofNat f = 2 ∧ ¬ sI m 60 i < v ∧ q.2 = wI S (30 + 4 * i) f 2)) := fun lt => by
          unfold f_Person_takes_B74
          refine p_of (st_gRe q3) (p_of (st_bIe (oc (by omega))) ?_)
          by_cases c : f = 2
          · refine p_of (st_T (by rw [c]; rfl)) (p_of st_pI (p_ret (Or.inl ⟨rfl, lt, ?_⟩)))
            rw [if_pos c]
          · refine p_of (st_F (fun q => c (oinj (by omega) (by decide) (q.trans (show (2 : Int32) = Int32.ofNat 2 from rfl))))) (p_ret (Or.inl ⟨rfl, lt, ?_⟩))
            rw [if_neg c]
        refine p_of (st_b2 (q_Kfac S _)) ?_
        rw [if_pos ((thr_iff _).mpr ⟨f, f3, rfl⟩)]
        refine p_of (st_F one0) (p_of (st_gRe q2) (p_of (st_aIe (oc (by omega)) sS1) (p_of (st_T rfl) (p_of (st_F r0) (p_if (fun c => ?_) (fun c => b74 (fun q => absurd q c)))))))
        refine p_of (st_gIe fl) (p_if (fun c2 => b74 (fun _ => c2)) (fun c2 => ?_))
        exact p_of (st_gRe q2) (p_of (st_bIe (oc (by omega))) (p_ret (Or.inr ⟨rfl, c, c2, rfl⟩)))
      · have p : (w = 1 ∧ (Int32.ofNat f = 2 → sI m 60 i < v) ∧ S1 = if f = 2 then wI (wI S (31 + 4 * i) f 0) (29 + 4 * i) 3 v else wI S (31 + 4 * i) f 0) ∨ (w = 0 ∧ Int32.ofNat f = 2 ∧ ¬ sI m 60 i < v ∧ S1 = wI S (30 + 4 * i) f 2) := p
        rcases p with ⟨p1, lt, p2⟩ | ⟨p1, c, nlt, p2⟩
        · -- taken
          rw [p1]
          refine l_of (st_F one0) ?_
          unfold f_K_isAnsweredRight_B39
          refine l_of (st_F one0) (l_of st_rv ?_)
          have pf1 : PF S1 := by
            have rr : sR S1 = sR S := by
              rw [p2]
              by_cases c : f = 2
              · rw [if_pos c]
                rfl
              · rw [if_neg c]
                rfl
            unfold PF
            rw [rr]
            refine ⟨fun j hj => ⟨(hp.1 j hj).1, (hp.1 j hj).2.1, (hp.1 j hj).2.2.1, (hp.1 j hj).2.2.2.1, ?_⟩, hp.2⟩
            rw [← (hp.1 j hj).2.2.2.2, p2]
            by_cases c : f = 2
            · rw [if_pos c, ti_sI_ne (by omega), ti_sI_ne (by omega)]
            · rw [if_neg c, ti_sI_ne (by omega)]
          have s30 : sI S1 (30 + 4 * i) f = 1 := by
            rw [p2, ← sS1]
            by_cases c : f = 2
            · rw [if_pos c, ti_sI_ne (by omega), ti_sI_ne (by omega)]
            · rw [if_neg c, ti_sI_ne (by omega)]
          refine l_p2 (p_stateOf pf1 i6 f3) (fun w' S2 e => ?_)
          cases e
          rw [s30]
          refine l_of (st_F (by decide)) (l_of st_z ?_)
          have ret : H2 (some ((1 : Int32), S1)) (f_M_answers_B43 m (some 57) (Int32.ofNat i) (Int32.ofNat f) r v ((3 : Int32) * Int32.ofNat i + Int32.ofNat f) 0) (fun x y => ∃ w, (w = 0 ∨ w = 1) ∧ x.1 = w ∧ y.1 = w ∧ RT T lv n S m x.2 y.2) := by
            unfold f_M_answers_B43
            refine m_of (st_F r0) (m_of (st_T rfl) (m_of (st_gRe (hmf 2 59 rfl)) (m_of (st_bIe jx) ?_)))
            by_cases c : f = 2
            · refine m_of (st_T (by rw [c]; rfl)) (m_of (st_gRe (v := some 60) (hmf 3 60 rfl)) (m_of (st_bIe (oc (by omega))) ?_))
              rw [if_pos c] at p2
              subst p2
              refine h2_ret ⟨1, Or.inr rfl, rfl, rfl, ⟨rfl, rfl, fun k j h0 q => ?_⟩, ⟨rfl, rfl, fun p j q => ?_⟩, ?_, ?_, ?_⟩
              · unfold RW at q
                show sI (wI (wI S (31 + 4 * i) f 0) (29 + 4 * i) 3 v) k j = _
                rw [ti_sI_ne (fun z => q (by rw [z.1, t29]; omega)), ti_sI_ne (fun z => q (by rw [z.1, t31]; omega))]
              · unfold RWm at q
                show sI (wI (wI m 59 (3 * i + f) 0) 60 i v) p j = _
                rw [ti_sI_ne (by omega), ti_sI_ne (by omega)]
              · refine fac_upd fac (i := i) (f := f) ?_ ?_ ?_ (fun _ => ?_) f3 (fun j c z => ⟨(ti_sI_ne (by omega)).trans (ti_sI_ne (by omega)), (ti_sI_ne (by omega)).trans (ti_sI_ne (by omega))⟩) (fun j z => (ti_sI_ne (by omega)).trans (ti_sI_ne (by omega))) (fun q z => ⟨(ti_sI_ne (by omega)).trans (ti_sI_ne (by omega)), (ti_sI_ne (by omega)).trans (ti_sI_ne (by omega))⟩) (fun j z => (ti_sI_ne (by omega)).trans (ti_sI_ne (by omega)))
                · exact ((ti_sI_ne (by omega)).trans (ti_sI_ne (by omega))).trans (f1.trans ((ti_sI_ne (by omega)).trans (ti_sI_ne (by omega))).symm)
                · exact ((ti_sI_ne (by omega)).trans (ti_sI_eq _ _ _ _)).trans ((ti_sI_ne (by omega)).trans (ti_sI_eq _ _ _ _)).symm
                · exact (ti_sI_eq _ _ _ _).trans (ti_sI_eq _ _ _ _).symm
                · show 0 ≤ (sI (wI (wI m 59 (3 * i + f) 0) 60 i v) 59 (3 * i + f)).toInt ∧ (sI (wI (wI m 59 (3 * i + f) 0) 60 i v) 59 (3 * i + f)).toInt ≤ 4
                  rw [ti_sI_ne (by omega), ti_sI_eq]
                  decide
              · exact wrg_cong wrg (fun j c hj h4 h6 => (ti_sI_ne (by omega)).trans (ti_sI_ne (by omega))) (fun q => (ti_sI_ne (by omega)).trans (ti_sI_ne (by omega)))
              · exact AU_cong au ((ti_sI_ne (by omega)).trans (ti_sI_ne (by omega))) (funext fun j => (ti_sI_ne (by omega)).trans (ti_sI_ne (by omega))) ((ti_sI_ne (by omega)).trans (ti_sI_ne (by omega))) (funext fun j => (ti_sI_ne (by omega)).trans (ti_sI_ne (by omega))) (funext fun j => (ti_sI_ne (by omega)).trans (ti_sI_ne (by omega))) rfl
            · refine m_of (st_F (fun q => c (oinj (by omega) (by decide) (q.trans (show (2 : Int32) = Int32.ofNat 2 from rfl))))) ?_
              rw [if_neg c] at p2
              subst p2
              refine h2_ret ⟨1, Or.inr rfl, rfl, rfl, ⟨rfl, rfl, fun k j h0 q => ?_⟩, ⟨rfl, rfl, fun p j q => ?_⟩, ?_, ?_, ?_⟩
              · unfold RW at q
                show sI (wI S (31 + 4 * i) f 0) k j = _
                rw [ti_sI_ne (fun z => q (by rw [z.1, t31]; omega))]
              · unfold RWm at q
                show sI (wI m 59 (3 * i + f) 0) p j = _
                rw [ti_sI_ne (by omega)]
              · refine fac_upd fac (i := i) (f := f) ?_ ?_ ?_ (fun _ => ?_) f3 (fun j c z => ⟨ti_sI_ne (by omega), ti_sI_ne (by omega)⟩) (fun j z => ti_sI_ne (by omega)) (fun q z => ⟨ti_sI_ne (by omega), ti_sI_ne (by omega)⟩) (fun j z => ti_sI_ne (by omega))
                · exact (ti_sI_ne (by omega)).trans (f1.trans (ti_sI_ne (by omega)).symm)
                · exact (ti_sI_eq _ _ _ _).trans (ti_sI_eq _ _ _ _).symm
                · exact (ti_sI_ne (by omega)).trans (fl.trans (ti_sI_ne (by omega)).symm)
                · show 0 ≤ (sI (wI m 59 (3 * i + f) 0) 59 (3 * i + f)).toInt ∧ (sI (wI m 59 (3 * i + f) 0) 59 (3 * i + f)).toInt ≤ 4
                  rw [ti_sI_eq]
                  decide
              · exact wrg_cong wrg (fun j c hj h4 h6 => ti_sI_ne (by omega)) (fun q => ti_sI_ne (by omega))
              · exact AU_cong au (ti_sI_ne (by omega)) (funext fun j => ti_sI_ne (by omega)) (ti_sI_ne (by omega)) (funext fun j => ti_sI_ne (by omega)) (funext fun j => ti_sI_ne (by omega)) rfl
          unfold f_M_answers_B42
          by_cases c2 : Int32.ofNat f = 2
          · exact m_of (st_T c2) (m_of (st_F r0) (m_of (st_gRe (hmf 3 60 rfl)) (m_of (st_aIe (v := sI m 60 i) (oc (by omega)) rfl) (m_of (st_T (lt c2)) ret))))
          · exact m_of (st_F c2) ret
        · -- a code used before
          rw [p1]
          refine l_of (st_T rfl) ?_
          refine m_of (st_T c) (m_of (st_F r0) (m_of (st_gRe (hmf 3 60 rfl)) (m_of (st_aIe (v := sI m 60 i) (oc (by omega)) rfl) (m_of (st_F nlt) ?_))))
          unfold f_M_answers_B43 f_M_answers_B77 f_M_answers_B94
          refine m_of (st_F r0) (m_of (st_F one0) (m_of (st_gRe (hmf 2 59 rfl)) (m_of (st_aIe (v := sI m 59 (3 * i + f)) jx rfl) (m_of (st_F r0) (m_of (st_bIe jx) (m_of (st_F one0) ?_))))))
          rw [Int32.add_zero]
          subst p2
          refine lost _ (wI m 59 (3 * i + f) (sI m 59 (3 * i + f))) ⟨rfl, rfl, fun p j z1 z2 z3 => ti_sI_ne z1⟩ ⟨rfl, rfl, fun p j q => ti_sI_ne (by omega)⟩ (ti_sI_eq _ _ _ _) ?_
          refine fac_upd fac (i := i) (f := f) ?_ ?_ ?_ (fun z => ?_) f3 (fun j c z => ⟨ti_sI_ne (by omega), ti_sI_ne (by omega)⟩) (fun j z => ti_sI_ne (by omega)) (fun q z => ⟨(ti_sI_ne (by omega)).trans (ti_sI_ne (by omega)), (ti_sI_ne (by omega)).trans (ti_sI_ne (by omega))⟩) (fun j z => (ti_sI_ne (by omega)).trans (ti_sI_ne (by omega)))
          · exact (ti_sI_eq _ _ _ _).trans (ti_sI_eq _ _ _ _).symm
          · exact (ti_sI_ne (by omega)).trans (f2.trans ((ti_sI_ne (by omega)).trans (ti_sI_eq _ _ _ _)).symm)
          · exact (ti_sI_ne (by omega)).trans (fl.trans ((ti_sI_ne (by omega)).trans (ti_sI_ne (by omega))).symm)
          · rw [ti_sI_eq] at z
            exact absurd z (by decide)
  · have sS1 : ¬ sI S (30 + 4 * i) f = 1 := fun q => s1 (f1.symm.trans q)
    refine l_of (st_F sS1) (m_of (st_F s1) ?_)
    unfold f_K_isAnsweredRight_B14
    refine l_of st_rv (l_p2 (P := fun q => q = (0, S)) ?_ (fun w S1 e => ?_))
    · unfold f_Person_takes
      refine p_of (st_b2 (q_Kfac S _)) ?_
      rw [if_pos ((thr_iff _).mpr ⟨f, f3, rfl⟩)]
      exact p_of (st_F one0) (p_of (st_gRe q2) (p_of (st_aIe (v := sI S (30 + 4 * i) f) (oc (by omega)) rfl) (p_of (st_F sS1) (p_ret rfl))))
    · cases e
      refine l_of (st_T rfl) ?_
      intro x y hx hy
      obtain ⟨x1, nk⟩ := kC S 0 idS (Or.inl rfl) x hx
      obtain ⟨y1, nm⟩ := p_noteM hmf i6 y hy
      exact ⟨0, Or.inl rfl, x1, y1, noted S m idS idM fac _ _ nk nm⟩
end
end
section
/-! ===== step up ===== -/
theorem p_mayA {m : AS} {a b c : Int32} : Hp (f_M_mayAll m (some 57) a b c) (fun q => q = if a = 0 then (0, wI m 57 82 1) else if b = 0 then (0, wI m 57 82 2) else if c = 0 then (0, wI m 57 82 3) else (1, wI m 57 82 0)) := by
  unfold f_M_mayAll
  have go : ∀ v : Int32, Hp (f_M_mayAll_B26 m (some 57) (some 57) v) (fun q => q = (if v = 0 then 1 else 0, wI m 57 82 v)) := fun v => by
    unfold f_M_mayAll_B26
    refine p_of st_pI (p_of (st_gIe (ti_sI_eq _ _ _ _)) (p_if (fun c => p_ret ?_) (fun c => p_ret ?_)))
    · rw [if_pos c]
    · rw [if_neg c]
  refine p_if (fun c1 => ?_) (fun c1 => p_if (fun c2 => ?_) (fun c2 => p_if (fun c3 => ?_) (fun c3 => ?_)))
  · rw [if_pos c1]; exact go 1
  · rw [if_neg c1, if_pos c2]; exact go 2
  · rw [if_neg c1, if_neg c2, if_pos c3]; exact go 3
  · rw [if_neg c1, if_neg c2, if_neg c3]; exact go 0
section
variable {T Tm : Nat → Nat} {S m : AS}
theorem h_levelAt3 (h : FR S m) {S' m' : AS} (rs : sR S' = sR S) (ws : cWgt S' m') (hmf : MF m') {s : Nat} (hs : s < nS m) (hr : ∀ f, f < 3 → sI S' (mn S (lel S 19 s) 3) f = sI m' 90 (3 * s + f) ∧ mok (sI m' 90 (3 * s + f))) (e0 : sI m' 57 0 = sI m 57 0) : H2 (f_Session_levelAt S' (some (lel S 19 s)) (sI m 57 0)) (f_M_levelNow m' (some 57) (Int32.ofNat s)) (fun a b => ∃ w, w < 8 ∧ a = (lv8 w, S') ∧ b = (lv8 w, m')) := by
  have z := h.Ses.1.1
  obtain ⟨x, ex⟩ := (h.Ses.2 s hs).2.2.2.1
  unfold f_Session_levelAt f_Shown_levelSince f_M_levelNow
  refine l_of (st_gRe (v := some x) (by rw [rs]; exact ex)) (l_of st_rv (l_b2 (fun v S2 e1 => ?_)))
  have key : H2 (f_Shown_levelSince_L4 kr_FU S' (some x) (sI m 57 0 - 120) 0 0) (f_M_levelNow_L4 kr_FU m' (some 57) (Int32.ofNat s) 0 0) (fun a b => ∃ w, w < 8 ∧ a = (lv8 w, S') ∧ b = (lv8 w, m')) := by
    cases c : sR S' x 0 with
    | none =>
      show H2 (f_Shown_levelSince_C4 (f_Shown_levelSince_L4 1999) S' (some x) (sI m 57 0 - 120) 0 0) _ _
      unfold f_Shown_levelSince_C4
      refine l_of (st_F (by decide)) (l_of (st_gRe c) (fun a b ha hb => nomatch ha))
    | some p =>
      have ep : mn S (lel S 19 s) 3 = p := by
        unfold mn
        rw [ex]
        show (sR S x 0).getD 0 = p
        rw [← rs, c]
        rfl
      have z8 : lv8 0 = 0 := by decide +kernel
      have q := h_lvl_L (S := S') (p := p) (m := m') (s := s) ws hmf c (by unfold nS at hs; omega) e0 h.NW.2.1 h.NW.2.2 (fun f hf => by
        rw [← ep]
        exact hr f hf) 3 0 kr_FU kr_FU 0 rfl (by decide)
      rw [z8] at q
      exact q
  exact fun a b ha hb => by
    obtain ⟨w, w1, w2, w3⟩ := key _ _ e1 hb
    cases ha
    cases w2
    exact ⟨w, w1, rfl, w3⟩
def P_up (S m : AS) : Prop := cFac S m ∧ cWrg S m ∧ cAsh S m ∧ cUsd S m ∧ cSsh S m ∧ cAU S m
theorem FR_up (h : FR S m) : P_up S m := ⟨h.Fac, h.Wrg, h.Ash, h.Usd, h.Ssh, h.AU⟩
/-- a minute is shown -/
theorem p_show {S1 : AS} {x p f : Nat} {now : Int32} (hx : sR S1 x 0 = some p) (hf : f < 3) : Hp (f_Shown_show S1 (some x) (Int32.ofNat f) now) (fun S' => S' = wI S1 p f now) := by
  unfold f_Shown_show
  refine p_of (st_b2 (q_Kfac S1 _)) ?_
  rw [if_pos ((thr_iff _).mpr ⟨f, hf, rfl⟩)]
  exact p_of (st_F one0) (p_of (st_gRe hx) (p_of (st_bIe (oc (by omega))) (p_ret rfl)))
/-- the end of a stepping up -/
theorem up_fin (hT : TV T S) (hm : TI Tm m) (h : FR S m) {s : Nat} (s1 : s < nS m) {S' m' : AS} (rS : sR S' = sR S) (rm : sR m' = sR m) (hf : cFac S' m') (hw : cWrg S' m') (ha : AU 0 (sI m 89) (nS m) S' m')
    (e1 : sI S' 4 0 = sI S 4 0 ∧ sI S' 1 = sI S 1) (e2 : sI S' (lel S 19 s) 5 = sI m' 87 s) (e3 : ∀ q, q < nS m → q ≠ s → sI S' (lel S 19 q) 5 = sI S (lel S 19 q) 5 ∧ sI m' 87 q = sI m 87 q)
    (e4 : ∀ f, f < 3 → sI S' (mn S (lel S 19 s) 3) f = sI m' 90 (3 * s + f) ∧ mok (sI m' 90 (3 * s + f))) (e5 : ∀ k j, T k = 48 → k ≠ mn S (lel S 19 s) 3 → sI S' k j = sI S k j) (e6 : ∀ q, ¬ (3 * s ≤ q ∧ q < 3 * s + 3) → sI m' 90 q = sI m 90 q)
    (e7 : ∀ p j, (p = 84 ∨ p = 89 ∨ (p = 57 ∧ (j = 0 ∨ j = 19 ∨ j = 30))) → sI m' p j = sI m p j) (e8 : sI m' 57 82 = 0) :
    H2 (f_K_stepUp_B96 S' (some 4) (some (lel S 19 s))) (f_M_stepUp_B112 m' (some 57) (Int32.ofNat s)) (fun x y => AN [eX, eA, eS] x.1 y.1 (sI y.2 57 82) ∧ P_up x.2 y.2) := by
  have b := FR_BB hT hm h
  unfold f_K_stepUp_B96 f_M_stepUp_B112
  refine l_of (st_gIe (v := sI m 57 0) (e1.1.trans h.NW.1)) (l_of st_rv (m_of st_rv ?_))
  refine h2_22 (h_levelAt3 h rS ⟨by rw [e1.2]; exact h.Wgt.1, by rw [e1.2]; exact h.Wgt.2.1, by rw [e1.2]; exact h.Wgt.2.2⟩ (MF_e (MF_of hm) rm) s1 e4 (e7 57 0 (by omega))) (fun v S2 u m2 q => ?_)
  obtain ⟨w, w8, q1, q2⟩ := q
  cases q1
  cases q2
  have el : ∀ l k, lel S' l k = lel S l k := fun l k => by
    unfold lel
    rw [rS]
  have em : ∀ p j, mn S' p j = mn S p j := fun p j => by
    unfold mn
    rw [rS]
  have eN : nS m' = nS m := by
    unfold nS
    rw [e7 57 30 (by omega)]
  have eA' : uA m' = uA m := by
    unfold uA
    rw [e7 57 19 (by omega)]
  have e89 : sI m' 89 = sI m 89 := funext fun j => e7 89 j (by omega)
  refine h2_ret ⟨AN_v e8, hf, hw, fun a ha' f f3 => ?_, fun q hq => ?_, fun q hq f f3 => ?_, ?_⟩
  · rw [eA'] at ha'
    show sI S' (mn S' (lel S' 18 a) 4) f = sI m' 84 (3 * a + f) ∧ mok (sI m' 84 (3 * a + f))
    obtain ⟨x, -, -, -, tx⟩ := tyM (j := 4) hT.1 (tyA b ha') rfl
    rw [el, em, e7 84 _ (by omega), e5 _ f tx (h.Min.2.2 a s ha' s1)]
    exact h.Ash a ha' f f3
  · rw [eN] at hq
    show sI S' (lel S' 19 q) 5 = sI m' 87 q
    rw [el]
    by_cases c : q = s
    · subst c
      exact e2
    · rw [(e3 q hq c).1, (e3 q hq c).2]
      exact h.Usd q hq
  · rw [eN] at hq
    show sI S' (mn S' (lel S' 19 q) 3) f = sI m' 90 (3 * q + f) ∧ mok (sI m' 90 (3 * q + f))
    rw [el, em]
    by_cases c : q = s
    · subst c
      exact e4 f f3
    · obtain ⟨x, -, -, -, tx⟩ := tyM (j := 3) hT.1 (tyS b hq) rfl
      rw [e6 _ (by omega), e5 _ f tx (fun z => c (h.Min.2.1 q s hq s1 z))]
      exact h.Ssh q hq f f3
  · unfold cAU
    rw [e89, eN]
    exact ha
theorem up_go (hT : TV T S) (hm : TI Tm m) (h : FR S m) {s f : Nat} (s1 : s < nS m) (f3 : f < 3) (r v : Int32) : H2 (f_K_stepUp_B55 S (some 4) (Int32.ofNat f) r v (some (lel S 19 s)) 1) (f_M_stepUp_B63 m (some 57) (Int32.ofNat s) (Int32.ofNat f) r v (some 57) 1 1 1) (fun x y => AN [eX, eA, eS] x.1 y.1 (sI y.2 57 82) ∧ P_up x.2 y.2) := by
  have b := FR_BB hT hm h
  have hmf0 := MF_of (TI_t hm 0)
  obtain ⟨n0, n1, n2⟩ := h.NW
  have z60 := h.Ses.1.1
  have s60 : s < 60 := by
    unfold nS at s1
    omega
  have n60 : nS m ≤ 60 := z60
  obtain ⟨-, ⟨p, p6, q1, q2⟩, -, ⟨x, qx⟩, -⟩ := h.Ses.2 s s1
  have ts := tyS b s1
  obtain ⟨x', x1, x2, x3, x4⟩ := tyM (j := 3) hT.1 ts rfl
  rw [qx] at x1
  cases x1
  obtain ⟨t4, t5, t6, t7, -⟩ := kt4 hT.1
  unfold f_K_stepUp_B55 f_M_stepUp_B63
  refine l_of (st_bx (rS1 S)) (l_of (st_gIe n0) (l_of st_pI (l_of (st_gRe (v := some (29 + 4 * p)) q1) (l_of st_rv ?_))))
  refine m_of st_rv (m_p2 p_mayA (fun w m' e => ?_))
  cases e
  refine m_of (st_F one0) (m_of (st_gRe (hmf0 33 87 rfl)) (m_of (st_gIe (v := sI m 57 0) (lv0 m (by omega) 0)) (m_of (st_bIe (oc (by omega))) ?_)))
  refine m_of (st_gRe (v := some 85) (hmf0 31 85 rfl)) (m_of (st_aIe (v := Int32.ofNat p) (oc (by omega)) ((ti_sI_ne (by omega)).trans ((lv0 m (by omega) 0).trans q2))) (m_of st_rv ?_))
  have lv : ∀ {p j : Nat}, ¬ (p = 57 ∧ j = 82) → ¬ (p = 87 ∧ j = s) → sI (wI (wI m 57 82 0) 87 s (sI m 57 0)) p j = sI m p j := fun a1 a2 => (ti_sI_ne a2).trans (lv0 m a1 0)
  have nP : ∀ {k τ : Nat}, T k = τ → τ ≠ 43 → k ≠ lel S 19 s := fun hk ht q => by
    rw [q, ts] at hk
    exact ht hk.symm
  have tP : ∀ j, j < 6 → T (29 + 4 * j) = 13 ∧ T (30 + 4 * j) = 14 ∧ T (31 + 4 * j) = 15 := fun j hj => by
    obtain ⟨a, b, c, -⟩ := kt_P hT.1 h.PF hj
    exact ⟨a, b, c⟩
  have nPj : ∀ j, j < 6 → 29 + 4 * j ≠ lel S 19 s ∧ 30 + 4 * j ≠ lel S 19 s ∧ 31 + 4 * j ≠ lel S 19 s := fun j hj => ⟨nP (tP j hj).1 (by decide), nP (tP j hj).2.1 (by decide), nP (tP j hj).2.2 (by decide)⟩
  have n4 := nP t4 (by decide)
  have n5 := nP t5 (by decide)
  have n6 := nP t6 (by decide)
  have T8 : TI T (wI S (lel S 19 s) 5 (sI m 57 0)) := TIwI hT.1 ts (fun lo hi e => by cases e) (fun n lo hi e => by cases e) (by omega)
  have F8 : cFac (wI S (lel S 19 s) 5 (sI m 57 0)) (wI (wI m 57 82 0) 87 s (sI m 57 0)) := fac_cong h.Fac (fun j c hj => by
    obtain ⟨a1, a2, a3⟩ := nPj j hj
    exact ⟨ti_sI_ne (by omega), ti_sI_ne (by omega), ti_sI_ne (by omega)⟩) (fun q => ⟨lv (by omega) (by omega), lv (by omega) (by omega), lv (by omega) (by omega)⟩)
  have W8 : cWrg (wI S (lel S 19 s) 5 (sI m 57 0)) (wI (wI m 57 82 0) 87 s (sI m 57 0)) := wrg_cong h.Wrg (fun j c hj _ _ => by
    obtain ⟨a1, a2, a3⟩ := nPj j hj
    exact ti_sI_ne (by omega)) (fun q => lv (by omega) (by omega))
  have N8 : cNW (wI S (lel S 19 s) 5 (sI m 57 0)) (wI (wI m 57 82 0) 87 s (sI m 57 0)) := by
    unfold cNW
    rw [lv (by omega) (by omega)]
    exact ⟨(ti_sI_ne (by omega)).trans n0, n1, n2⟩
  have A8 : AU 0 (sI m 89) (nS m) (wI S (lel S 19 s) 5 (sI m 57 0)) (wI (wI m 57 82 0) 87 s (sI m 57 0)) := AU_cong h.AU (ti_sI_ne (by omega)) (funext fun j => ti_sI_ne (by omega)) (lv (by omega) (by omega)) (funext fun j => lv (by omega) (by omega)) (funext fun j => lv (by omega) (by omega)) rfl
  have P8 : PF (wI S (lel S 19 s) 5 (sI m 57 0)) := by
    refine ⟨fun j hj => ⟨(h.PF.1 j hj).1, (h.PF.1 j hj).2.1, (h.PF.1 j hj).2.2.1, (h.PF.1 j hj).2.2.2.1, ?_⟩, h.PF.2⟩
    rw [ti_sI_ne (by omega)]
    exact (h.PF.1 j hj).2.2.2.2
  have L8 : sL (wI (wI m 57 82 0) 87 s (sI m 57 0)) 123 = 1200 := (ST_of hT hm h).2.2.2.1.2.2.2.2.2.2.2.2
  have M8 : MF (wI (wI m 57 82 0) 87 s (sI m 57 0)) := MF_e hmf0 rfl
  refine h2_22 (h_right T8 P8 M8 F8 W8 N8 A8 n60 L8 p6 f3 r v) (fun w S11 u m13 q => ?_)
  obtain ⟨y, y01, e1, e2, ⟨⟨k1, k2, k3⟩, ⟨l1, l2, l3⟩, g1, g2, g3⟩⟩ := q
  have e1 : w = y := e1
  have e2 : u = y := e2
  have k1 : sR S11 = sR S := k1
  have l1 : sR m13 = sR m := l1
  have g1 : cFac S11 m13 := g1
  have g2 : cWrg S11 m13 := g2
  have g3 : AU 0 (sI m 89) (nS m) S11 m13 := g3
  rw [e1, e2]
  have oK : ∀ {k τ : Nat} (j : Nat), T k = τ → τ ≠ 0 → ¬ RW τ j → k ≠ lel S 19 s → sI S11 k j = sI S k j := fun j hk h0 hw hn => by
    rw [k3 _ j (by rw [hk]; exact h0) (by rw [hk]; exact hw)]
    exact ti_sI_ne (by omega)
  have oM : ∀ {p j : Nat}, ¬ RWm p j → ¬ (p = 57 ∧ j = 82) → ¬ (p = 87 ∧ j = s) → sI m13 p j = sI m p j := fun hw a1 a2 => (l3 _ _ hw).trans (lv a1 a2)
  have r0 : ∀ τ j, τ = 1 ∨ τ = 43 ∨ τ = 48 ∨ τ = 52 → ¬ RW τ j := fun τ j hτ q => by
    unfold RW at q
    omega
  have rm0 : ∀ p j, (p = 84 ∨ p = 87 ∨ p = 89 ∨ p = 90 ∨ (p = 57 ∧ j < 77) ∨ (p = 57 ∧ j = 82)) → ¬ RWm p j := fun p j hp q => by
    unfold RWm at q
    omega
  have u5 : sI S11 (lel S 19 s) 5 = sI m 57 0 := by
    rw [k3 _ 5 (by rw [ts]; decide) (by rw [ts]; exact r0 43 5 (by omega)), ti_sI_eq]
  have u87 : sI m13 87 s = sI m 57 0 := by rw [l3 87 s (rm0 _ _ (by omega)), ti_sI_eq]
  have u82 : sI m13 57 82 = 0 := by
    rw [l3 57 82 (rm0 _ _ (by omega)), ti_sI_ne (by omega)]
    exact ti_sI_eq _ _ _ _
  have oth : ∀ q, q < nS m → q ≠ s → sI S11 (lel S 19 q) 5 = sI S (lel S 19 q) 5 ∧ sI m13 87 q = sI m 87 q := fun q hq c => ⟨oK 5 (tyS b hq) (by decide) (r0 _ _ (by omega)) (fun z => c (ses_inj h hq s1 z)), oM (rm0 _ _ (by omega)) (by omega) (by omega)⟩
  have min0 : ∀ k j, T k = 48 → sI S11 k j = sI S k j := fun k j hk => oK j hk (by decide) (r0 _ _ (by omega)) (nP hk (by decide))
  have m90 : ∀ q, sI m13 90 q = sI m 90 q := fun q => oM (rm0 _ _ (by omega)) (by omega) (by omega)
  have oth2 : ∀ p j, (p = 84 ∨ p = 89 ∨ (p = 57 ∧ (j = 0 ∨ j = 19 ∨ j = 30))) → sI m13 p j = sI m p j := fun p j q => oM (rm0 _ _ (by omega)) (by omega) (by omega)
  have e14 : sI S11 4 0 = sI S 4 0 ∧ sI S11 1 = sI S 1 := ⟨oK 0 t4 (by decide) (r0 _ _ (by omega)) n4, funext fun j => oK j hT.2 (by decide) (r0 _ _ (by omega)) (nP hT.2 (by decide))⟩
  rcases y01 with rfl | rfl
  · refine l_of (st_T rfl) (m_of (st_T rfl) ?_)
    exact up_fin hT hm h s1 k1 l1 g1 g2 g3 e14 (u5.trans u87.symm) oth (fun f hf => by rw [min0 _ f x4, m90]; exact h.Ssh s s1 f hf) (fun k j hk _ => min0 k j hk) (fun q _ => m90 q) oth2 u82
  · refine l_of (st_F one0) (m_of (st_F one0) ?_)
    have hm13 := MF_e (MF_of hm) l1
    refine l_of (st_gRe (v := some x) (by rw [k1]; exact qx)) (l_of (st_gIe (v := sI m 57 0) (e14.1.trans n0)) (l_of st_rv (l_pd (p_show (p := mn S (lel S 19 s) 3) (by rw [k1]; exact x3) f3) (fun S16 e => ?_))))
    have e : S16 = _ := e
    rw [e]
    refine m_of (st_gRe (hm13 36 90 rfl)) (m_of (st_gIe (v := sI m 57 0) (oth2 57 0 (by omega))) (m_of (st_bIe (ix3 s s60 f f3)) ?_))
    have nm : ∀ {k τ : Nat}, T k = τ → τ ≠ 48 → k ≠ mn S (lel S 19 s) 3 := fun hk ht q => by
      rw [q, x4] at hk
      exact ht hk.symm
    have nmj : ∀ j, j < 6 → 29 + 4 * j ≠ mn S (lel S 19 s) 3 ∧ 30 + 4 * j ≠ mn S (lel S 19 s) 3 ∧ 31 + 4 * j ≠ mn S (lel S 19 s) 3 := fun j hj => ⟨nm (tP j hj).1 (by decide), nm (tP j hj).2.1 (by decide), nm (tP j hj).2.2 (by decide)⟩
    have mt4 := nm t4 (by decide)
    have mt5 := nm t5 (by decide)
    have mt6 := nm t6 (by decide)
    have mt1 := nm hT.2 (by decide)
    have mts := nm ts (by decide)
    refine up_fin hT hm h s1 (S' := wI S11 (mn S (lel S 19 s) 3) f (sI m 57 0)) (m' := wI m13 90 (3 * s + f) (sI m 57 0)) k1 l1 ?_ ?_ ?_ ⟨(ti_sI_ne (by omega)).trans e14.1, ?_⟩ ?_ (fun q hq c => ?_) (fun g hg => ?_) (fun k j hk hn => ?_) (fun q hq => ?_) (fun p j q => ?_) ?_
    · exact fac_cong g1 (fun j c hj => by
        obtain ⟨a1, a2, a3⟩ := nmj j hj
        exact ⟨ti_sI_ne (by omega), ti_sI_ne (by omega), ti_sI_ne (by omega)⟩) (fun q => ⟨ti_sI_ne (by omega), ti_sI_ne (by omega), ti_sI_ne (by omega)⟩)
    · exact wrg_cong g2 (fun j c hj _ _ => by
        obtain ⟨a1, a2, a3⟩ := nmj j hj
        exact ti_sI_ne (by omega)) (fun q => ti_sI_ne (by omega))
    · exact AU_cong g3 (ti_sI_ne (by omega)) (funext fun j => ti_sI_ne (by omega)) (ti_sI_ne (by omega)) (funext fun j => ti_sI_ne (by omega)) (funext fun j => ti_sI_ne (by omega)) rfl
    · exact (funext fun j => ti_sI_ne (by omega) : sI (wI S11 (mn S (lel S 19 s) 3) f (sI m 57 0)) 1 = sI S11 1).trans e14.2
    · exact ((ti_sI_ne (by omega)).trans u5).trans ((ti_sI_ne (by omega)).trans u87).symm
    · have := nm (tyS b hq) (by decide)
      exact ⟨(ti_sI_ne (by omega)).trans (oth q hq c).1, (ti_sI_ne (by omega)).trans (oth q hq c).2⟩
    · by_cases c : g = f
      · subst c
        rw [ti_sI_eq, ti_sI_eq]
        exact ⟨rfl, Or.inr ⟨n1, n2⟩⟩
      · rw [ti_sI_ne (by omega), ti_sI_ne (by omega), min0 _ g x4, m90]
        exact h.Ssh s s1 g hg
    · rw [ti_sI_ne (by omega)]
      exact min0 k j hk
    · rw [ti_sI_ne (by omega)]
      exact m90 q
    · rw [ti_sI_ne (by omega)]
      exact oth2 p j q
    · rw [ti_sI_ne (by omega)]
      exact u82
theorem h_stepUp (hT : TV T S) (hm : TI Tm m) (h : FR S m) (a f r v : Int32) : H2 (f_K_stepUp S (some 4) a f r v) (f_M_stepUp m (some 57) a f r v) (fun x y => AN [eX, eA, eS] x.1 y.1 (sI y.2 57 82) ∧ P_up x.2 y.2) := by
  have b := FR_BB hT hm h
  have hmf := MF_of hm
  have no1 : ∀ y2 y3, H2 (some ((Sum.inr eX : Int32 ⊕ String), wX S)) (f_M_stepUp_B63 m (some 57) a f r v (some 57) 0 y2 y3) (fun x y => AN [eX, eA, eS] x.1 y.1 (sI y.2 57 82) ∧ P_up x.2 y.2) := fun y2 y3 => by
    unfold f_M_stepUp_B63
    refine m_of st_rv (m_p2 p_mayA (fun w m' e => ?_))
    rw [if_pos rfl] at e
    cases e
    exact m_of (st_T rfl) (h2_ret ⟨AN_e 0 rfl (ti_sI_eq _ _ _ _), FR_up (FR_X hT (TI_t hm 1) (FR_t hT hm h 1))⟩)
  have no2 : ∀ y3, H2 (some ((Sum.inr eA : Int32 ⊕ String), wX S)) (f_M_stepUp_B63 m (some 57) a f r v (some 57) 1 0 y3) (fun x y => AN [eX, eA, eS] x.1 y.1 (sI y.2 57 82) ∧ P_up x.2 y.2) := fun y3 => by
    unfold f_M_stepUp_B63
    refine m_of st_rv (m_p2 p_mayA (fun w m' e => ?_))
    rw [if_neg one0, if_pos rfl] at e
    cases e
    exact m_of (st_T rfl) (h2_ret ⟨AN_e 1 rfl (ti_sI_eq _ _ _ _), FR_up (FR_X hT (TI_t hm 2) (FR_t hT hm h 2))⟩)
  have no3 : H2 (some ((Sum.inr eS : Int32 ⊕ String), wX S)) (f_M_stepUp_B63 m (some 57) a f r v (some 57) 1 1 0) (fun x y => AN [eX, eA, eS] x.1 y.1 (sI y.2 57 82) ∧ P_up x.2 y.2) := by
    unfold f_M_stepUp_B63
    refine m_of st_rv (m_p2 p_mayA (fun w m' e => ?_))
    rw [if_neg one0, if_neg one0, if_pos rfl] at e
    cases e
    exact m_of (st_T rfl) (h2_ret ⟨AN_e 2 rfl (ti_sI_eq _ _ _ _), FR_up (FR_X hT (TI_t hm 3) (FR_t hT hm h 3))⟩)
  unfold f_K_stepUp f_M_stepUp f_M_stepUp_B33 f_M_stepUp_B34 f_M_stepUp_B62
  refine l_of st_rv (m_of st_rv (m_p2 (x_MS b a) (fun w S2 p => ?_)))
  refine l_bx (fun v' S' e => ?_) (fun v' S' e => ?_)
  · rcases x_fS b a _ e with ⟨s, s1, ea, e2⟩ | ⟨no, e2⟩
    · cases e2
      rcases p with ⟨-, p2⟩ | ⟨p1, -⟩
      · cases p2
        have z60 := h.Ses.1.1
        have s60 : s < 60 := by
          unfold nS at s1
          omega
        have ai : a.toNatClampNeg = s := by rw [ea]; exact oc (by omega)
        obtain ⟨l1, l2⟩ := h.Liv.1 s s1
        have q3 := SPK_r h s1
        refine l_of (st_b2 (q_Kfac S f)) (m_of (st_b2 (q_fac m f)) ?_)
        -- the reference's way to its asking, whatever y2
        have way : ∀ {x : Option ((Int32 ⊕ String) × AS)} (y2 : Int32), (∀ y3, H2 x (f_M_stepUp_B63 m (some 57) a f r v (some 57) 1 y2 y3) (fun x y => AN [eX, eA, eS] x.1 y.1 (sI y.2 57 82) ∧ P_up x.2 y.2)) → H2 x (if (1 : Int32) = 0 then f_M_stepUp_B63 m (some 57) a f r v (some 57) 1 y2 0 else (gR m 23 35 (some 57)).bind fun v18 => (aI m 41 v18 a).bind fun v19 => if v19 = 0 then f_M_stepUp_B63 m (some 57) a f r v (some 57) 1 y2 0 else (gR m 23 34 (some 57)).bind fun v20 => (aI m 40 v20 a).bind fun v21 => if v21 = (-1 : Int32) then f_M_stepUp_B63 m (some 57) a f r v (some 57) 1 y2 1 else f_M_stepUp_B63 m (some 57) a f r v (some 57) 1 y2 0) (fun x y => AN [eX, eA, eS] x.1 y.1 (sI y.2 57 82) ∧ P_up x.2 y.2) := fun y2 hh => by
          refine m_of (st_F one0) (m_of (st_gRe (hmf 35 89 rfl)) (m_of (st_aIe (v := sI m 89 s) ai rfl) (m_if (fun _ => hh 0) (fun _ => ?_))))
          exact m_of (st_gRe (hmf 34 88 rfl)) (m_of (st_aIe (v := sI m 88 s) ai rfl) (m_if (fun _ => hh 1) (fun _ => hh 0)))
        have bad : H2 (f_K_stepUp_B30 S (some 4) f r v (some (lel S 19 s))) (if (1 : Int32) = 0 then f_M_stepUp_B63 m (some 57) a f r v (some 57) 1 0 0 else (gR m 23 35 (some 57)).bind fun v18 => (aI m 41 v18 a).bind fun v19 => if v19 = 0 then f_M_stepUp_B63 m (some 57) a f r v (some 57) 1 0 0 else (gR m 23 34 (some 57)).bind fun v20 => (aI m 40 v20 a).bind fun v21 => if v21 = (-1 : Int32) then f_M_stepUp_B63 m (some 57) a f r v (some 57) 1 0 1 else f_M_stepUp_B63 m (some 57) a f r v (some 57) 1 0 0) (fun x y => AN [eX, eA, eS] x.1 y.1 (sI y.2 57 82) ∧ P_up x.2 y.2) := by
          unfold f_K_stepUp_B30 f_K_stepUp_B31
          exact l_of (st_bxe (rA0 S)) (way 0 no2)
        by_cases cf : 0 ≤ f ∧ f ≤ 2
        · rw [if_pos cf]
          refine l_of (st_F one0) (m_of (st_F one0) (l_of (st_b2 (q_win S v 0 9999)) (m_of (st_b2 (q_isIn m v 0 9999)) ?_)))
          by_cases cv : 0 ≤ v ∧ v ≤ 9999
          · rw [if_pos cv]
            obtain ⟨g, g1, g2⟩ := (thr_iff f).mp cf
            refine l_of (st_F one0) (m_of (st_F one0) ?_)
            unfold f_K_stepUp_B31
            refine l_of (st_bx (rA1 S)) (l_of (st_gIe l1) ?_)
            refine m_of (st_F one0) (m_of (st_gRe (hmf 35 89 rfl)) (m_of (st_aIe (v := sI m 89 s) ai rfl) ?_))
            have k54 : Le (f_K_stepUp_B54 S (some 4) f r v (some (lel S 19 s))) (some ((Sum.inr eS : Int32 ⊕ String), wX S)) := fun q hq => by
              unfold f_K_stepUp_B54 f_K_stepUp_B55 at hq
              exact st_bxe (rS0 S) q hq
            by_cases c1 : sI m 89 s = 0
            · exact l_of (st_T c1) (m_of (st_T c1) (l_of k54 no3))
            · refine l_of (st_F c1) (m_of (st_F c1) (m_of (st_gRe (hmf 34 88 rfl)) (m_of (st_aIe (v := sI m 88 s) ai rfl) ?_)))
              by_cases c2 : sI m 88 s = -1
              · refine l_of (st_gRe (q3.mpr c2)) (l_of (st_T rfl) (m_of (st_T c2) ?_))
                rw [ea, g2]
                exact up_go hT hm h s1 g1 r v
              · exact l_of st_gR (l_of (st_F (fun q => c2 (q3.mp q))) (m_of (st_F c2) (l_of k54 no3)))
          · rw [if_neg cv]
            exact l_of (st_T rfl) (m_of (st_T rfl) bad)
        · rw [if_neg cf]
          exact l_of (st_T rfl) (m_of (st_T rfl) bad)
      · exact absurd ⟨s, s1, ea⟩ p1
    · cases e2
  · rcases x_fS b a _ e with ⟨s, s1, ea, e2⟩ | ⟨no, e2⟩
    · cases e2
    · cases e2
      rcases p with ⟨p1, -⟩ | ⟨-, p2⟩
      · exact absurd p1 no
      · cases p2
        refine m_of (st_b2 (q_fac m f)) (m_if (fun _ => m_of (st_T rfl) (no1 _ _)) (fun _ => m_of (st_b2 (q_isIn m v 0 9999)) (m_if (fun _ => m_of (st_T rfl) (no1 _ _)) (fun _ => m_of (st_T rfl) (no1 _ _)))))
end
end
section
/-! ===== finish ===== -/
section
variable {T Tm : Nat → Nat} {S m : AS}
theorem P_end_mk {T : Nat → Nat} {S0 m0 S1 m1 S' m' : AS} {d n nf : Nat} (he : EE d T S0 m0 n nf S1 m1) (r : sR S' = sR S0) (n1 : nS m' = n) (n2 : nF m' = nf) (o1 : ∀ s, s < n → sI S' (lel S0 19 s) 6 = sI S1 (lel S0 19 s) 6) (o2 : sI S' 4 9 = sI S1 4 9) (o3 : ∀ f, f < nf → sI S' (lel S0 23 f) 6 = sI S1 (lel S0 23 f) 6 ∧ sI S' (lel S0 23 f) 11 = sI S1 (lel S0 23 f) 11)
    (q : ∀ p j, (p = 89 ∨ p = 103 ∨ p = 116) → sI m' p j = sI m1 p j) (ha : AU 0 (sI m1 89) n S' m') : P_end S' m' := by
  obtain ⟨-, -, h3, h4, h5, -, h7⟩ := he
  have el : ∀ l i, lel S' l i = lel S0 l i := fun l i => by
    unfold lel
    rw [r]
  have e89 : sI m' 89 = sI m1 89 := funext fun j => q 89 j (by omega)
  refine ⟨⟨fun s hs => ?_, ?_⟩, ⟨fun x x1 x2 v hv => ?_, fun f hf => ?_⟩, ?_⟩
  · rw [n1] at hs
    rw [el, o1 s hs, e89]
    exact h3 s hs
  · rw [o2, e89, n1]
    exact h4
  · rw [n2] at x1
    rw [q 116 _ (by omega)]
    exact h7 x x1 x2 v hv
  · rw [n2] at hf
    obtain ⟨a1, a2⟩ := o3 f hf
    obtain ⟨b1, b2, b3⟩ := h5 f hf
    rw [el, a1, a2, q 103 f (by omega)]
    exact ⟨b1, fun v hv => by rw [q 116 _ (by omega)]; exact b2 v hv, fun z v hv => by rw [q 116 _ (by omega)]; exact b3 z v hv⟩
  · unfold cAU
    rw [e89, n1]
    exact ha
/-- the level of what a person has -/
def lvG (m : AS) (i : Nat) (f : Nat) : Int32 := if sI m 58 (3 * i + f) = 0 then 0 else Int32.ofNat (f + 1)
theorem p_lvE_L (hp : PF S) (hw : cWgt S m) (hf : cFac S m) {i : Nat} (i6 : i < 6) : ∀ (k j fu : Nat) (a : Int32), j + k = 3 → Hp (f_Person_levelOfEnrolled_L4 fu S (some (29 + 4 * i)) a (Int32.ofNat j)) (fun q => q = (sW (lvG m i) k j a, S))
  | _, _, 0, _, _ => p_0
  | 0, j, fu + 1, a, hk => by
    unfold f_Person_levelOfEnrolled_L4 f_Person_levelOfEnrolled_C4
    have e : j = 3 := by omega
    subst e
    exact p_of (st_T (by decide)) (p_ret rfl)
  | k + 1, j, fu + 1, a, hk => by
    unfold f_Person_levelOfEnrolled_L4 f_Person_levelOfEnrolled_C4 f_Person_levelOfEnrolled_B25
    have e := ((hf i i6).1 j (by omega)).1
    refine p_of (st_F (fun q => by have := (ole (a := 3) (b := j) (by decide) (by omega)).mp q; omega)) (p_of (st_gRe (hp.1 i i6).2.1) (p_of (st_aIe (oc (by omega)) e) ?_))
    have r := p_lvE_L hp hw hf i6 k (j + 1) fu (a + lvG m i j) (by omega)
    by_cases c : sI m 58 (3 * i + j) = 0
    · refine p_of (st_T c) (p_of st_val ?_)
      rw [o1]
      rw [show lvG m i j = 0 from if_pos c, Int32.add_zero] at r
      refine p_mono r (fun q z => ?_)
      rw [z]
      show _ = (sW (lvG m i) k (j + 1) (a + lvG m i j), S)
      rw [show lvG m i j = 0 from if_pos c, Int32.add_zero]
    · refine p_of (st_F c) (p_b2 (p_wgt hw (by omega)) (fun v S' z => ?_))
      cases z
      refine p_of st_val (p_of st_val ?_)
      rw [o1]
      rw [show lvG m i j = Int32.ofNat (j + 1) from if_neg c] at r
      refine p_mono r (fun q z => ?_)
      rw [z]
      show _ = (sW (lvG m i) k (j + 1) (a + lvG m i j), S)
      rw [show lvG m i j = Int32.ofNat (j + 1) from if_neg c]
theorem h_fin60_L {α : Type} {x : Option α} {Q : α → Int32 × AS → Prop} (hmf : MF m) {r i : Nat} (r20 : r < 20) (i6 : i < 6) (e117 : sI m 117 r = Int32.ofNat i) {x3 : Int32} {A : Int32} (H : H2 x (f_M_finish_B109 m (some 57) (Int32.ofNat r) 1 x3 A) Q) : ∀ (k j fu : Nat) (a : Int32), j + k = 3 → A = sW (lvG m i) k j a → H2 x (f_M_finish_L60 fu m (some 57) (Int32.ofNat r) 1 x3 a (Int32.ofNat j)) Q
  | _, _, 0, _, _, _ => h2_m0
  | 0, j, fu + 1, a, hk, hA => by
    unfold f_M_finish_L60 f_M_finish_C60
    have e : j = 3 := by omega
    subst e
    refine m_of (st_T (by decide)) ?_
    rw [hA] at H
    exact H
  | k + 1, j, fu + 1, a, hk, hA => by
    unfold f_M_finish_L60 f_M_finish_C60 f_M_finish_B100
    refine m_of (st_F (fun q => by have := (ole (a := 3) (b := j) (by decide) (by omega)).mp q; omega)) (m_of (st_F one0) ?_)
    refine m_of (st_gRe (hmf 1 58 rfl)) (m_of (st_gRe (hmf 71 117 rfl)) (m_of (st_aIe (v := Int32.ofNat i) (oc (by omega)) e117) (m_of (st_aIe (v := sI m 58 (3 * i + j)) (ix3 i (by omega) j (by omega)) rfl) ?_)))
    have hA : A = sW (lvG m i) k (j + 1) (a + lvG m i j) := hA
    by_cases c : sI m 58 (3 * i + j) = 0
    · refine m_of (st_T c) (m_of st_val (m_of st_val ?_))
      rw [o1]
      rw [show lvG m i j = 0 from if_pos c] at hA
      exact h_fin60_L hmf r20 i6 e117 H k (j + 1) fu (a + 0) (by omega) hA
    · refine m_of (st_F c) (m_of (st_b2 (v := Int32.ofNat j + 1) (S' := m) rfl) (m_of st_val (m_of st_val ?_)))
      rw [o1]
      rw [show lvG m i j = Int32.ofNat (j + 1) from if_neg c] at hA
      exact h_fin60_L hmf r20 i6 e117 H k (j + 1) fu (a + Int32.ofNat (j + 1)) (by omega) hA
/-- factors are lost -/
theorem p_lose_L {i : Nat} (r : sR S (29 + 4 * i) 1 = some (30 + 4 * i)) : ∀ (k j fu : Nat) (S1 : AS), j + k = 3 → sR S1 = sR S → sL S1 = sL S → (∀ p c, ¬ (p = 30 + 4 * i ∧ c < 3) → sI S1 p c = sI S p c) → (∀ c, c < j → sI S1 (30 + 4 * i) c = 0) → Hp (f_Person_loseFactors_L2 fu S1 (some (29 + 4 * i)) (Int32.ofNat j)) (fun S2 => sR S2 = sR S ∧ sL S2 = sL S ∧ (∀ p c, ¬ (p = 30 + 4 * i ∧ c < 3) → sI S2 p c = sI S p c) ∧ (∀ c, c < 3 → sI S2 (30 + 4 * i) c = 0))
  | _, _, 0, _, _, _, _, _, _ => p_0
  | 0, j, fu + 1, S1, hk, r1, r2, r3, r4 => by
    unfold f_Person_loseFactors_L2 f_Person_loseFactors_C2
    have e : j = 3 := by omega
    subst e
    exact p_of (st_T (by decide)) (p_ret ⟨r1, r2, r3, r4⟩)
  | k + 1, j, fu + 1, S1, hk, r1, r2, r3, r4 => by
    unfold f_Person_loseFactors_L2 f_Person_loseFactors_C2
    refine p_of (st_F (fun q => by have := (ole (a := 3) (b := j) (by decide) (by omega)).mp q; omega)) (p_of (st_gRe (v := some (30 + 4 * i)) (by rw [r1]; exact r)) (p_of (st_bIe (oc (by omega))) (p_of st_val ?_)))
    rw [o1]
    refine p_lose_L r k (j + 1) fu _ (by omega) r1 r2 (fun p c z => ?_) (fun c hc => ?_)
    · rw [ti_sI_ne (by omega)]
      exact r3 p c z
    · by_cases z : c = j
      · subst z
        rw [ti_sI_eq]
      · rw [ti_sI_ne (by omega)]
        exact r4 c (by omega)
theorem h_loseM_L {α : Type} {x : Option α} {Q : α → Int32 × AS → Prop} {i : Nat} (i6 : i < 6) (hmf : MF m) {a c0 : Int32} (H : ∀ fu M, sR M = sR m → sL M = sL m → (∀ p c, ¬ (p = 58 ∧ 3 * i ≤ c ∧ c < 3 * i + 3) → sI M p c = sI m p c) → (∀ c, c < 3 → sI M 58 (3 * i + c) = 0) → H2 x (f_M_finish_L165 (fu + 1) M (some 57) a (Int32.ofNat i) c0 (Int32.ofNat 3)) Q) :
    ∀ (k j fu : Nat) (M : AS), j + k = 3 → sR M = sR m → sL M = sL m → (∀ p c, ¬ (p = 58 ∧ 3 * i ≤ c ∧ c < 3 * i + 3) → sI M p c = sI m p c) → (∀ c, c < j → sI M 58 (3 * i + c) = 0) → H2 x (f_M_finish_L165 fu M (some 57) a (Int32.ofNat i) c0 (Int32.ofNat j)) Q
  | _, _, 0, _, _, _, _, _, _ => h2_m0
  | 0, j, fu + 1, M, hk, r1, r2, r3, r4 => by
    have e : j = 3 := by omega
    subst e
    exact H fu M r1 r2 r3 r4
  | k + 1, j, fu + 1, M, hk, r1, r2, r3, r4 => by
    unfold f_M_finish_L165 f_M_finish_C165
    refine m_of (st_F (fun q => by have := (ole (a := 3) (b := j) (by decide) (by omega)).mp q; omega)) (m_of (st_gRe (v := some 58) (MF_e hmf r1 1 58 rfl)) (m_of (st_bIe (ix3 i (by omega) j (by omega))) (m_of st_val ?_)))
    rw [o1]
    refine h_loseM_L i6 hmf H k (j + 1) fu _ (by omega) r1 r2 (fun p c z => ?_) (fun c hc => ?_)
    · rw [ti_sI_ne (by omega)]
      exact r3 p c z
    · by_cases z : c = j
      · subst z
        rw [ti_sI_eq]
      · rw [ti_sI_ne (by omega)]
        exact r4 c (by omega)
def P_fin (S m : AS) : Prop := cFac S m ∧ cRec S m ∧ P_end S m
theorem FR_fin (h : FR S m) : P_fin S m := ⟨h.Fac, h.Rec, FR_end h⟩
theorem fin_go (hT : TV T S) (hm : TI Tm m) (h : FR S m) {r : Nat} (r1 : r < nR m) : H2 (f_K_finish_B70 S (some 4) (Int32.ofNat r) (some (lel S 27 r)) 1) (f_M_finish_B131 m (some 57) (Int32.ofNat r) (some 57) 1 1) (fun x y => AN [eX, eS] x.1 y.1 (sI y.2 57 82) ∧ P_fin x.2 y.2) := by
  have b := FR_BB hT hm h
  have hmf0 := MF_of (TI_t hm 0)
  have k4 := K4F_of hT.1
  have z20 := h.Rec.1.1
  have r20 : r < 20 := by
    unfold nR at r1
    omega
  have n60 : nS m ≤ 60 := h.Ses.1.1
  obtain ⟨-, ⟨i, i6, g1, g2⟩, -⟩ := h.Rec.2.2 r r1
  have tr := tyR b r1
  obtain ⟨t4, t5, t6, t7, -⟩ := kt4 hT.1
  obtain ⟨t29, t30, t31, -⟩ := kt_P hT.1 h.PF i6
  have nX : ∀ {k τ : Nat}, T k = τ → τ ≠ 46 → k ≠ lel S 27 r := fun hk ht q => by
    rw [q, tr] at hk
    exact ht hk.symm
  have x4 := nX t4 (by decide)
  have x5 := nX t5 (by decide)
  have x6 := nX t6 (by decide)
  unfold f_K_finish_B70 f_M_finish_B131
  refine l_of (st_bx (rS1 S)) (l_of st_pZ (l_of (st_gRe (v := some 5) (k4.1 1 5 rfl)) (l_of (st_gIe (v := sI m 57 0) ((ti_sI_ne (by omega)).trans h.NW.1)) (l_of st_rv ?_))))
  refine m_of st_rv (m_p2 p_mayB (fun v m' e => ?_))
  cases e
  refine m_of (st_F one0) (m_of (st_gRe (hmf0 71 117 rfl)) (m_of (st_aIe (v := Int32.ofNat i) (oc (by omega)) ((lv0 m (by omega) 0).trans g2)) (m_of (st_gRe (hmf0 73 119 rfl)) (m_of (st_bZe (oc (by omega))) (m_of st_rv ?_)))))
  obtain ⟨S3, e3⟩ : ∃ S3, S3 = wI S (lel S 27 r) 2 0 := ⟨_, rfl⟩
  obtain ⟨m2, em⟩ : ∃ m2, m2 = wI (wI m 57 82 0) 119 r 0 := ⟨_, rfl⟩
  rw [← e3, ← em]
  have o3 : ∀ {p j : Nat}, ¬ (p = lel S 27 r ∧ j = 2) → sI S3 p j = sI S p j := fun q => by
    rw [e3]
    exact ti_sI_ne q
  have s3 : sI S3 (lel S 27 r) 2 = 0 := by rw [e3, ti_sI_eq]
  have rS3 : sR S3 = sR S := by rw [e3, sR_wI]
  have lS3 : sL S3 = sL S := by rw [e3]; rfl
  have om : ∀ {p j : Nat}, ¬ (p = 57 ∧ j = 82) → ¬ (p = 119 ∧ j = r) → sI m2 p j = sI m p j := fun q1 q2 => by
    rw [em]
    exact (ti_sI_ne q2).trans (ti_sI_ne q1)
  have m82 : sI m2 57 82 = 0 := by rw [em, ti_sI_ne (by omega), ti_sI_eq]
  have m119 : sI m2 119 r = 0 := by rw [em, ti_sI_eq]
  have rm : sR m2 = sR m := by rw [em, sR_wI, sR_wI]
  have lm : sL m2 = sL m := by rw [em]; rfl
  refine l_pd (p_aw (S := S3) (k := Int32.ofNat 6) (nu := Int32.ofNat r) (by rw [rS3]; exact k4.2.1) (by rw [rS3]; exact k4.2.2.1)) (fun S7 a => ?_)
  have a' := a.1.2.2
  have rS7 : sR S7 = sR S := a.1.1.trans rS3
  have lS7 : sL S7 = sL S := a.1.2.1.trans lS3
  have o7 : ∀ {p j : Nat}, p ≠ 5 → p ≠ 6 → p ≠ 7 → ¬ (p = lel S 27 r ∧ j = 2) → sI S7 p j = sI S p j := fun q1 q2 q3 q => (a' _ _ q1 q2 q3).trans (o3 q)
  have ax : ∀ {k τ : Nat}, T k = τ → τ ≠ 2 → τ ≠ 3 → τ ≠ 4 → k ≠ 5 ∧ k ≠ 6 ∧ k ≠ 7 := fun hk h2 h3 h4 => by
    refine ⟨fun z => ?_, fun z => ?_, fun z => ?_⟩ <;> rw [z] at hk
    · exact h2 (hk.symm.trans t5)
    · exact h3 (hk.symm.trans t6)
    · exact h4 (hk.symm.trans t7)
  have oT : ∀ {k τ : Nat} (j : Nat), T k = τ → τ ≠ 2 → τ ≠ 3 → τ ≠ 4 → τ ≠ 46 → sI S7 k j = sI S k j := fun j hk h2 h3 h4 h5 => by
    obtain ⟨y1, y2, y3⟩ := ax hk h2 h3 h4
    have := nX hk h5
    exact o7 y1 y2 y3 (by omega)
  have tF : ∀ f, f < nF m → T (lel S 23 f) = 44 := fun f hf => tyF b hf
  have tS : ∀ s, s < nS m → T (lel S 19 s) = 43 := fun s hs => tyS b hs
  have a3 : AU 0 (sI m 89) (nS m) S3 m2 := AU_cong h.AU (o3 (by omega)) (funext fun j => o3 (by omega)) (om (by omega) (by omega)) (funext fun j => om (by omega) (by omega)) (funext fun j => om (by omega) (by omega)) rfl
  have st : ST T S7 m2 (nS m) (nF m) (nT m) := ST_cong (ST_of hT hm h) rS7 lS7 (fun k j q1 q2 q3 => by
    rcases q1 with q1 | q1 | q1 | q1 | q1
    · exact oT j q1 (by decide) (by decide) (by decide) (by decide)
    · exact oT j q1 (by decide) (by decide) (by decide) (by decide)
    · exact oT j q1 (by decide) (by decide) (by decide) (by decide)
    · exact oT j q1 (by decide) (by decide) (by decide) (by decide)
    · exact oT j q1 (by decide) (by decide) (by decide) (by decide)) rm lm (fun p j q => om (by omega) (by omega))
  have he : EE 1 T S7 m2 (nS m) (nF m) S7 m2 := EE_mk h rS7 (fun s hs => oT 6 (tS s hs) (by decide) (by decide) (by decide) (by decide)) (oT 9 t4 (by decide) (by decide) (by decide) (by decide)) (fun f hf => ⟨oT 6 (tF f hf) (by decide) (by decide) (by decide) (by decide), oT 11 (tF f hf) (by decide) (by decide) (by decide) (by decide)⟩) (fun p j q => om (by omega) (by omega))
    (AU_k a3 (by omega) a)
  refine l_of (st_gRe (v := some (29 + 4 * i)) (by rw [rS7]; exact g1)) (l_of st_rv ?_)
  refine h2_x2 (h_eA st he i6) (fun v S10 u m3 p => ?_) (fun v S10 u m3 p => ?_)
  · obtain ⟨S', c', m', q1, q2, he'⟩ := p
    cases q1
    cases q2
    have rS10 : sR S10 = sR S := he'.1.1.trans rS7
    have lS10 : sL S10 = sL S := he'.1.2.1.trans lS7
    have rm3 : sR m3 = sR m := he'.2.1.1.trans rm
    have k10 : ∀ {k τ : Nat} (j : Nat), T k = τ → τ ≠ 0 → KW τ j = false → sI S10 k j = sI S7 k j := fun j hk h0 hw => KE_ty he'.1 hk h0 hw
    have m10 : ∀ {p j : Nat}, MW p j = false → sI m3 p j = sI m2 p j := fun q => he'.2.1.2.2 _ _ q
    have pf10 : PF S10 := by
      unfold PF
      rw [rS10]
      refine ⟨fun j hj => ⟨(h.PF.1 j hj).1, (h.PF.1 j hj).2.1, (h.PF.1 j hj).2.2.1, (h.PF.1 j hj).2.2.2.1, ?_⟩, h.PF.2⟩
      obtain ⟨tj, -⟩ := kt_P hT.1 h.PF hj
      rw [k10 0 tj (by decide) (by rfl), oT 0 tj (by decide) (by decide) (by decide) (by decide)]
      exact (h.PF.1 j hj).2.2.2.2
    unfold f_Person_loseFactors
    refine l_of (st_gRe (v := some (29 + 4 * i)) (by rw [rS10]; exact g1)) (l_of st_rv (l_pd (p_lose_L (S := S10) (i := i) (pf10.1 i i6).2.1 3 0 kr_FU S10 rfl rfl rfl (fun _ _ _ => rfl) (fun c hc => absurd hc (Nat.not_lt_zero _))) (fun S14 p => ?_)))
    obtain ⟨b1, b2, b3, b4⟩ := p
    refine l_of (st_gRe (v := some (29 + 4 * i)) (by rw [b1, rS10]; exact g1)) (l_of st_rv ?_)
    refine h_loseM_L i6 (MF_e (MF_of hm) rm3) (fun fu M c1 c2 c3 c4 => ?_) 3 0 kr_FU m3 rfl rfl rfl (fun _ _ _ => rfl) (fun c hc => absurd hc (Nat.not_lt_zero _))
    unfold f_M_finish_L165 f_M_finish_C165
    refine m_of (st_T (by decide)) (m_of st_rv ?_)
    have pf14 : PF S14 := by
      unfold PF
      rw [b1]
      refine ⟨fun j hj => ⟨(pf10.1 j hj).1, (pf10.1 j hj).2.1, (pf10.1 j hj).2.2.1, (pf10.1 j hj).2.2.2.1, ?_⟩, pf10.2⟩
      rw [b3 _ _ (by omega)]
      exact (pf10.1 j hj).2.2.2.2
    refine h2_dd (h_ready pf14 (m := M) (MF_e (MF_of hm) (c1.trans rm3)) i6 (g := 0) (by decide)) (fun S17 M4 rd => ?_)
    have rdd := rd
    obtain ⟨⟨d1, d2, d3, d4⟩, ⟨d5, d6, d7, d8⟩, ⟨d9, d10, d11, d12⟩⟩ := rdd
    refine m_of st_rv (m_pd (p_mw (m := M4) (k := Int32.ofNat 6) (nu := Int32.ofNat r) (MF_e (MF_of hm) (d3.trans (c1.trans rm3)))) (fun m6 bb => ?_))
    have b' := bb.1.2.2
    -- the whole way of the other cells
    have oS : ∀ {k τ : Nat} (j : Nat), T k = τ → τ ≠ 14 → τ ≠ 15 → sI S17 k j = sI S10 k j := fun {k τ} j hk h14 h15 => by
      have y1 : k ≠ 30 + 4 * i := fun z => by
        rw [z, t30] at hk
        exact h14 hk.symm
      have y2 : k ≠ 31 + 4 * i := fun z => by
        rw [z, t31] at hk
        exact h15 hk.symm
      rw [d8 _ _ (fun z => y1 z.1) (fun z => y2 z.1) (by omega), b3 _ _ (fun z => y1 z.1)]
    have oM : ∀ {p j : Nat}, p ≠ 58 → p ≠ 59 → p ≠ 123 → p ≠ 124 → p ≠ 125 → ¬ (p = 57 ∧ (j = 77 ∨ j = 81)) → sI m6 p j = sI m3 p j := fun y1 y2 y3 y4 y5 y6 => by
      rw [b' _ _ y3 y4 y5 y6, d12 _ _ (by omega) (by omega) (by omega), c3 _ _ (by omega)]
    have F14 : cFac S17 m6 := by
      have fS : ∀ j, j < 6 → ∀ c, sI S10 (30 + 4 * j) c = sI S (30 + 4 * j) c ∧ sI S10 (31 + 4 * j) c = sI S (31 + 4 * j) c ∧ sI S10 (29 + 4 * j) 3 = sI S (29 + 4 * j) 3 := fun j hj c => by
        obtain ⟨u1, u2, u3, -⟩ := kt_P hT.1 h.PF hj
        exact ⟨(k10 c u2 (by decide) (by rfl)).trans (oT c u2 (by decide) (by decide) (by decide) (by decide)), (k10 c u3 (by decide) (by rfl)).trans (oT c u3 (by decide) (by decide) (by decide) (by decide)), (k10 3 u1 (by decide) (by rfl)).trans (oT 3 u1 (by decide) (by decide) (by decide) (by decide))⟩
      have fM : ∀ q, sI m3 58 q = sI m 58 q ∧ sI m3 59 q = sI m 59 q ∧ sI m3 60 q = sI m 60 q := fun q => ⟨(m10 (by rfl)).trans (om (by omega) (by omega)), (m10 (by rfl)).trans (om (by omega) (by omega)), (m10 (by rfl)).trans (om (by omega) (by omega))⟩
      have f0 : cFac S14 M := fun j hj => by
        obtain ⟨h1, h2⟩ := h.Fac j hj
        refine ⟨fun c hc => ?_, ?_⟩
        · by_cases q : j = i
          · subst q
            rw [b4 c hc, c4 c hc, b3 _ _ (by omega), c3 _ _ (by omega), (fS j hj c).2.1, (fM _).2.1]
            exact ⟨rfl, (h1 c hc).2.1, fun z => absurd z (by decide)⟩
          · rw [b3 _ _ (by omega), c3 _ _ (by omega), b3 _ _ (by omega), c3 _ _ (by omega), (fS j hj c).1, (fS j hj c).2.1, (fM _).1, (fM _).2.1]
            exact h1 c hc
        · rw [b3 _ _ (by omega), c3 _ _ (by omega), (fS j hj 0).2.2, (fM _).2.2]
          exact h2
      exact fac_cong (cFac_ready f0 i6 (by decide) rd) (fun j c hj => ⟨rfl, rfl, rfl⟩) (fun q => ⟨b' _ _ (by omega) (by omega) (by omega) (by omega), b' _ _ (by omega) (by omega) (by omega) (by omega), b' _ _ (by omega) (by omega) (by omega) (by omega)⟩)
    have enS : nS m6 = nS m := by
      unfold nS
      rw [oM (by omega) (by omega) (by omega) (by omega) (by omega) (by omega), m10 (by rfl), om (by omega) (by omega)]
    have enF : nF m6 = nF m := by
      unfold nF
      rw [oM (by omega) (by omega) (by omega) (by omega) (by omega) (by omega), m10 (by rfl), om (by omega) (by omega)]
    have el7 : ∀ l k, lel S7 l k = lel S l k := fun l k => by
      unfold lel
      rw [rS7]
    have AUx : AU 1 (sI m3 89) (nS m) S17 M4 := AU_cong he'.2.2.2.2.2.1 (oS 2 t5 (by decide) (by decide)) (funext fun j => oS j t6 (by decide) (by decide)) ((d12 _ _ (by omega) (by omega) (by omega)).trans (c3 _ _ (by omega))) (funext fun j => (d12 _ _ (by omega) (by omega) (by omega)).trans (c3 _ _ (by omega))) (funext fun j => (d12 _ _ (by omega) (by omega) (by omega)).trans (c3 _ _ (by omega))) rfl
    have L123 : sL M4 123 = 1200 := by
      rw [d4, c2, he'.2.1.2.1, lm]
      exact (ST_of hT hm h).2.2.2.1.2.2.2.2.2.2.2.2
    have pe : P_end S17 m6 := P_end_mk he' (d1.trans (b1.trans he'.1.1)) enS enF (fun s hs => by rw [el7]; exact oS 6 (tS s hs) (by decide) (by decide)) (oS 9 t4 (by decide) (by decide)) (fun f hf => by rw [el7]; exact ⟨oS 6 (tF f hf) (by decide) (by decide), oS 11 (tF f hf) (by decide) (by decide)⟩) (fun p j q => oM (by omega) (by omega) (by omega) (by omega) (by omega) (by omega)) (AU_m AUx n60 L123 (by omega) bb)
    have rc : cRec S17 m6 := by
      obtain ⟨u1, u2, u3⟩ := h.Rec
      have wS : ∀ {k τ : Nat} (j : Nat), T k = τ → τ = 26 ∨ τ = 46 → ¬ (k = lel S 27 r ∧ j = 2) → sI S17 k j = sI S k j := fun j hk h2 hn => by
        obtain ⟨y1, y2, y3⟩ := ax hk (by omega) (by omega) (by omega)
        rw [oS j hk (by omega) (by omega), k10 j hk (by omega) (by rcases h2 with rfl | rfl <;> rfl), o7 y1 y2 y3 hn]
      have wM : ∀ {p j : Nat}, (p = 117 ∨ p = 118 ∨ p = 119 ∨ p = 120 ∨ p = 121 ∨ (p = 57 ∧ j = 70)) → ¬ (p = 119 ∧ j = r) → sI m6 p j = sI m p j := fun hp hn => by
        rw [oM (by omega) (by omega) (by omega) (by omega) (by omega) (by omega), m10 (by
          rcases hp with rfl | rfl | rfl | rfl | rfl | ⟨rfl, rfl⟩ <;> rfl), om (by omega) hn]
      have en : nR m6 = nR m := by
        unfold nR
        rw [wM (by omega) (by omega)]
      have el : ∀ k, lel S17 27 k = lel S 27 k := fun k => by
        unfold lel
        rw [d1, b1, rS10]
      have t27 : T 27 = 26 := (hT.1.t6 6 (by decide)).1
      have n27 := nX t27 (by decide)
      refine ⟨⟨?_, ?_, ?_⟩, fun k k1 k2 => ?_, fun k hk => ?_⟩
      · rw [wM (by omega) (by omega)]
        exact u1.1
      · rw [wM (by omega) (by omega)]
        exact u1.2.1
      · rw [wM (by omega) (by omega), wS 2 t27 (by omega) (by omega)]
        exact u1.2.2
      · rw [en] at k1
        rw [wM (by omega) (by omega), wM (by omega) (by omega)]
        exact u2 k k1 k2
      · rw [en] at hk
        obtain ⟨w1, w2, w3, w4, w5, w6, w7⟩ := u3 k hk
        have tk := tyR b hk
        rw [en, el, d1, b1, rS10]
        refine ⟨fun q hq e => w1 q hq (by rw [el] at e; exact e), ?_, ?_, ?_, ?_, ?_, ?_⟩
        · obtain ⟨x, x1, x2, x3⟩ := w2
          exact ⟨x, x1, x2, (wM (by omega) (by omega)).trans x3⟩
        · rw [wS 1 tk (by omega) (by omega), wM (by omega) (by omega)]
          exact w3
        · by_cases z : k = r
          · subst z
            rw [oS 2 tk (by decide) (by decide), k10 2 tk (by decide) (by rfl), a' _ _ (ax tk (by decide) (by decide) (by decide)).1 (ax tk (by decide) (by decide) (by decide)).2.1 (ax tk (by decide) (by decide) (by decide)).2.2, s3, oM (by omega) (by omega) (by omega) (by omega) (by omega) (by omega), m10 (by rfl), m119]
          · have : lel S 27 k ≠ lel S 27 r := fun q => z (((u3 r r1).1 k hk) q)
            rw [wS 2 tk (by omega) (by omega), wM (by omega) (by omega)]
            exact w4
        · rw [wS 3 tk (by omega) (by omega), wM (by omega) (by omega)]
          exact w5
        · rw [wM (by omega) (by omega)]
          exact w6
        · rw [wS 4 tk (by omega) (by omega), wM (by omega) (by omega)]
          exact w7
    refine h2_ret ⟨AN_v ?_, F14, rc, pe⟩
    show sI m6 57 82 = 0
    rw [oM (by omega) (by omega) (by omega) (by omega) (by omega) (by omega), m10 (by rfl), m82]
  · obtain ⟨S', c', m', q1, -⟩ := p
    cases q1
theorem h_finish (hT : TV T S) (hm : TI Tm m) (h : FR S m) (a : Int32) : H2 (f_K_finish S (some 4) a) (f_M_finish m (some 57) a) (fun x y => AN [eX, eS] x.1 y.1 (sI y.2 57 82) ∧ P_fin x.2 y.2) := by
  have b := FR_BB hT hm h
  have hmf := MF_of hm
  have no1 : H2 (some ((Sum.inr eX : Int32 ⊕ String), wX S)) (f_M_finish_L60 kr_FU m (some 57) a 0 0 0 0) (fun x y => AN [eX, eS] x.1 y.1 (sI y.2 57 82) ∧ P_fin x.2 y.2) := by
    show H2 _ (f_M_finish_C60 (f_M_finish_L60 1999) m (some 57) a 0 0 0 0) _
    unfold f_M_finish_C60 f_M_finish_B109 f_M_finish_B130 f_M_finish_B131
    refine m_of (st_F (by decide)) (m_of (st_T rfl) (m_of (st_T rfl) (m_of st_rv (m_p2 p_mayB (fun v m' p => ?_)))))
    cases p
    exact m_of (st_T rfl) (h2_ret ⟨AN_e 0 rfl (ti_sI_eq _ _ _ _), FR_fin (FR_X hT (TI_t hm 1) (FR_t hT hm h 1))⟩)
  have no2 : H2 (some ((Sum.inr eS : Int32 ⊕ String), wX S)) (f_M_finish_B130 m (some 57) a (some 57) 1) (fun x y => AN [eX, eS] x.1 y.1 (sI y.2 57 82) ∧ P_fin x.2 y.2) := by
    unfold f_M_finish_B130 f_M_finish_B131
    refine m_of st_rv (m_p2 p_mayB (fun v m' p => ?_))
    cases p
    exact m_of (st_T rfl) (h2_ret ⟨AN_e 1 rfl (ti_sI_eq _ _ _ _), FR_fin (FR_X hT (TI_t hm 2) (FR_t hT hm h 2))⟩)
  unfold f_K_finish f_M_finish f_M_finish_B52 f_M_finish_B53
  refine l_of st_rv (m_of st_rv (m_p2 (x_MR b a) (fun v S2 p => ?_)))
  refine l_bx (fun v' S' e => ?_) (fun v' S' e => ?_)
  · rcases x_fR b a _ e with ⟨r, r1, ea, e2⟩ | ⟨no, e2⟩
    · cases e2
      rcases p with ⟨-, p2⟩ | ⟨p1, -⟩
      · cases p2
        have z20 := h.Rec.1.1
        have r20 : r < 20 := by
          unfold nR at r1
          omega
        have ai : a.toNatClampNeg = r := by rw [ea]; exact oc (by omega)
        obtain ⟨-, ⟨i, i6, g1, g2⟩, g3, g4, g5, g6, g7⟩ := h.Rec.2.2 r r1
        -- the reference's level, and its end
        have lev : ∀ {x : Option ((Int32 ⊕ String) × AS)} (x3 : Int32), H2 x (f_M_finish_B109 m (some 57) a 1 x3 (sW (lvG m i) 3 0 0)) (fun x y => AN [eX, eS] x.1 y.1 (sI y.2 57 82) ∧ P_fin x.2 y.2) → H2 x (f_M_finish_L60 kr_FU m (some 57) a 1 x3 0 0) (fun x y => AN [eX, eS] x.1 y.1 (sI y.2 57 82) ∧ P_fin x.2 y.2) := fun x3 hh => by
          rw [ea] at hh ⊢
          exact h_fin60_L hmf r20 i6 g2 hh 3 0 kr_FU 0 rfl rfl
        have bad : H2 (some ((Sum.inr eS : Int32 ⊕ String), wX S)) (f_M_finish_L60 kr_FU m (some 57) a 1 0 0 0) (fun x y => AN [eX, eS] x.1 y.1 (sI y.2 57 82) ∧ P_fin x.2 y.2) := lev 0 (by
          unfold f_M_finish_B109
          exact m_of (st_T rfl) no2)
        have k31 : Le (f_K_finish_B31 S (some 4) a (some (lel S 27 r))) (some ((Sum.inr eS : Int32 ⊕ String), wX S)) := fun q hq => by
          unfold f_K_finish_B31 f_K_finish_B32 at hq
          exact st_bxe (rS0 S) q hq
        refine m_of (st_F one0) (m_of (st_gRe (hmf 73 119 rfl)) (m_of (st_aIe (v := sI m 119 r) ai rfl) (l_of (st_gIe g4) ?_)))
        by_cases c1 : sI m 119 r = 0
        · exact l_of (st_T c1) (m_of (st_T c1) (l_of k31 bad))
        · refine l_of (st_F c1) (m_of (st_F c1) (l_of (st_gIe h.NW.1) (l_of (st_gIe g3) (m_of st_gI (m_of (st_gRe (hmf 72 118 rfl)) (m_of (st_aIe (v := sI m 118 r) ai rfl) ?_))))))
          by_cases c2 : sI m 57 0 - sI m 118 r < 60
          · exact l_of (st_T c2) (m_of (st_T c2) (l_of k31 bad))
          · refine l_of (st_F c2) (m_of (st_F c2) ?_)
            unfold f_K_finish_B32 f_Recovery_countVouchers f_M_many
            refine l_of (st_bx (rS1 S)) (l_of st_rv ?_)
            refine l_p2 (P := fun q => q = (bcv (sI m 120 r), S)) (p_of (st_gIe g5) (p_b2 p_bc (fun v S' e => p_ret e))) (fun v S' e => ?_)
            cases e
            refine m_of (st_gRe (hmf 74 120 rfl)) (m_of (st_aIe (v := sI m 120 r) ai rfl) (m_p2 (p_mn_L 6 0 kr_FU 0 rfl) (fun v S' e => ?_)))
            cases e
            have ev : sI m 120 r = Int32.ofNat (sI m 120 r).toNatClampNeg := Int32.toInt_inj.mp (by rw [oi (by have := natI g6.1; omega)]; exact (natI g6.1).symm)
            have eb : bcv (sI m 120 r) = sW (fun j => (sI m 120 r >>> (Int32.ofNat j &&& 31)) &&& (1 : Int32)) 6 0 0 := by
              rw [ev]
              exact bc_mn _ (by have := natI g6.1; omega)
            rw [eb]
            by_cases c3 : sW (fun j => (sI m 120 r >>> (Int32.ofNat j &&& 31)) &&& (1 : Int32)) 6 0 0 < 2
            · refine l_of (st_T c3) (m_of (st_T c3) ?_)
              unfold f_K_finish_B48
              exact l_of (st_bxe (rS0 S)) bad
            · refine l_of (st_F c3) (m_of (st_F c3) (lev 1 ?_))
              unfold f_K_finish_B48 f_M_finish_B109 f_Person_levelOfEnrolled
              refine l_of (st_bx (rS1 S)) (l_of (st_gIe g7) (l_of (st_gRe g1) (l_of st_rv (l_p2 (p_lvE_L h.PF h.Wgt h.Fac i6 3 0 kr_FU 0 rfl) (fun v S' e => ?_)))))
              cases e
              refine m_of (st_F one0) (m_of (st_gRe (hmf 75 121 rfl)) (m_of (st_aIe (v := sI m 121 r) ai rfl) ?_))
              by_cases c4 : sI m 121 r < sW (lvG m i) 3 0 0
              · refine l_of (st_T c4) (m_of (st_T c4) ?_)
                unfold f_K_finish_B70
                exact l_of (st_bxe (rS0 S)) no2
              · refine l_of (st_F c4) (m_of (st_F c4) ?_)
                rw [ea]
                exact fin_go hT hm h r1
      · exact absurd ⟨r, r1, ea⟩ p1
    · cases e2
  · rcases x_fR b a _ e with ⟨r, r1, ea, e2⟩ | ⟨no, e2⟩
    · cases e2
    · cases e2
      rcases p with ⟨p1, -⟩ | ⟨-, p2⟩
      · exact absurd p1 no
      · cases p2
        exact m_of (st_T rfl) no1
end
end
