/-! ===== each component rests on its cells ===== -/
def ZZ (S m : AS) : Prop := SZ 17 9 8 S m ∧ SZ 18 19 60 S m ∧ SZ 19 30 60 S m ∧ SZ 22 39 60 S m ∧ SZ 23 46 60 S m ∧ SZ 24 52 200 S m ∧ SZ 27 70 20 S m
/-- the types of places, that of the weights' row included -/
def TV (T : Nat → Nat) (S : AS) : Prop := TI T S ∧ T 1 = 52
def BB (T Tm : Nat → Nat) (S m : AS) : Prop := TV T S ∧ PF S ∧ TI Tm m ∧ ZZ S m
theorem SZ_lt {l j b i : Nat} {S m : AS} (h : SZ l j b S m) (hb : b ≤ 200) (hi : i < nn (sI m 57 j)) : (i : Int) < (sI S l 2).toInt := by
  rw [h.2.2, h.2.1, oi (by have := h.1; omega)]
  omega
section
variable {T T' Tm Tm' : Nat → Nat} {S S' m m' : AS} {cs ds : List Nat}
theorem zV (b : BB T Tm S m) : SZ 17 9 8 S m := b.2.2.2.1
theorem tyV (b : BB T Tm S m) {i : Nat} (hi : i < nV m) : T (lel S 17 i) = 40 := (lel_at b.1.1 (q := 0) (by decide) (SZ_lt (zV b) (by decide) hi)).1
theorem atV (b : BB T Tm S m) {i : Nat} (hi : i < nV m) : sR S ((sR S 17 1).getD 0) i = some (lel S 17 i) := (lel_at b.1.1 (q := 0) (by decide) (SZ_lt (zV b) (by decide) hi)).2
theorem lV (b : BB T Tm S m) (k : Kp T T' cs S S') (h1 : 52001 ∈ cs) (h2 : 53000 ∈ cs) {i : Nat} (hi : i < nV m) : lel S' 17 i = lel S 17 i := k.L b.1.1 (q := 0) (by decide) (by rw [show cr (20 + 0) 1 = 52001 by decide]; exact h1) (by rw [show cr (30 + 0) 0 = 53000 by decide]; exact h2) (SZ_lt (zV b) (by decide) hi)
theorem eqV (b : BB T Tm S m) (q : Kp Tm Tm' ds m m') (h : 10009 ∈ ds) : sI m' 57 9 = sI m 57 9 := q.F b.2.2.1 (by rw [show cl 100 9 = 10009 by decide]; exact h)
theorem enV (b : BB T Tm S m) (q : Kp Tm Tm' ds m m') (h : 10009 ∈ ds) : nV m' = nV m := by
  unfold nV
  rw [eqV b q h]
theorem fzV (b : BB T Tm S m) (k : Kp T T' cs S S') (q : Kp Tm Tm' ds m m') (h1 : 2002 ∈ cs) (h2 : 10009 ∈ ds) : SZ 17 9 8 S' m' := by
  unfold SZ
  rw [eqV b q h2, k.O (k := 17) (j := 2) (b.1.1.t6 0 (by decide)).1 (by decide) (by rw [show cl (20 + 0) 2 = 2002 by decide]; exact h1)]
  exact zV b
theorem zA (b : BB T Tm S m) : SZ 18 19 60 S m := b.2.2.2.2.1
theorem tyA (b : BB T Tm S m) {i : Nat} (hi : i < uA m) : T (lel S 18 i) = 42 := (lel_at b.1.1 (q := 1) (by decide) (SZ_lt (zA b) (by decide) hi)).1
theorem atA (b : BB T Tm S m) {i : Nat} (hi : i < uA m) : sR S ((sR S 18 1).getD 0) i = some (lel S 18 i) := (lel_at b.1.1 (q := 1) (by decide) (SZ_lt (zA b) (by decide) hi)).2
theorem lA (b : BB T Tm S m) (k : Kp T T' cs S S') (h1 : 52101 ∈ cs) (h2 : 53100 ∈ cs) {i : Nat} (hi : i < uA m) : lel S' 18 i = lel S 18 i := k.L b.1.1 (q := 1) (by decide) (by rw [show cr (20 + 1) 1 = 52101 by decide]; exact h1) (by rw [show cr (30 + 1) 0 = 53100 by decide]; exact h2) (SZ_lt (zA b) (by decide) hi)
theorem eqA (b : BB T Tm S m) (q : Kp Tm Tm' ds m m') (h : 10019 ∈ ds) : sI m' 57 19 = sI m 57 19 := q.F b.2.2.1 (by rw [show cl 100 19 = 10019 by decide]; exact h)
theorem enA (b : BB T Tm S m) (q : Kp Tm Tm' ds m m') (h : 10019 ∈ ds) : uA m' = uA m := by
  unfold uA
  rw [eqA b q h]
theorem fzA (b : BB T Tm S m) (k : Kp T T' cs S S') (q : Kp Tm Tm' ds m m') (h1 : 2102 ∈ cs) (h2 : 10019 ∈ ds) : SZ 18 19 60 S' m' := by
  unfold SZ
  rw [eqA b q h2, k.O (k := 18) (j := 2) (b.1.1.t6 1 (by decide)).1 (by decide) (by rw [show cl (20 + 1) 2 = 2102 by decide]; exact h1)]
  exact zA b
theorem zS (b : BB T Tm S m) : SZ 19 30 60 S m := b.2.2.2.2.2.1
theorem tyS (b : BB T Tm S m) {i : Nat} (hi : i < nS m) : T (lel S 19 i) = 43 := (lel_at b.1.1 (q := 2) (by decide) (SZ_lt (zS b) (by decide) hi)).1
theorem atS (b : BB T Tm S m) {i : Nat} (hi : i < nS m) : sR S ((sR S 19 1).getD 0) i = some (lel S 19 i) := (lel_at b.1.1 (q := 2) (by decide) (SZ_lt (zS b) (by decide) hi)).2
theorem lS (b : BB T Tm S m) (k : Kp T T' cs S S') (h1 : 52201 ∈ cs) (h2 : 53200 ∈ cs) {i : Nat} (hi : i < nS m) : lel S' 19 i = lel S 19 i := k.L b.1.1 (q := 2) (by decide) (by rw [show cr (20 + 2) 1 = 52201 by decide]; exact h1) (by rw [show cr (30 + 2) 0 = 53200 by decide]; exact h2) (SZ_lt (zS b) (by decide) hi)
theorem eqS (b : BB T Tm S m) (q : Kp Tm Tm' ds m m') (h : 10030 ∈ ds) : sI m' 57 30 = sI m 57 30 := q.F b.2.2.1 (by rw [show cl 100 30 = 10030 by decide]; exact h)
theorem enS (b : BB T Tm S m) (q : Kp Tm Tm' ds m m') (h : 10030 ∈ ds) : nS m' = nS m := by
  unfold nS
  rw [eqS b q h]
theorem fzS (b : BB T Tm S m) (k : Kp T T' cs S S') (q : Kp Tm Tm' ds m m') (h1 : 2202 ∈ cs) (h2 : 10030 ∈ ds) : SZ 19 30 60 S' m' := by
  unfold SZ
  rw [eqS b q h2, k.O (k := 19) (j := 2) (b.1.1.t6 2 (by decide)).1 (by decide) (by rw [show cl (20 + 2) 2 = 2202 by decide]; exact h1)]
  exact zS b
theorem zC (b : BB T Tm S m) : SZ 22 39 60 S m := b.2.2.2.2.2.2.1
theorem tyC (b : BB T Tm S m) {i : Nat} (hi : i < nC m) : T (lel S 22 i) = 44 := (lel_at b.1.1 (q := 3) (by decide) (SZ_lt (zC b) (by decide) hi)).1
theorem atC (b : BB T Tm S m) {i : Nat} (hi : i < nC m) : sR S ((sR S 22 1).getD 0) i = some (lel S 22 i) := (lel_at b.1.1 (q := 3) (by decide) (SZ_lt (zC b) (by decide) hi)).2
theorem lC (b : BB T Tm S m) (k : Kp T T' cs S S') (h1 : 52301 ∈ cs) (h2 : 53300 ∈ cs) {i : Nat} (hi : i < nC m) : lel S' 22 i = lel S 22 i := k.L b.1.1 (q := 3) (by decide) (by rw [show cr (20 + 3) 1 = 52301 by decide]; exact h1) (by rw [show cr (30 + 3) 0 = 53300 by decide]; exact h2) (SZ_lt (zC b) (by decide) hi)
theorem eqC (b : BB T Tm S m) (q : Kp Tm Tm' ds m m') (h : 10039 ∈ ds) : sI m' 57 39 = sI m 57 39 := q.F b.2.2.1 (by rw [show cl 100 39 = 10039 by decide]; exact h)
theorem enC (b : BB T Tm S m) (q : Kp Tm Tm' ds m m') (h : 10039 ∈ ds) : nC m' = nC m := by
  unfold nC
  rw [eqC b q h]
theorem fzC (b : BB T Tm S m) (k : Kp T T' cs S S') (q : Kp Tm Tm' ds m m') (h1 : 2302 ∈ cs) (h2 : 10039 ∈ ds) : SZ 22 39 60 S' m' := by
  unfold SZ
  rw [eqC b q h2, k.O (k := 22) (j := 2) (b.1.1.t6 3 (by decide)).1 (by decide) (by rw [show cl (20 + 3) 2 = 2302 by decide]; exact h1)]
  exact zC b
theorem zF (b : BB T Tm S m) : SZ 23 46 60 S m := b.2.2.2.2.2.2.2.1
theorem tyF (b : BB T Tm S m) {i : Nat} (hi : i < nF m) : T (lel S 23 i) = 44 := (lel_at b.1.1 (q := 4) (by decide) (SZ_lt (zF b) (by decide) hi)).1
theorem atF (b : BB T Tm S m) {i : Nat} (hi : i < nF m) : sR S ((sR S 23 1).getD 0) i = some (lel S 23 i) := (lel_at b.1.1 (q := 4) (by decide) (SZ_lt (zF b) (by decide) hi)).2
theorem lF (b : BB T Tm S m) (k : Kp T T' cs S S') (h1 : 52401 ∈ cs) (h2 : 53400 ∈ cs) {i : Nat} (hi : i < nF m) : lel S' 23 i = lel S 23 i := k.L b.1.1 (q := 4) (by decide) (by rw [show cr (20 + 4) 1 = 52401 by decide]; exact h1) (by rw [show cr (30 + 4) 0 = 53400 by decide]; exact h2) (SZ_lt (zF b) (by decide) hi)
theorem eqF (b : BB T Tm S m) (q : Kp Tm Tm' ds m m') (h : 10046 ∈ ds) : sI m' 57 46 = sI m 57 46 := q.F b.2.2.1 (by rw [show cl 100 46 = 10046 by decide]; exact h)
theorem enF (b : BB T Tm S m) (q : Kp Tm Tm' ds m m') (h : 10046 ∈ ds) : nF m' = nF m := by
  unfold nF
  rw [eqF b q h]
theorem fzF (b : BB T Tm S m) (k : Kp T T' cs S S') (q : Kp Tm Tm' ds m m') (h1 : 2402 ∈ cs) (h2 : 10046 ∈ ds) : SZ 23 46 60 S' m' := by
  unfold SZ
  rw [eqF b q h2, k.O (k := 23) (j := 2) (b.1.1.t6 4 (by decide)).1 (by decide) (by rw [show cl (20 + 4) 2 = 2402 by decide]; exact h1)]
  exact zF b
theorem zT (b : BB T Tm S m) : SZ 24 52 200 S m := b.2.2.2.2.2.2.2.2.1
theorem tyT (b : BB T Tm S m) {i : Nat} (hi : i < nT m) : T (lel S 24 i) = 45 := (lel_at b.1.1 (q := 5) (by decide) (SZ_lt (zT b) (by decide) hi)).1
theorem atT (b : BB T Tm S m) {i : Nat} (hi : i < nT m) : sR S ((sR S 24 1).getD 0) i = some (lel S 24 i) := (lel_at b.1.1 (q := 5) (by decide) (SZ_lt (zT b) (by decide) hi)).2
theorem lT (b : BB T Tm S m) (k : Kp T T' cs S S') (h1 : 52501 ∈ cs) (h2 : 53500 ∈ cs) {i : Nat} (hi : i < nT m) : lel S' 24 i = lel S 24 i := k.L b.1.1 (q := 5) (by decide) (by rw [show cr (20 + 5) 1 = 52501 by decide]; exact h1) (by rw [show cr (30 + 5) 0 = 53500 by decide]; exact h2) (SZ_lt (zT b) (by decide) hi)
theorem eqT (b : BB T Tm S m) (q : Kp Tm Tm' ds m m') (h : 10052 ∈ ds) : sI m' 57 52 = sI m 57 52 := q.F b.2.2.1 (by rw [show cl 100 52 = 10052 by decide]; exact h)
theorem enT (b : BB T Tm S m) (q : Kp Tm Tm' ds m m') (h : 10052 ∈ ds) : nT m' = nT m := by
  unfold nT
  rw [eqT b q h]
theorem fzT (b : BB T Tm S m) (k : Kp T T' cs S S') (q : Kp Tm Tm' ds m m') (h1 : 2502 ∈ cs) (h2 : 10052 ∈ ds) : SZ 24 52 200 S' m' := by
  unfold SZ
  rw [eqT b q h2, k.O (k := 24) (j := 2) (b.1.1.t6 5 (by decide)).1 (by decide) (by rw [show cl (20 + 5) 2 = 2502 by decide]; exact h1)]
  exact zT b
theorem zR (b : BB T Tm S m) : SZ 27 70 20 S m := b.2.2.2.2.2.2.2.2.2
theorem tyR (b : BB T Tm S m) {i : Nat} (hi : i < nR m) : T (lel S 27 i) = 46 := (lel_at b.1.1 (q := 6) (by decide) (SZ_lt (zR b) (by decide) hi)).1
theorem atR (b : BB T Tm S m) {i : Nat} (hi : i < nR m) : sR S ((sR S 27 1).getD 0) i = some (lel S 27 i) := (lel_at b.1.1 (q := 6) (by decide) (SZ_lt (zR b) (by decide) hi)).2
theorem lR (b : BB T Tm S m) (k : Kp T T' cs S S') (h1 : 52601 ∈ cs) (h2 : 53600 ∈ cs) {i : Nat} (hi : i < nR m) : lel S' 27 i = lel S 27 i := k.L b.1.1 (q := 6) (by decide) (by rw [show cr (20 + 6) 1 = 52601 by decide]; exact h1) (by rw [show cr (30 + 6) 0 = 53600 by decide]; exact h2) (SZ_lt (zR b) (by decide) hi)
theorem eqR (b : BB T Tm S m) (q : Kp Tm Tm' ds m m') (h : 10070 ∈ ds) : sI m' 57 70 = sI m 57 70 := q.F b.2.2.1 (by rw [show cl 100 70 = 10070 by decide]; exact h)
theorem enR (b : BB T Tm S m) (q : Kp Tm Tm' ds m m') (h : 10070 ∈ ds) : nR m' = nR m := by
  unfold nR
  rw [eqR b q h]
theorem fzR (b : BB T Tm S m) (k : Kp T T' cs S S') (q : Kp Tm Tm' ds m m') (h1 : 2602 ∈ cs) (h2 : 10070 ∈ ds) : SZ 27 70 20 S' m' := by
  unfold SZ
  rw [eqR b q h2, k.O (k := 27) (j := 2) (b.1.1.t6 6 (by decide)).1 (by decide) (by rw [show cl (20 + 6) 2 = 2602 by decide]; exact h1)]
  exact zR b
/-- the minutes' rows -/
theorem tyM {p j τ : Nat} (hT : TI T S) (hp : T p = τ) (h : ft τ j = some 47) : ∃ x, sR S p j = some x ∧ T x = 47 ∧ sR S x 0 = some (mn S p j) ∧ T (mn S p j) = 48 := by
  obtain ⟨x, e, h1, h2⟩ := hT.t2 p j 47 (by rw [hp]; exact h)
  obtain ⟨y, e', g1, g2⟩ := hT.t2 x 0 48 (by rw [h1]; rfl)
  have : mn S p j = y := by
    unfold mn
    rw [e]
    show (sR S x 0).getD 0 = y
    rw [e']
    rfl
  exact ⟨x, e, h1, by rw [this]; exact e', by rw [this]; exact g1⟩
theorem mn_k {p j τ : Nat} (hT : TI T S) (hp : T p = τ) (h0 : τ ≠ 0) (h : ft τ j = some 47) (k : Kp T T' cs S S') (h1 : cr τ j ∈ cs) (h2 : 54700 ∈ cs) : mn S' p j = mn S p j := by
  obtain ⟨x, e, h3, -⟩ := tyM hT hp h
  unfold mn
  rw [k.R hp h0 h1, e]
  show (sR S' x 0).getD 0 = (sR S x 0).getD 0
  rw [k.R (j := 0) h3 (by decide) (by rw [show cr 47 0 = 54700 by decide]; exact h2)]
/-- the flows' rows -/
theorem tyW {p j : Nat} (hT : TI T S) (hp : T p = 40) (hj : j < 5) : sR S p j = some (fa S p j) ∧ T (fa S p j) = 41 := by
  obtain ⟨y, e', g1, g2⟩ := hT.t2 p j 41 (by
    rw [hp]
    match j, hj with
    | 0, _ => rfl
    | 1, _ => rfl
    | 2, _ => rfl
    | 3, _ => rfl
    | 4, _ => rfl)
  unfold fa
  rw [e']
  exact ⟨rfl, g1⟩
theorem fa_k {p j : Nat} (hp : T p = 40) (hj : j < 5) (k : Kp T T' cs S S') (h : 54000 ∈ cs ∧ 54001 ∈ cs ∧ 54002 ∈ cs ∧ 54003 ∈ cs ∧ 54004 ∈ cs) : fa S' p j = fa S p j := by
  unfold fa
  rw [k.R (j := j) hp (by decide) (by
    obtain ⟨h0, h1, h2, h3, h4⟩ := h
    match j, hj with
    | 0, _ => exact h0
    | 1, _ => exact h1
    | 2, _ => exact h2
    | 3, _ => exact h3
    | 4, _ => exact h4)]
theorem tyD (hT : TI T S) : sR S 4 5 = some (fa S 4 5) ∧ T (fa S 4 5) = 40 := by
  obtain ⟨y, e', g1, g2⟩ := hT.t2 4 5 40 (by rw [(kt4 hT).1]; rfl)
  unfold fa
  rw [e']
  exact ⟨rfl, g1⟩
theorem faD_k (hT : TI T S) (k : Kp T T' cs S S') (h : 50105 ∈ cs) : fa S' 4 5 = fa S 4 5 := by
  unfold fa
  rw [k.R (j := 5) (kt4 hT).1 (by decide) (by rw [show cr 1 5 = 50105 by decide]; exact h)]
def k_cNW : List Nat := [100]
def m_cNW : List Nat := [10000]
theorem cNW_fr (b : BB T Tm S m) (h : cNW S m) (k : Kp T T' k_cNW S S') (q : Kp Tm Tm' m_cNW m m') : cNW S' m' := by
  unfold cNW at *
  rw [k.O (j := 0) (kt4 b.1.1).1 (by decide) (by decide), q.F (j := 0) b.2.2.1 (by decide)]
  exact h
def k_cPF : List Nat := [50500, 51301, 51302, 51309, 1300, 50900]
def m_cPF : List Nat := []
theorem cPF_fr (b : BB T Tm S m) (h : cPF S m) (k : Kp T T' k_cPF S S') (q : Kp Tm Tm' m_cPF m m') : cPF S' m' := by
  refine ⟨fun i hi => ?_, fun i hi => ?_⟩
  · obtain ⟨t1, -⟩ := kt_P b.1.1 b.2.1 hi
    rw [k.AR (kt4 b.1.1).2.2.2.2.1 (by decide) (by decide), k.R (j := 1) t1 (by decide) (by decide), k.R (j := 2) t1 (by decide) (by decide), k.R (j := 9) t1 (by decide) (by decide), k.O (j := 0) t1 (by decide) (by decide)]
    exact h.1 i hi
  · rw [k.AR (kt4 b.1.1).2.2.2.2.2.2.2.2.1 (by decide) (by decide)]
    exact h.2 i hi
def k_cWgt : List Nat := [5200, 5201, 5202]
def m_cWgt : List Nat := []
theorem cWgt_fr (b : BB T Tm S m) (h : cWgt S m) (k : Kp T T' k_cWgt S S') (q : Kp Tm Tm' m_cWgt m m') : cWgt S' m' := by
  unfold cWgt at *
  rw [k.O (j := 0) b.1.2 (by decide) (by decide), k.O (j := 1) b.1.2 (by decide) (by decide), k.O (j := 2) b.1.2 (by decide) (by decide)]
  exact h
def k_cFac : List Nat := [1400, 1500, 1303]
def m_cFac : List Nat := [10100, 10200, 10300]
theorem cFac_fr (b : BB T Tm S m) (h : cFac S m) (k : Kp T T' k_cFac S S') (q : Kp Tm Tm' m_cFac m m') : cFac S' m' := by
  intro i hi
  obtain ⟨t1, t2, t3, t4⟩ := kt_P b.1.1 b.2.1 hi
  refine ⟨fun f hf => ?_, ?_⟩
  · rw [k.A t2 (by decide) (by decide), k.A t3 (by decide) (by decide), q.M b.2.2.1 (j := 1) (p := 58) rfl (by decide) (by decide), q.M b.2.2.1 (j := 2) (p := 59) rfl (by decide) (by decide)]
    exact (h i hi).1 f hf
  · rw [k.O (j := 3) t1 (by decide) (by decide), q.M b.2.2.1 (j := 3) (p := 60) rfl (by decide) (by decide)]
    exact (h i hi).2
def k_cWrg : List Nat := [1304, 1305, 1306]
def m_cWrg : List Nat := [10400]
theorem cWrg_fr (b : BB T Tm S m) (h : cWrg S m) (k : Kp T T' k_cWrg S S') (q : Kp Tm Tm' m_cWrg m m') : cWrg S' m' := by
  intro i hi
  obtain ⟨t1, -⟩ := kt_P b.1.1 b.2.1 hi
  rw [k.O (j := 4) t1 (by decide) (by decide), k.O (j := 5) t1 (by decide) (by decide), k.O (j := 6) t1 (by decide) (by decide), q.M b.2.2.1 (j := 4) (p := 61) rfl (by decide) (by decide), q.M b.2.2.1 (j := 4) (p := 61) rfl (by decide) (by decide), q.M b.2.2.1 (j := 4) (p := 61) rfl (by decide) (by decide)]
  exact h i hi
def k_cKn : List Nat := [1307, 1308]
def m_cKn : List Nat := [10500, 10600]
theorem cKn_fr (b : BB T Tm S m) (h : cKn S m) (k : Kp T T' k_cKn S S') (q : Kp Tm Tm' m_cKn m m') : cKn S' m' := by
  intro i hi d hd
  obtain ⟨t1, -⟩ := kt_P b.1.1 b.2.1 hi
  rw [k.O (j := 7) t1 (by decide) (by decide), k.O (j := 8) t1 (by decide) (by decide), q.M b.2.2.1 (j := 5) (p := 62) rfl (by decide) (by decide), q.M b.2.2.1 (j := 6) (p := 63) rfl (by decide) (by decide)]
  exact h i hi d hd
def k_cCon : List Nat := [1600, 800]
def m_cCon : List Nat := [13700]
theorem cCon_fr (b : BB T Tm S m) (h : cCon S m) (k : Kp T T' k_cCon S S') (q : Kp Tm Tm' m_cCon m m') : cCon S' m' := by
  intro c hc
  refine ⟨fun i hi => ?_, ?_⟩
  · rw [k.A (kt_P b.1.1 b.2.1 hi).2.2.2 (by decide) (by decide), q.M b.2.2.1 (j := 37) (p := 91) rfl (by decide) (by decide)]
    exact (h c hc).1 i hi
  · rw [k.A (kt4 b.1.1).2.2.2.2.2.2.2.1 (by decide) (by decide), q.M b.2.2.1 (j := 37) (p := 91) rfl (by decide) (by decide)]
    exact (h c hc).2
def k_cHlp : List Nat := [1310]
def m_cHlp : List Nat := [10800]
theorem cHlp_fr (b : BB T Tm S m) (h : cHlp S m) (k : Kp T T' k_cHlp S S') (q : Kp Tm Tm' m_cHlp m m') : cHlp S' m' := by
  intro i hi
  rw [k.O (j := 10) (kt_P b.1.1 b.2.1 hi).1 (by decide) (by decide), q.M b.2.2.1 (j := 8) (p := 65) rfl (by decide) (by decide)]
  exact h i hi
def k_cAwy : List Nat := [1311]
def m_cAwy : List Nat := [10700]
theorem cAwy_fr (b : BB T Tm S m) (h : cAwy S m) (k : Kp T T' k_cAwy S S') (q : Kp Tm Tm' m_cAwy m m') : cAwy S' m' := by
  intro i hi
  rw [k.O (j := 11) (kt_P b.1.1 b.2.1 hi).1 (by decide) (by decide), q.M b.2.2.1 (j := 7) (p := 64) rfl (by decide) (by decide)]
  exact h i hi
def k_cPts : List Nat := [600, 700]
def m_cPts : List Nat := [11700, 11800]
theorem cPts_fr (b : BB T Tm S m) (h : cPts S m) (k : Kp T T' k_cPts S S') (q : Kp Tm Tm' m_cPts m m') : cPts S' m' := by
  intro i hi
  obtain ⟨-, -, -, -, -, t9, t10, -⟩ := kt4 b.1.1
  rw [k.A t9 (by decide) (by decide), k.A t10 (by decide) (by decide), q.M b.2.2.1 (j := 17) (p := 73) rfl (by decide) (by decide), q.M b.2.2.1 (j := 18) (p := 74) rfl (by decide) (by decide)]
  exact h i hi
def k_cLnk : List Nat := [1200]
def m_cLnk : List Nat := [17600]
theorem cLnk_fr (b : BB T Tm S m) (h : cLnk S m) (k : Kp T T' k_cLnk S S') (q : Kp Tm Tm' m_cLnk m m') : cLnk S' m' := by
  intro i hi
  rw [k.A (kt4 b.1.1).2.2.2.2.2.2.2.2.2.2.2 (by decide) (by decide), q.M b.2.2.1 (j := 76) (p := 122) rfl (by decide) (by decide)]
  exact h i hi
def k_cVer : List Nat := [2002, 52001, 53000, 4005, 4100, 54000, 54001, 54002, 54003, 54004, 50105]
def m_cVer : List Nat := [10009, 11000, 11100, 11200, 11300, 11400, 11500]
theorem cVer_fr (b : BB T Tm S m) (h : cVer S m) (k : Kp T T' k_cVer S S') (q : Kp Tm Tm' m_cVer m m') : cVer S' m' := by
  refine ⟨fzV b k q (by decide) (by decide), fun v hv => ?_⟩
  rw [enV b q (by decide)] at hv
  obtain ⟨h1, h2, h3, h4, h5⟩ := h.2 v hv
  have ev := lV b k (by decide) (by decide) hv
  have tv := tyV b hv
  rw [ev, faD_k b.1.1 k (by decide), q.M b.2.2.1 (j := 10) (p := 66) rfl (by decide) (by decide)]
  refine ⟨?_, fun x hx => ?_, h3, fun j i hj hi => ?_, fun u hu e => ?_⟩
  · obtain ⟨n, g1, g2, g3, g4, g5⟩ := h1
    refine ⟨n, g1, g2, by rw [k.O (j := 5) tv (by decide) (by decide)]; exact g3, by rw [q.M b.2.2.1 (j := 10) (p := 66) rfl (by decide) (by decide)]; exact g4, fun j x hj hx => ?_⟩
    rw [fa_k tv hj k (by decide), k.A (tyW b.1.1 tv hj).2 (by decide) (by decide)]
    have e : sI m' (67 + j) (12 * v + x) = sI m (67 + j) (12 * v + x) := by
      match j, hj with
      | 0, _ => exact q.M b.2.2.1 (j := 11) (p := 67) rfl (by decide) (by decide) _
      | 1, _ => exact q.M b.2.2.1 (j := 12) (p := 68) rfl (by decide) (by decide) _
      | 2, _ => exact q.M b.2.2.1 (j := 13) (p := 69) rfl (by decide) (by decide) _
      | 3, _ => exact q.M b.2.2.1 (j := 14) (p := 70) rfl (by decide) (by decide) _
      | 4, _ => exact q.M b.2.2.1 (j := 15) (p := 71) rfl (by decide) (by decide) _
    rw [e]
    exact g5 j x hj hx
  · rw [q.M b.2.2.1 (j := 11) (p := 67) rfl (by decide) (by decide), q.M b.2.2.1 (j := 13) (p := 69) rfl (by decide) (by decide)]
    exact h2 x hx
  · rw [fa_k tv hj k (by decide), fa_k (tyD b.1.1).2 hi k (by decide)]
    exact h4 j i hj hi
  · rw [enV b q (by decide)] at hu
    rw [lV b k (by decide) (by decide) hu] at e
    exact h5 u hu e
def k_cDrB : List Nat := []
def m_cDrB : List Nat := [11000, 11100, 11300]
theorem cDrB_fr (b : BB T Tm S m) (h : cDrB S m) (k : Kp T T' k_cDrB S S') (q : Kp Tm Tm' m_cDrB m m') : cDrB S' m' := by
  intro x hx
  rw [q.M b.2.2.1 (j := 10) (p := 66) rfl (by decide) (by decide)] at hx
  rw [q.M b.2.2.1 (j := 11) (p := 67) rfl (by decide) (by decide), q.M b.2.2.1 (j := 13) (p := 69) rfl (by decide) (by decide)]
  exact h x hx
def k_cAtt : List Nat := [2102, 52101, 53100, 54200, 4201, 4202, 54203, 54204, 2002, 52001, 53000]
def m_cAtt : List Nat := [10019, 12000, 12100, 12200, 12300, 10009]
theorem cAtt_fr (b : BB T Tm S m) (h : cAtt S m) (k : Kp T T' k_cAtt S S') (q : Kp Tm Tm' m_cAtt m m') : cAtt S' m' := by
  refine ⟨fzA b k q (by decide) (by decide), fun a ha => ?_⟩
  rw [enA b q (by decide)] at ha
  obtain ⟨h1, ⟨i, i1, i2, i3⟩, ⟨d, d1, d2, d3⟩, ⟨p, p1, p2, p3⟩, ⟨v, v1, v2, v3⟩, ⟨x, x1⟩⟩ := h.2 a ha
  have ea := lA b k (by decide) (by decide) ha
  have ta := tyA b ha
  rw [ea, k.R (j := 0) ta (by decide) (by decide), k.O (j := 1) ta (by decide) (by decide), k.O (j := 2) ta (by decide) (by decide), k.R (j := 3) ta (by decide) (by decide), k.R (j := 4) ta (by decide) (by decide), q.M b.2.2.1 (j := 20) (p := 75) rfl (by decide) (by decide), q.M b.2.2.1 (j := 21) (p := 76) rfl (by decide) (by decide), q.M b.2.2.1 (j := 22) (p := 77) rfl (by decide) (by decide), q.M b.2.2.1 (j := 23) (p := 78) rfl (by decide) (by decide)]
  refine ⟨fun c hc e => ?_, ⟨i, i1, i2, i3⟩, ⟨d, d1, d2, d3⟩, ⟨p, p1, p2, p3⟩, ⟨v, by rw [enV b q (by decide)]; exact v1, by rw [lV b k (by decide) (by decide) v1]; exact v2, v3⟩, ⟨x, x1⟩⟩
  rw [enA b q (by decide)] at hc
  rw [lA b k (by decide) (by decide) hc] at e
  exact h1 c hc e
def k_cAst : List Nat := [52101, 53100, 4205, 4206, 4207, 4208, 4209]
def m_cAst : List Nat := [10019, 12300, 12400, 12500, 12600, 12700, 12800, 11300]
theorem cAst_fr (b : BB T Tm S m) (h : cAst S m) (k : Kp T T' k_cAst S S') (q : Kp Tm Tm' m_cAst m m') : cAst S' m' := by
  refine ⟨fun a ha ha2 => ?_, fun a ha => ?_⟩
  · rw [enA b q (by decide)] at ha
    rw [q.M b.2.2.1 (j := 27) (p := 82) rfl (by decide) (by decide)]
    exact h.1 a ha ha2
  · rw [enA b q (by decide)] at ha
    have ta := tyA b ha
    rw [lA b k (by decide) (by decide) ha, k.O (j := 5) ta (by decide) (by decide), k.O (j := 8) ta (by decide) (by decide), k.O (j := 9) ta (by decide) (by decide), k.O (j := 6) ta (by decide) (by decide), k.O (j := 7) ta (by decide) (by decide), q.M b.2.2.1 (j := 23) (p := 78) rfl (by decide) (by decide), q.M b.2.2.1 (j := 24) (p := 79) rfl (by decide) (by decide), q.M b.2.2.1 (j := 25) (p := 80) rfl (by decide) (by decide), q.M b.2.2.1 (j := 26) (p := 81) rfl (by decide) (by decide), q.M b.2.2.1 (j := 27) (p := 82) rfl (by decide) (by decide), q.M b.2.2.1 (j := 28) (p := 83) rfl (by decide) (by decide), q.M b.2.2.1 (j := 13) (p := 69) rfl (by decide) (by decide)]
    exact h.2 a ha
def k_cAsh : List Nat := [52101, 53100, 54204, 54700, 4800]
def m_cAsh : List Nat := [10019, 12900]
theorem cAsh_fr (b : BB T Tm S m) (h : cAsh S m) (k : Kp T T' k_cAsh S S') (q : Kp Tm Tm' m_cAsh m m') : cAsh S' m' := by
  intro a ha f hf
  rw [enA b q (by decide)] at ha
  have ta := tyA b ha
  obtain ⟨x, x1, x2, x3, x4⟩ := tyM b.1.1 ta (j := 4) rfl
  rw [lA b k (by decide) (by decide) ha, mn_k b.1.1 ta (by decide) rfl k (by decide) (by decide), k.A x4 (by decide) (by decide), q.M b.2.2.1 (j := 29) (p := 84) rfl (by decide) (by decide)]
  exact h a ha f hf
def k_cSes : List Nat := [2202, 52201, 53200, 4300, 54301, 54302, 54303, 4304]
def m_cSes : List Nat := [10030, 13100, 13400, 13200]
theorem cSes_fr (b : BB T Tm S m) (h : cSes S m) (k : Kp T T' k_cSes S S') (q : Kp Tm Tm' m_cSes m m') : cSes S' m' := by
  refine ⟨fzS b k q (by decide) (by decide), fun s hs => ?_⟩
  rw [enS b q (by decide)] at hs
  obtain ⟨h1, ⟨p, p1, p2, p3⟩, h3, ⟨x, x1⟩, h5⟩ := h.2 s hs
  have ts := tyS b hs
  rw [lS b k (by decide) (by decide) hs, k.O (j := 0) ts (by decide) (by decide), k.R (j := 1) ts (by decide) (by decide), k.R (j := 2) ts (by decide) (by decide), k.R (j := 3) ts (by decide) (by decide), k.O (j := 4) ts (by decide) (by decide), q.M b.2.2.1 (j := 31) (p := 85) rfl (by decide) (by decide), q.M b.2.2.1 (j := 34) (p := 88) rfl (by decide) (by decide), q.M b.2.2.1 (j := 32) (p := 86) rfl (by decide) (by decide)]
  refine ⟨h1, ⟨p, p1, p2, p3⟩, ?_, ⟨x, x1⟩, h5⟩
  rcases h3 with h3 | ⟨o, o1, o2, o3⟩
  · exact Or.inl h3
  · exact Or.inr ⟨o, o1, by rw [lS b k (by decide) (by decide) (Nat.lt_trans o1 hs)]; exact o2, o3⟩
def k_cUsd : List Nat := [52201, 53200, 4305]
def m_cUsd : List Nat := [10030, 13300]
theorem cUsd_fr (b : BB T Tm S m) (h : cUsd S m) (k : Kp T T' k_cUsd S S') (q : Kp Tm Tm' m_cUsd m m') : cUsd S' m' := by
  intro s hs
  rw [enS b q (by decide)] at hs
  rw [lS b k (by decide) (by decide) hs, k.O (j := 5) (tyS b hs) (by decide) (by decide), q.M b.2.2.1 (j := 33) (p := 87) rfl (by decide) (by decide)]
  exact h s hs
def k_cLiv : List Nat := [52201, 53200, 4306, 109]
def m_cLiv : List Nat := [10030, 13500]
theorem cLiv_fr (b : BB T Tm S m) (h : cLiv S m) (k : Kp T T' k_cLiv S S') (q : Kp Tm Tm' m_cLiv m m') : cLiv S' m' := by
  have e : sI m' 89 = sI m 89 := funext fun x => q.M b.2.2.1 (j := 35) (p := 89) rfl (by decide) (by decide) x
  refine ⟨fun s hs => ?_, ?_⟩
  · rw [enS b q (by decide)] at hs
    rw [lS b k (by decide) (by decide) hs, k.O (j := 6) (tyS b hs) (by decide) (by decide), e]
    exact h.1 s hs
  · rw [k.O (j := 9) (kt4 b.1.1).1 (by decide) (by decide), e, enS b q (by decide)]
    exact h.2
def k_cSsh : List Nat := [52201, 53200, 54303, 54700, 4800]
def m_cSsh : List Nat := [10030, 13600]
theorem cSsh_fr (b : BB T Tm S m) (h : cSsh S m) (k : Kp T T' k_cSsh S S') (q : Kp Tm Tm' m_cSsh m m') : cSsh S' m' := by
  intro s hs f hf
  rw [enS b q (by decide)] at hs
  have ts := tyS b hs
  obtain ⟨x, x1, x2, x3, x4⟩ := tyM b.1.1 ts (j := 3) rfl
  rw [lS b k (by decide) (by decide) hs, mn_k b.1.1 ts (by decide) rfl k (by decide) (by decide), k.A x4 (by decide) (by decide), q.M b.2.2.1 (j := 36) (p := 90) rfl (by decide) (by decide)]
  exact h s hs f hf
def k_cMin : List Nat := [52101, 53100, 52201, 53200, 54204, 54303, 54700]
def m_cMin : List Nat := [10019, 10030]
theorem cMin_fr (b : BB T Tm S m) (h : cMin S m) (k : Kp T T' k_cMin S S') (q : Kp Tm Tm' m_cMin m m') : cMin S' m' := by
  have ea : ∀ a, a < uA m → mn S' (lel S' 18 a) 4 = mn S (lel S 18 a) 4 := fun a ha => by
    rw [lA b k (by decide) (by decide) ha]
    exact mn_k b.1.1 (tyA b ha) (by decide) rfl k (by decide) (by decide)
  have es : ∀ s, s < nS m → mn S' (lel S' 19 s) 3 = mn S (lel S 19 s) 3 := fun s hs => by
    rw [lS b k (by decide) (by decide) hs]
    exact mn_k b.1.1 (tyS b hs) (by decide) rfl k (by decide) (by decide)
  refine ⟨fun x y hx hy e => ?_, fun x y hx hy e => ?_, fun x y hx hy e => ?_⟩
  · rw [enA b q (by decide)] at hx hy
    rw [ea x hx, ea y hy] at e
    exact h.1 x y hx hy e
  · rw [enS b q (by decide)] at hx hy
    rw [es x hx, es y hy] at e
    exact h.2.1 x y hx hy e
  · rw [enA b q (by decide)] at hx
    rw [enS b q (by decide)] at hy
    rw [ea x hx, es y hy] at e
    exact h.2.2 x y hx hy e
def k_cCod : List Nat := [2302, 52301, 53300, 54400, 4401, 4402, 4403, 4404, 4405, 52201, 53200]
def m_cCod : List Nat := [10039, 14000, 14100, 14200, 14300, 14400, 14500, 10030, 10046]
theorem cCod_fr (b : BB T Tm S m) (h : cCod S m) (k : Kp T T' k_cCod S S') (q : Kp Tm Tm' m_cCod m m') : cCod S' m' := by
  refine ⟨fzC b k q (by decide) (by decide), fun c hc => ?_⟩
  rw [enC b q (by decide)] at hc
  obtain ⟨h1, ⟨s, s1, s2, s3⟩, h3, h4, h5, h6, h7, h8⟩ := h.2 c hc
  have tc := tyC b hc
  rw [lC b k (by decide) (by decide) hc, k.R (j := 0) tc (by decide) (by decide), k.O (j := 1) tc (by decide) (by decide), k.O (j := 2) tc (by decide) (by decide), k.O (j := 3) tc (by decide) (by decide), k.O (j := 4) tc (by decide) (by decide), k.O (j := 5) tc (by decide) (by decide), q.M b.2.2.1 (j := 40) (p := 93) rfl (by decide) (by decide), q.M b.2.2.1 (j := 41) (p := 94) rfl (by decide) (by decide), q.M b.2.2.1 (j := 42) (p := 95) rfl (by decide) (by decide), q.M b.2.2.1 (j := 43) (p := 96) rfl (by decide) (by decide), q.M b.2.2.1 (j := 44) (p := 97) rfl (by decide) (by decide), q.M b.2.2.1 (j := 45) (p := 98) rfl (by decide) (by decide), enS b q (by decide), enF b q (by decide)]
  refine ⟨fun d hd e => ?_, ⟨s, s1, by rw [lS b k (by decide) (by decide) s1]; exact s2, s3⟩, h3, h4, h5, h6, h7, h8⟩
  rw [enC b q (by decide)] at hd
  rw [lC b k (by decide) (by decide) hd] at e
  exact h1 d hd e
def k_cFre : List Nat := [52301, 53300, 4406, 4407, 4410, 4411]
def m_cFre : List Nat := [10039, 14500]
theorem cFre_fr (b : BB T Tm S m) (h : cFre S m) (k : Kp T T' k_cFre S S') (q : Kp Tm Tm' m_cFre m m') : cFre S' m' := by
  intro c hc
  rw [enC b q (by decide)] at hc
  have tc := tyC b hc
  rw [lC b k (by decide) (by decide) hc, k.O (j := 6) tc (by decide) (by decide), k.O (j := 7) tc (by decide) (by decide), k.O (j := 10) tc (by decide) (by decide), k.O (j := 11) tc (by decide) (by decide), q.M b.2.2.1 (j := 45) (p := 98) rfl (by decide) (by decide)]
  exact h c hc
def k_cFam : List Nat := [2402, 52401, 53400, 52301, 53300]
def m_cFam : List Nat := [10046, 10039, 14700, 14500]
theorem cFam_fr (b : BB T Tm S m) (h : cFam S m) (k : Kp T T' k_cFam S S') (q : Kp Tm Tm' m_cFam m m') : cFam S' m' := by
  refine ⟨fzF b k q (by decide) (by decide), fun f hf => ?_⟩
  rw [enF b q (by decide)] at hf
  obtain ⟨c, h1, h2, h3, h4, h5⟩ := h.2 f hf
  refine ⟨c, by rw [enC b q (by decide)]; exact h1, ?_, by rw [q.M b.2.2.1 (j := 47) (p := 99) rfl (by decide) (by decide)]; exact h3, by rw [q.M b.2.2.1 (j := 45) (p := 98) rfl (by decide) (by decide)]; exact h4, fun x hx e => h5 x (by rw [← enC b q (by decide)]; exact hx) (by rw [← q.M b.2.2.1 (j := 45) (p := 98) rfl (by decide) (by decide)]; exact e)⟩
  rw [lF b k (by decide) (by decide) hf, lC b k (by decide) (by decide) h1]
  exact h2
def k_cNum : List Nat := [52401, 53400, 4407, 4408, 4409]
def m_cNum : List Nat := [10046, 14800, 14900, 15000]
theorem cNum_fr (b : BB T Tm S m) (h : cNum S m) (k : Kp T T' k_cNum S S') (q : Kp Tm Tm' m_cNum m m') : cNum S' m' := by
  intro f hf
  rw [enF b q (by decide)] at hf
  have tf := tyF b hf
  rw [lF b k (by decide) (by decide) hf, k.O (j := 7) tf (by decide) (by decide), k.O (j := 8) tf (by decide) (by decide), k.O (j := 9) tf (by decide) (by decide), q.M b.2.2.1 (j := 48) (p := 100) rfl (by decide) (by decide), q.M b.2.2.1 (j := 49) (p := 101) rfl (by decide) (by decide), q.M b.2.2.1 (j := 50) (p := 102) rfl (by decide) (by decide)]
  exact h f hf
def k_cGod : List Nat := [52401, 53400, 4406, 4411]
def m_cGod : List Nat := [10046, 15100, 16900]
theorem cGod_fr (b : BB T Tm S m) (h : cGod S m) (k : Kp T T' k_cGod S S') (q : Kp Tm Tm' m_cGod m m') : cGod S' m' := by
  have e6 : sI m' 116 = sI m 116 := funext fun x => q.M b.2.2.1 (j := 69) (p := 116) rfl (by decide) (by decide) x
  refine ⟨fun x hx => ?_, fun f hf => ?_⟩
  · rw [enF b q (by decide)] at hx
    rw [e6]
    exact h.1 x hx
  · rw [enF b q (by decide)] at hf
    have tf := tyF b hf
    rw [lF b k (by decide) (by decide) hf, k.O (j := 6) tf (by decide) (by decide), k.O (j := 11) tf (by decide) (by decide), q.M b.2.2.1 (j := 51) (p := 103) rfl (by decide) (by decide), e6]
    exact h.2 f hf
def k_cTok : List Nat := [2502, 52501, 53500, 54500, 4501, 4502, 4503, 4504, 4505, 4506, 52401, 53400]
def m_cTok : List Nat := [10052, 15300, 15400, 15500, 15600, 15700, 15800, 15900, 10046]
theorem cTok_fr (b : BB T Tm S m) (h : cTok S m) (k : Kp T T' k_cTok S S') (q : Kp Tm Tm' m_cTok m m') : cTok S' m' := by
  refine ⟨fzT b k q (by decide) (by decide), fun t ht => ?_⟩
  rw [enT b q (by decide)] at ht
  obtain ⟨⟨f, f1, f2, f3⟩, hr⟩ := h.2 t ht
  have tt := tyT b ht
  rw [lT b k (by decide) (by decide) ht, k.R (j := 0) tt (by decide) (by decide), k.O (j := 1) tt (by decide) (by decide), k.O (j := 2) tt (by decide) (by decide), k.O (j := 3) tt (by decide) (by decide), k.O (j := 4) tt (by decide) (by decide), k.O (j := 5) tt (by decide) (by decide), k.O (j := 6) tt (by decide) (by decide), q.M b.2.2.1 (j := 53) (p := 104) rfl (by decide) (by decide), q.M b.2.2.1 (j := 54) (p := 105) rfl (by decide) (by decide), q.M b.2.2.1 (j := 55) (p := 106) rfl (by decide) (by decide), q.M b.2.2.1 (j := 56) (p := 107) rfl (by decide) (by decide), q.M b.2.2.1 (j := 57) (p := 108) rfl (by decide) (by decide), q.M b.2.2.1 (j := 58) (p := 109) rfl (by decide) (by decide), q.M b.2.2.1 (j := 59) (p := 110) rfl (by decide) (by decide)]
  exact ⟨⟨f, by rw [enF b q (by decide)]; exact f1, by rw [lF b k (by decide) (by decide) f1]; exact f2, f3⟩, hr⟩
def k_cAud : List Nat := [52401, 53400, 4410]
def m_cAud : List Nat := [10046, 10052, 15700, 15400]
theorem cAud_fr (b : BB T Tm S m) (h : cAud S m) (k : Kp T T' k_cAud S S') (q : Kp Tm Tm' m_cAud m m') : cAud S' m' := by
  intro f hf v hv
  rw [enF b q (by decide)] at hf
  have e1 : sI m' 108 = sI m 108 := funext fun x => q.M b.2.2.1 (j := 57) (p := 108) rfl (by decide) (by decide) x
  have e2 : sI m' 105 = sI m 105 := funext fun x => q.M b.2.2.1 (j := 54) (p := 105) rfl (by decide) (by decide) x
  rw [lF b k (by decide) (by decide) hf, k.O (j := 10) (tyF b hf) (by decide) (by decide), e1, e2, enT b q (by decide)]
  exact h f hf v hv
def k_cSrv : List Nat := [1701]
def m_cSrv : List Nat := [16600]
theorem cSrv_fr (b : BB T Tm S m) (h : cSrv S m) (k : Kp T T' k_cSrv S S') (q : Kp Tm Tm' m_cSrv m m') : cSrv S' m' := by
  intro v hv
  rw [k.O (j := 1) (kt_S b.1.1 b.2.1 hv) (by decide) (by decide), q.M b.2.2.1 (j := 66) (p := 113) rfl (by decide) (by decide)]
  exact h v hv
def k_cNed : List Nat := [1700]
def m_cNed : List Nat := [13800]
theorem cNed_fr (b : BB T Tm S m) (h : cNed S m) (k : Kp T T' k_cNed S S') (q : Kp Tm Tm' m_cNed m m') : cNed S' m' := by
  intro v hv
  rw [k.O (j := 0) (kt_S b.1.1 b.2.1 hv) (by decide) (by decide), q.M b.2.2.1 (j := 38) (p := 92) rfl (by decide) (by decide)]
  exact h v hv
def k_cChe : List Nat := [1702, 1703]
def m_cChe : List Nat := [16700, 16800]
theorem cChe_fr (b : BB T Tm S m) (h : cChe S m) (k : Kp T T' k_cChe S S') (q : Kp Tm Tm' m_cChe m m') : cChe S' m' := by
  intro v hv
  have t := kt_S b.1.1 b.2.1 hv
  rw [k.O (j := 2) t (by decide) (by decide), k.O (j := 3) t (by decide) (by decide), q.M b.2.2.1 (j := 67) (p := 114) rfl (by decide) (by decide), q.M b.2.2.1 (j := 68) (p := 115) rfl (by decide) (by decide)]
  exact h v hv
def k_cKey : List Nat := [1000, 1001, 1002, 1003, 1004, 1100]
def m_cKey : List Nat := [10000, 10060, 10061, 10062, 10063, 16400, 16500]
theorem cKey_fr (b : BB T Tm S m) (h : cKey S m) (k : Kp T T' k_cKey S S') (q : Kp Tm Tm' m_cKey m m') : cKey S' m' := by
  unfold cKey at *
  obtain ⟨-, -, -, -, -, -, -, -, -, t25, t26, -⟩ := kt4 b.1.1
  obtain ⟨c, g, h1, h2, h3, h4, h5, h6, h7, h8⟩ := h
  have e1 : sI m' 111 = sI m 111 := funext fun x => q.M b.2.2.1 (j := 64) (p := 111) rfl (by decide) (by decide) x
  have e2 : sI m' 112 = sI m 112 := funext fun x => q.M b.2.2.1 (j := 65) (p := 112) rfl (by decide) (by decide) x
  have e3 : ∀ x, sI S' 26 x = sI S 26 x := fun x => k.A t26 (by decide) (by decide) x
  refine ⟨c, g, h1, ?_, ?_, ?_, ?_, fun x hx => ?_, fun x hx => ?_, fun x hx => ?_⟩
  · rw [q.F (j := 60) b.2.2.1 (by decide), q.F (j := 61) b.2.2.1 (by decide)]
    exact h2
  · rw [k.O (j := 0) t25 (by decide) (by decide), k.O (j := 1) t25 (by decide) (by decide), k.O (j := 2) t25 (by decide) (by decide), k.O (j := 3) t25 (by decide) (by decide), q.F (j := 60) b.2.2.1 (by decide), q.F (j := 61) b.2.2.1 (by decide), q.F (j := 62) b.2.2.1 (by decide), q.F (j := 63) b.2.2.1 (by decide)]
    exact h3
  · rw [e2]
    exact h4
  · rw [q.F (j := 62) b.2.2.1 (by decide), e2]
    exact h5
  · rw [e2, e3]
    exact h6 x hx
  · rw [e1, e2]
    exact h7 x hx
  · unfold KP at *
    rw [k.O (j := 4) t25 (by decide) (by decide), q.F (j := 60) b.2.2.1 (by decide), q.F (j := 0) b.2.2.1 (by decide), e1, e2]
    exact h8 x hx
def k_cRec : List Nat := [2602, 52601, 53600, 54600, 4601, 4602, 4603, 4604]
def m_cRec : List Nat := [10070, 17100, 17200, 17300, 17400, 17500]
theorem cRec_fr (b : BB T Tm S m) (h : cRec S m) (k : Kp T T' k_cRec S S') (q : Kp Tm Tm' m_cRec m m') : cRec S' m' := by
  refine ⟨fzR b k q (by decide) (by decide), fun r hr hr2 => ?_, fun r hr => ?_⟩
  · rw [enR b q (by decide)] at hr
    rw [q.M b.2.2.1 (j := 74) (p := 120) rfl (by decide) (by decide), q.M b.2.2.1 (j := 75) (p := 121) rfl (by decide) (by decide)]
    exact h.2.1 r hr hr2
  · rw [enR b q (by decide)] at hr
    have tr := tyR b hr
    obtain ⟨h1, hh⟩ := h.2.2 r hr
    rw [lR b k (by decide) (by decide) hr, k.R (j := 0) tr (by decide) (by decide), k.O (j := 1) tr (by decide) (by decide), k.O (j := 2) tr (by decide) (by decide), k.O (j := 3) tr (by decide) (by decide), k.O (j := 4) tr (by decide) (by decide), q.M b.2.2.1 (j := 71) (p := 117) rfl (by decide) (by decide), q.M b.2.2.1 (j := 72) (p := 118) rfl (by decide) (by decide), q.M b.2.2.1 (j := 73) (p := 119) rfl (by decide) (by decide), q.M b.2.2.1 (j := 74) (p := 120) rfl (by decide) (by decide), q.M b.2.2.1 (j := 75) (p := 121) rfl (by decide) (by decide)]
    refine ⟨fun c hc e => ?_, hh⟩
    rw [enR b q (by decide)] at hc
    rw [lR b k (by decide) (by decide) hc] at e
    exact h1 c hc e
def k_cAU : List Nat := [202, 203, 300, 400, 100]
def m_cAU : List Nat := [10077, 10081, 10000, 17800, 17900, 18000, 10030, 13500]
theorem cAU_fr (b : BB T Tm S m) (h : cAU S m) (k : Kp T T' k_cAU S S') (q : Kp Tm Tm' m_cAU m m') : cAU S' m' := by
  obtain ⟨t4, t5, t6, t7, -⟩ := kt4 b.1.1
  unfold cAU at *
  rw [enS b q (by decide)]
  exact AU_cong h (k.O (j := 2) t5 (by decide) (by decide)) (funext fun x => k.A t6 (by decide) (by decide) x) (q.F (j := 77) b.2.2.1 (by decide)) (funext fun x => q.M b.2.2.1 (j := 78) (p := 123) rfl (by decide) (by decide) x) (funext fun x => q.M b.2.2.1 (j := 79) (p := 124) rfl (by decide) (by decide) x) (funext fun x => q.M b.2.2.1 (j := 35) (p := 89) rfl (by decide) (by decide) x) (k.O (j := 3) t5 (by decide) (by decide)) (funext fun x => k.A t7 (by decide) (by decide) x) (fun z => (k.O (j := 0) t4 (by decide) (by decide)).trans (z.trans (q.F (j := 0) b.2.2.1 (by decide)).symm)) (q.F (j := 81) b.2.2.1 (by decide)) (funext fun x => q.M b.2.2.1 (j := 80) (p := 125) rfl (by decide) (by decide) x)
end
/-- all components -/
def FR (S m : AS) : Prop := cNW S m ∧ cPF S m ∧ cWgt S m ∧ cFac S m ∧ cWrg S m ∧ cKn S m ∧ cCon S m ∧ cHlp S m ∧ cAwy S m ∧ cPts S m ∧ cLnk S m ∧ cVer S m ∧ cDrB S m ∧ cAtt S m ∧ cAst S m ∧ cAsh S m ∧ cSes S m ∧ cUsd S m ∧ cLiv S m ∧ cSsh S m ∧ cMin S m ∧ cCod S m ∧ cFre S m ∧ cFam S m ∧ cNum S m ∧ cGod S m ∧ cTok S m ∧ cAud S m ∧ cSrv S m ∧ cNed S m ∧ cChe S m ∧ cKey S m ∧ cRec S m ∧ cAU S m
theorem FR.NW {S m : AS} (h : FR S m) : cNW S m := h.1
theorem FR.PF {S m : AS} (h : FR S m) : cPF S m := h.2.1
theorem FR.Wgt {S m : AS} (h : FR S m) : cWgt S m := h.2.2.1
theorem FR.Fac {S m : AS} (h : FR S m) : cFac S m := h.2.2.2.1
theorem FR.Wrg {S m : AS} (h : FR S m) : cWrg S m := h.2.2.2.2.1
theorem FR.Kn {S m : AS} (h : FR S m) : cKn S m := h.2.2.2.2.2.1
theorem FR.Con {S m : AS} (h : FR S m) : cCon S m := h.2.2.2.2.2.2.1
theorem FR.Hlp {S m : AS} (h : FR S m) : cHlp S m := h.2.2.2.2.2.2.2.1
theorem FR.Awy {S m : AS} (h : FR S m) : cAwy S m := h.2.2.2.2.2.2.2.2.1
theorem FR.Pts {S m : AS} (h : FR S m) : cPts S m := h.2.2.2.2.2.2.2.2.2.1
theorem FR.Lnk {S m : AS} (h : FR S m) : cLnk S m := h.2.2.2.2.2.2.2.2.2.2.1
theorem FR.Ver {S m : AS} (h : FR S m) : cVer S m := h.2.2.2.2.2.2.2.2.2.2.2.1
theorem FR.DrB {S m : AS} (h : FR S m) : cDrB S m := h.2.2.2.2.2.2.2.2.2.2.2.2.1
theorem FR.Att {S m : AS} (h : FR S m) : cAtt S m := h.2.2.2.2.2.2.2.2.2.2.2.2.2.1
theorem FR.Ast {S m : AS} (h : FR S m) : cAst S m := h.2.2.2.2.2.2.2.2.2.2.2.2.2.2.1
theorem FR.Ash {S m : AS} (h : FR S m) : cAsh S m := h.2.2.2.2.2.2.2.2.2.2.2.2.2.2.2.1
theorem FR.Ses {S m : AS} (h : FR S m) : cSes S m := h.2.2.2.2.2.2.2.2.2.2.2.2.2.2.2.2.1
theorem FR.Usd {S m : AS} (h : FR S m) : cUsd S m := h.2.2.2.2.2.2.2.2.2.2.2.2.2.2.2.2.2.1
theorem FR.Liv {S m : AS} (h : FR S m) : cLiv S m := h.2.2.2.2.2.2.2.2.2.2.2.2.2.2.2.2.2.2.1
theorem FR.Ssh {S m : AS} (h : FR S m) : cSsh S m := h.2.2.2.2.2.2.2.2.2.2.2.2.2.2.2.2.2.2.2.1
theorem FR.Min {S m : AS} (h : FR S m) : cMin S m := h.2.2.2.2.2.2.2.2.2.2.2.2.2.2.2.2.2.2.2.2.1
theorem FR.Cod {S m : AS} (h : FR S m) : cCod S m := h.2.2.2.2.2.2.2.2.2.2.2.2.2.2.2.2.2.2.2.2.2.1
theorem FR.Fre {S m : AS} (h : FR S m) : cFre S m := h.2.2.2.2.2.2.2.2.2.2.2.2.2.2.2.2.2.2.2.2.2.2.1
theorem FR.Fam {S m : AS} (h : FR S m) : cFam S m := h.2.2.2.2.2.2.2.2.2.2.2.2.2.2.2.2.2.2.2.2.2.2.2.1
theorem FR.Num {S m : AS} (h : FR S m) : cNum S m := h.2.2.2.2.2.2.2.2.2.2.2.2.2.2.2.2.2.2.2.2.2.2.2.2.1
theorem FR.God {S m : AS} (h : FR S m) : cGod S m := h.2.2.2.2.2.2.2.2.2.2.2.2.2.2.2.2.2.2.2.2.2.2.2.2.2.1
theorem FR.Tok {S m : AS} (h : FR S m) : cTok S m := h.2.2.2.2.2.2.2.2.2.2.2.2.2.2.2.2.2.2.2.2.2.2.2.2.2.2.1
theorem FR.Aud {S m : AS} (h : FR S m) : cAud S m := h.2.2.2.2.2.2.2.2.2.2.2.2.2.2.2.2.2.2.2.2.2.2.2.2.2.2.2.1
theorem FR.Srv {S m : AS} (h : FR S m) : cSrv S m := h.2.2.2.2.2.2.2.2.2.2.2.2.2.2.2.2.2.2.2.2.2.2.2.2.2.2.2.2.1
theorem FR.Ned {S m : AS} (h : FR S m) : cNed S m := h.2.2.2.2.2.2.2.2.2.2.2.2.2.2.2.2.2.2.2.2.2.2.2.2.2.2.2.2.2.1
theorem FR.Che {S m : AS} (h : FR S m) : cChe S m := h.2.2.2.2.2.2.2.2.2.2.2.2.2.2.2.2.2.2.2.2.2.2.2.2.2.2.2.2.2.2.1
theorem FR.Key {S m : AS} (h : FR S m) : cKey S m := h.2.2.2.2.2.2.2.2.2.2.2.2.2.2.2.2.2.2.2.2.2.2.2.2.2.2.2.2.2.2.2.1
theorem FR.Rec {S m : AS} (h : FR S m) : cRec S m := h.2.2.2.2.2.2.2.2.2.2.2.2.2.2.2.2.2.2.2.2.2.2.2.2.2.2.2.2.2.2.2.2.1
theorem FR.AU {S m : AS} (h : FR S m) : cAU S m := h.2.2.2.2.2.2.2.2.2.2.2.2.2.2.2.2.2.2.2.2.2.2.2.2.2.2.2.2.2.2.2.2.2
theorem FR_ZZ {S m : AS} (h : FR S m) : ZZ S m := ⟨h.Ver.1, h.Att.1, h.Ses.1, h.Cod.1, h.Fam.1, h.Tok.1, h.Rec.1⟩
theorem FR_BB {T Tm : Nat → Nat} {S m : AS} (hT : TV T S) (hm : TI Tm m) (h : FR S m) : BB T Tm S m := ⟨hT, h.PF, hm, FR_ZZ h⟩
def k_FR : List Nat := k_cNW ++ (k_cPF ++ (k_cWgt ++ (k_cFac ++ (k_cWrg ++ (k_cKn ++ (k_cCon ++ (k_cHlp ++ (k_cAwy ++ (k_cPts ++ (k_cLnk ++ (k_cVer ++ (k_cDrB ++ (k_cAtt ++ (k_cAst ++ (k_cAsh ++ (k_cSes ++ (k_cUsd ++ (k_cLiv ++ (k_cSsh ++ (k_cMin ++ (k_cCod ++ (k_cFre ++ (k_cFam ++ (k_cNum ++ (k_cGod ++ (k_cTok ++ (k_cAud ++ (k_cSrv ++ (k_cNed ++ (k_cChe ++ (k_cKey ++ (k_cRec ++ (k_cAU)))))))))))))))))))))))))))))))))
def m_FR : List Nat := m_cNW ++ (m_cPF ++ (m_cWgt ++ (m_cFac ++ (m_cWrg ++ (m_cKn ++ (m_cCon ++ (m_cHlp ++ (m_cAwy ++ (m_cPts ++ (m_cLnk ++ (m_cVer ++ (m_cDrB ++ (m_cAtt ++ (m_cAst ++ (m_cAsh ++ (m_cSes ++ (m_cUsd ++ (m_cLiv ++ (m_cSsh ++ (m_cMin ++ (m_cCod ++ (m_cFre ++ (m_cFam ++ (m_cNum ++ (m_cGod ++ (m_cTok ++ (m_cAud ++ (m_cSrv ++ (m_cNed ++ (m_cChe ++ (m_cKey ++ (m_cRec ++ (m_cAU)))))))))))))))))))))))))))))))))
theorem Kp_sub {T T' : Nat → Nat} {cs ds : List Nat} {S S' : AS} (h : Kp T T' cs S S') (hs : ∀ z, z ∈ ds → z ∈ cs) : Kp T T' ds S S' := ⟨h.1, fun k j a b => h.2.1 k j a (hs _ b), fun k j a b => h.2.2 k j a (hs _ b)⟩
theorem FR_fr {T T' Tm Tm' : Nat → Nat} {S S' m m' : AS} (hT : TV T S) (hm : TI Tm m) (h : FR S m) (k : Kp T T' k_FR S S') (q : Kp Tm Tm' m_FR m m') : FR S' m' := by
  have b := FR_BB hT hm h
  have K : ∀ {ds : List Nat}, ds.all (fun z => k_FR.contains z) = true → Kp T T' ds S S' := fun hs => Kp_sub k (fun z hz => List.contains_iff_mem.mp (List.all_eq_true.mp hs z hz))
  have Q : ∀ {ds : List Nat}, ds.all (fun z => m_FR.contains z) = true → Kp Tm Tm' ds m m' := fun hs => Kp_sub q (fun z hz => List.contains_iff_mem.mp (List.all_eq_true.mp hs z hz))
  exact ⟨cNW_fr b h.NW (K (by decide +kernel)) (Q (by decide +kernel)), cPF_fr b h.PF (K (by decide +kernel)) (Q (by decide +kernel)), cWgt_fr b h.Wgt (K (by decide +kernel)) (Q (by decide +kernel)), cFac_fr b h.Fac (K (by decide +kernel)) (Q (by decide +kernel)), cWrg_fr b h.Wrg (K (by decide +kernel)) (Q (by decide +kernel)), cKn_fr b h.Kn (K (by decide +kernel)) (Q (by decide +kernel)), cCon_fr b h.Con (K (by decide +kernel)) (Q (by decide +kernel)), cHlp_fr b h.Hlp (K (by decide +kernel)) (Q (by decide +kernel)), cAwy_fr b h.Awy (K (by decide +kernel)) (Q (by decide +kernel)), cPts_fr b h.Pts (K (by decide +kernel)) (Q (by decide +kernel)), cLnk_fr b h.Lnk (K (by decide +kernel)) (Q (by decide +kernel)), cVer_fr b h.Ver (K (by decide +kernel)) (Q (by decide +kernel)), cDrB_fr b h.DrB (K (by decide +kernel)) (Q (by decide +kernel)), cAtt_fr b h.Att (K (by decide +kernel)) (Q (by decide +kernel)), cAst_fr b h.Ast (K (by decide +kernel)) (Q (by decide +kernel)), cAsh_fr b h.Ash (K (by decide +kernel)) (Q (by decide +kernel)), cSes_fr b h.Ses (K (by decide +kernel)) (Q (by decide +kernel)), cUsd_fr b h.Usd (K (by decide +kernel)) (Q (by decide +kernel)), cLiv_fr b h.Liv (K (by decide +kernel)) (Q (by decide +kernel)), cSsh_fr b h.Ssh (K (by decide +kernel)) (Q (by decide +kernel)), cMin_fr b h.Min (K (by decide +kernel)) (Q (by decide +kernel)), cCod_fr b h.Cod (K (by decide +kernel)) (Q (by decide +kernel)), cFre_fr b h.Fre (K (by decide +kernel)) (Q (by decide +kernel)), cFam_fr b h.Fam (K (by decide +kernel)) (Q (by decide +kernel)), cNum_fr b h.Num (K (by decide +kernel)) (Q (by decide +kernel)), cGod_fr b h.God (K (by decide +kernel)) (Q (by decide +kernel)), cTok_fr b h.Tok (K (by decide +kernel)) (Q (by decide +kernel)), cAud_fr b h.Aud (K (by decide +kernel)) (Q (by decide +kernel)), cSrv_fr b h.Srv (K (by decide +kernel)) (Q (by decide +kernel)), cNed_fr b h.Ned (K (by decide +kernel)) (Q (by decide +kernel)), cChe_fr b h.Che (K (by decide +kernel)) (Q (by decide +kernel)), cKey_fr b h.Key (K (by decide +kernel)) (Q (by decide +kernel)), cRec_fr b h.Rec (K (by decide +kernel)) (Q (by decide +kernel)), cAU_fr b h.AU (K (by decide +kernel)) (Q (by decide +kernel))⟩
