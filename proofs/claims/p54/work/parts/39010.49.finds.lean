/-! ===== found or refused ===== -/
def IX (n : Nat) (a : Int32) : Prop := ∃ s, s < n ∧ a = Int32.ofNat s
theorem IX_iff {n : Nat} {a : Int32} (hn : n ≤ 300) : IX n a ↔ 0 ≤ a.toInt ∧ a.toInt < (n : Int) := by
  constructor
  · rintro ⟨s, h1, rfl⟩
    rw [oi (by omega)]
    omega
  · rintro ⟨h1, h2⟩
    refine ⟨a.toNatClampNeg, by have := natI h1; omega, ?_⟩
    exact Int32.toInt_inj.mp (by rw [oi (by have := natI h1; omega)]; exact (natI h1).symm)
theorem IX_lit {n : Nat} {a c : Int32} (hn : n ≤ 299) (hc : c.toInt = (n : Int)) : (0 ≤ a ∧ a ≤ c) ↔ IX (n + 1) a := by
  rw [IX_iff (by omega), Int32.le_iff_toInt_le, Int32.le_iff_toInt_le, hc, show (0 : Int32).toInt = 0 from by decide]
  omega
theorem IX_sub {n : Nat} {a : Int32} (hn : n ≤ 299) : (0 ≤ a ∧ a ≤ Int32.ofNat n - 1) ↔ IX n a := by
  have e : (Int32.ofNat n - 1).toInt = (n : Int) - 1 := by
    rw [Int32.toInt_sub, oi (by omega), show (1 : Int32).toInt = 1 from by decide]
    exact bm (by omega) (by omega)
  rw [IX_iff (by omega), Int32.le_iff_toInt_le, Int32.le_iff_toInt_le, e, show (0 : Int32).toInt = 0 from by decide]
  omega
theorem p_rI {S : AS} {a n : Int32} : Hp (f_K_requireIndex S a n) (fun q => (0 ≤ a.toInt ∧ a.toInt < n.toInt ∧ q = (.inl (), S)) ∨ (¬ (0 ≤ a.toInt ∧ a.toInt < n.toInt) ∧ q = (.inr eX, wX S))) := by
  unfold f_K_requireIndex f_K_requireIndex_B9
  refine p_if (fun c => p_ret (Or.inr ⟨fun q => by have := lt0.mp c; omega, rfl⟩)) (fun c => p_if (fun d => p_ret (Or.inl ⟨Int.not_lt.mp (fun q => c (lt0.mpr q)), Int32.lt_iff_toInt_lt.mp d, rfl⟩)) (fun d => p_ret (Or.inr ⟨fun q => d (Int32.lt_iff_toInt_lt.mpr q.2), rfl⟩)))
theorem p_bx {α β : Type} {x : Option ((α ⊕ String) × AS)} {F : α → AS → Option ((β ⊕ String) × AS)} {P : (α ⊕ String) × AS → Prop} {Q : (β ⊕ String) × AS → Prop} (hc : Hp x P) (h : ∀ v S', P (.inl v, S') → Hp (F v S') Q) (g : ∀ e S', P (.inr e, S') → Q (.inr e, S')) : Hp (kr_bx x F) Q := fun a ha => by
  match x, ha, hc with
  | some (.inl v, S'), ha, hc => exact h v S' (hc _ rfl) a ha
  | some (.inr v, S'), ha, hc =>
    cases ha
    exact g v S' (hc _ rfl)
section
variable {T Tm : Nat → Nat} {S m : AS}
theorem x_fS (b : BB T Tm S m) (a : Int32) : Hp (f_K_findSession S (some 4) a) (fun q => (∃ s, s < nS m ∧ a = Int32.ofNat s ∧ q = (.inl (some (lel S 19 s)), S)) ∨ (¬ IX (nS m) a ∧ q = (.inr eX, wX S))) := by
  have r := (K4F_of b.1.1).1 8 19 rfl
  obtain ⟨z1, z2, z3⟩ := zS b
  have zz : (sI S 19 2).toInt = (nS m : Int) := by
    rw [z3, z2]
    exact oi (Nat.lt_of_le_of_lt z1 (by decide))
  unfold f_K_findSession
  refine p_of (st_gRe r) (p_of st_rv (p_of st_size (p_bx p_rI (fun v S' p => ?_) (fun e S' p => ?_))))
  · rcases p with ⟨h1, h2, e⟩ | ⟨-, e⟩
    · cases e
      rw [zz] at h2
      obtain ⟨s, s1, rfl⟩ := (IX_iff (n := nS m) (Nat.le_trans z1 (by decide))).mpr ⟨h1, h2⟩
      refine p_of (st_gRe r) (p_of st_rv (p_of (st_get (oc (by have := z1; unfold nS at s1; omega)) (atS b s1)) (p_of st_cc (p_ret (Or.inl ⟨s, s1, rfl, rfl⟩)))))
    · cases e
  · rcases p with ⟨h1, h2, e⟩ | ⟨h, e⟩
    · cases e
    · cases e
      rw [zz, ← IX_iff (n := nS m) (Nat.le_trans z1 (by decide))] at h
      exact Or.inr ⟨h, rfl⟩
theorem x_MS (b : BB T Tm S m) (a : Int32) : Hp (f_M_isSession m (some 57) a) (fun q => (IX (nS m) a ∧ q = (1, m)) ∨ (¬ IX (nS m) a ∧ q = (0, m))) := by
  obtain ⟨z1, z2, z3⟩ := zS b
  have n2 : nS m ≤ 299 := Nat.le_trans z1 (by decide)
  unfold f_M_isSession
  refine p_of (st_gIe (v := Int32.ofNat (nS m)) z2) (p_of (st_b2 (q_isIn m a 0 _)) (p_of st_z (p_ret ?_)))
  by_cases c : IX (nS m) a
  · exact Or.inl ⟨c, by rw [if_pos ((IX_sub n2).mpr c)]⟩
  · exact Or.inr ⟨c, by rw [if_neg (fun q => c ((IX_sub n2).mp q))]⟩
/-- found on both sides, or refused on both -/
theorem h_fS (b : BB T Tm S m) (a : Int32) {γ : Type} {F : Option Nat → AS → Option ((γ ⊕ String) × AS)} {G : AS → Option (Int32 × AS)} {Q : (γ ⊕ String) × AS → Int32 × AS → Prop} (h1 : ∀ s, s < nS m → a = Int32.ofNat s → H2 (F (some (lel S 19 s)) S) (G (wI m 57 82 0)) Q) (h0 : Q (.inr eX, wX S) (0, wI m 57 82 1)) :
    H2 ((kr_rv S 22 (some 4)).bind fun _ => kr_bx (f_K_findSession S (some 4) a) F) ((kr_rv m 39 (some 57)).bind fun _ => kr_b2 (f_M_isSession m (some 57) a) fun v3 S2 => (kr_rv S2 39 (some 57)).bind fun _ => kr_b2 (f_M_may S2 (some 57) v3) fun v6 S5 => if v6 = 0 then some ((0 : Int32), S5) else G S5) Q := by
  refine l_of st_rv (m_of st_rv (m_p2 (x_MS b a) (fun v S2 p => ?_)))
  rcases p with ⟨p1, p2⟩ | ⟨p1, p2⟩
  · cases p2
    refine m_of st_rv (m_p2 p_may (fun v S5 p => ?_))
    cases p
    refine m_of (st_F one0) ?_
    rw [if_neg one0]
    refine l_bx (fun v S' e => ?_) (fun v S' e => ?_)
    · rcases x_fS b a _ e with ⟨s, s1, s2, e2⟩ | ⟨no, e2⟩
      · cases e2
        exact h1 s s1 s2
      · cases e2
    · rcases x_fS b a _ e with ⟨s, s1, s2, e2⟩ | ⟨no, e2⟩
      · cases e2
      · exact absurd p1 no
  · cases p2
    refine m_of st_rv (m_p2 p_may (fun v S5 p => ?_))
    cases p
    refine m_of (st_T rfl) ?_
    rw [if_pos rfl]
    refine l_bx (fun v S' e => ?_) (fun v S' e => ?_)
    · rcases x_fS b a _ e with ⟨s, s1, s2, e2⟩ | ⟨no, e2⟩
      · exact absurd ⟨s, s1, s2⟩ p1
      · cases e2
    · rcases x_fS b a _ e with ⟨s, s1, s2, e2⟩ | ⟨no, e2⟩
      · cases e2
      · cases e2
        exact h2_ret h0
theorem x_fA (b : BB T Tm S m) (a : Int32) : Hp (f_K_findAttempt S (some 4) a) (fun q => (∃ s, s < uA m ∧ a = Int32.ofNat s ∧ q = (.inl (some (lel S 18 s)), S)) ∨ (¬ IX (uA m) a ∧ q = (.inr eX, wX S))) := by
  have r := (K4F_of b.1.1).1 7 18 rfl
  obtain ⟨z1, z2, z3⟩ := zA b
  have zz : (sI S 18 2).toInt = (uA m : Int) := by
    rw [z3, z2]
    exact oi (Nat.lt_of_le_of_lt z1 (by decide))
  unfold f_K_findAttempt
  refine p_of (st_gRe r) (p_of st_rv (p_of st_size (p_bx p_rI (fun v S' p => ?_) (fun e S' p => ?_))))
  · rcases p with ⟨h1, h2, e⟩ | ⟨-, e⟩
    · cases e
      rw [zz] at h2
      obtain ⟨s, s1, rfl⟩ := (IX_iff (n := uA m) (Nat.le_trans z1 (by decide))).mpr ⟨h1, h2⟩
      refine p_of (st_gRe r) (p_of st_rv (p_of (st_get (oc (by have := z1; unfold uA at s1; omega)) (atA b s1)) (p_of st_cc (p_ret (Or.inl ⟨s, s1, rfl, rfl⟩)))))
    · cases e
  · rcases p with ⟨h1, h2, e⟩ | ⟨h, e⟩
    · cases e
    · cases e
      rw [zz, ← IX_iff (n := uA m) (Nat.le_trans z1 (by decide))] at h
      exact Or.inr ⟨h, rfl⟩
theorem x_MA (b : BB T Tm S m) (a : Int32) : Hp (f_M_isAttempt m (some 57) a) (fun q => (IX (uA m) a ∧ q = (1, m)) ∨ (¬ IX (uA m) a ∧ q = (0, m))) := by
  obtain ⟨z1, z2, z3⟩ := zA b
  have n2 : uA m ≤ 299 := Nat.le_trans z1 (by decide)
  unfold f_M_isAttempt
  refine p_of (st_gIe (v := Int32.ofNat (uA m)) z2) (p_of (st_b2 (q_isIn m a 0 _)) (p_of st_z (p_ret ?_)))
  by_cases c : IX (uA m) a
  · exact Or.inl ⟨c, by rw [if_pos ((IX_sub n2).mpr c)]⟩
  · exact Or.inr ⟨c, by rw [if_neg (fun q => c ((IX_sub n2).mp q))]⟩
/-- found on both sides, or refused on both -/
theorem h_fA (b : BB T Tm S m) (a : Int32) {γ : Type} {F : Option Nat → AS → Option ((γ ⊕ String) × AS)} {G : AS → Option (Int32 × AS)} {Q : (γ ⊕ String) × AS → Int32 × AS → Prop} (h1 : ∀ s, s < uA m → a = Int32.ofNat s → H2 (F (some (lel S 18 s)) S) (G (wI m 57 82 0)) Q) (h0 : Q (.inr eX, wX S) (0, wI m 57 82 1)) :
    H2 ((kr_rv S 22 (some 4)).bind fun _ => kr_bx (f_K_findAttempt S (some 4) a) F) ((kr_rv m 39 (some 57)).bind fun _ => kr_b2 (f_M_isAttempt m (some 57) a) fun v3 S2 => (kr_rv S2 39 (some 57)).bind fun _ => kr_b2 (f_M_may S2 (some 57) v3) fun v6 S5 => if v6 = 0 then some ((0 : Int32), S5) else G S5) Q := by
  refine l_of st_rv (m_of st_rv (m_p2 (x_MA b a) (fun v S2 p => ?_)))
  rcases p with ⟨p1, p2⟩ | ⟨p1, p2⟩
  · cases p2
    refine m_of st_rv (m_p2 p_may (fun v S5 p => ?_))
    cases p
    refine m_of (st_F one0) ?_
    rw [if_neg one0]
    refine l_bx (fun v S' e => ?_) (fun v S' e => ?_)
    · rcases x_fA b a _ e with ⟨s, s1, s2, e2⟩ | ⟨no, e2⟩
      · cases e2
        exact h1 s s1 s2
      · cases e2
    · rcases x_fA b a _ e with ⟨s, s1, s2, e2⟩ | ⟨no, e2⟩
      · cases e2
      · exact absurd p1 no
  · cases p2
    refine m_of st_rv (m_p2 p_may (fun v S5 p => ?_))
    cases p
    refine m_of (st_T rfl) ?_
    rw [if_pos rfl]
    refine l_bx (fun v S' e => ?_) (fun v S' e => ?_)
    · rcases x_fA b a _ e with ⟨s, s1, s2, e2⟩ | ⟨no, e2⟩
      · exact absurd ⟨s, s1, s2⟩ p1
      · cases e2
    · rcases x_fA b a _ e with ⟨s, s1, s2, e2⟩ | ⟨no, e2⟩
      · cases e2
      · cases e2
        exact h2_ret h0
theorem x_fF (b : BB T Tm S m) (a : Int32) : Hp (f_K_findFamily S (some 4) a) (fun q => (∃ s, s < nF m ∧ a = Int32.ofNat s ∧ q = (.inl (some (lel S 23 s)), S)) ∨ (¬ IX (nF m) a ∧ q = (.inr eX, wX S))) := by
  have r := (K4F_of b.1.1).1 13 23 rfl
  obtain ⟨z1, z2, z3⟩ := zF b
  have zz : (sI S 23 2).toInt = (nF m : Int) := by
    rw [z3, z2]
    exact oi (Nat.lt_of_le_of_lt z1 (by decide))
  unfold f_K_findFamily
  refine p_of (st_gRe r) (p_of st_rv (p_of st_size (p_bx p_rI (fun v S' p => ?_) (fun e S' p => ?_))))
  · rcases p with ⟨h1, h2, e⟩ | ⟨-, e⟩
    · cases e
      rw [zz] at h2
      obtain ⟨s, s1, rfl⟩ := (IX_iff (n := nF m) (Nat.le_trans z1 (by decide))).mpr ⟨h1, h2⟩
      refine p_of (st_gRe r) (p_of st_rv (p_of (st_get (oc (by have := z1; unfold nF at s1; omega)) (atF b s1)) (p_of st_cc (p_ret (Or.inl ⟨s, s1, rfl, rfl⟩)))))
    · cases e
  · rcases p with ⟨h1, h2, e⟩ | ⟨h, e⟩
    · cases e
    · cases e
      rw [zz, ← IX_iff (n := nF m) (Nat.le_trans z1 (by decide))] at h
      exact Or.inr ⟨h, rfl⟩
theorem x_MF (b : BB T Tm S m) (a : Int32) : Hp (f_M_isFamily m (some 57) a) (fun q => (IX (nF m) a ∧ q = (1, m)) ∨ (¬ IX (nF m) a ∧ q = (0, m))) := by
  obtain ⟨z1, z2, z3⟩ := zF b
  have n2 : nF m ≤ 299 := Nat.le_trans z1 (by decide)
  unfold f_M_isFamily
  refine p_of (st_gIe (v := Int32.ofNat (nF m)) z2) (p_of (st_b2 (q_isIn m a 0 _)) (p_of st_z (p_ret ?_)))
  by_cases c : IX (nF m) a
  · exact Or.inl ⟨c, by rw [if_pos ((IX_sub n2).mpr c)]⟩
  · exact Or.inr ⟨c, by rw [if_neg (fun q => c ((IX_sub n2).mp q))]⟩
/-- found on both sides, or refused on both -/
theorem h_fF (b : BB T Tm S m) (a : Int32) {γ : Type} {F : Option Nat → AS → Option ((γ ⊕ String) × AS)} {G : AS → Option (Int32 × AS)} {Q : (γ ⊕ String) × AS → Int32 × AS → Prop} (h1 : ∀ s, s < nF m → a = Int32.ofNat s → H2 (F (some (lel S 23 s)) S) (G (wI m 57 82 0)) Q) (h0 : Q (.inr eX, wX S) (0, wI m 57 82 1)) :
    H2 ((kr_rv S 22 (some 4)).bind fun _ => kr_bx (f_K_findFamily S (some 4) a) F) ((kr_rv m 39 (some 57)).bind fun _ => kr_b2 (f_M_isFamily m (some 57) a) fun v3 S2 => (kr_rv S2 39 (some 57)).bind fun _ => kr_b2 (f_M_may S2 (some 57) v3) fun v6 S5 => if v6 = 0 then some ((0 : Int32), S5) else G S5) Q := by
  refine l_of st_rv (m_of st_rv (m_p2 (x_MF b a) (fun v S2 p => ?_)))
  rcases p with ⟨p1, p2⟩ | ⟨p1, p2⟩
  · cases p2
    refine m_of st_rv (m_p2 p_may (fun v S5 p => ?_))
    cases p
    refine m_of (st_F one0) ?_
    rw [if_neg one0]
    refine l_bx (fun v S' e => ?_) (fun v S' e => ?_)
    · rcases x_fF b a _ e with ⟨s, s1, s2, e2⟩ | ⟨no, e2⟩
      · cases e2
        exact h1 s s1 s2
      · cases e2
    · rcases x_fF b a _ e with ⟨s, s1, s2, e2⟩ | ⟨no, e2⟩
      · cases e2
      · exact absurd p1 no
  · cases p2
    refine m_of st_rv (m_p2 p_may (fun v S5 p => ?_))
    cases p
    refine m_of (st_T rfl) ?_
    rw [if_pos rfl]
    refine l_bx (fun v S' e => ?_) (fun v S' e => ?_)
    · rcases x_fF b a _ e with ⟨s, s1, s2, e2⟩ | ⟨no, e2⟩
      · exact absurd ⟨s, s1, s2⟩ p1
      · cases e2
    · rcases x_fF b a _ e with ⟨s, s1, s2, e2⟩ | ⟨no, e2⟩
      · cases e2
      · cases e2
        exact h2_ret h0
theorem x_fT (b : BB T Tm S m) (a : Int32) : Hp (f_K_findToken S (some 4) a) (fun q => (∃ s, s < nT m ∧ a = Int32.ofNat s ∧ q = (.inl (some (lel S 24 s)), S)) ∨ (¬ IX (nT m) a ∧ q = (.inr eX, wX S))) := by
  have r := (K4F_of b.1.1).1 14 24 rfl
  obtain ⟨z1, z2, z3⟩ := zT b
  have zz : (sI S 24 2).toInt = (nT m : Int) := by
    rw [z3, z2]
    exact oi (Nat.lt_of_le_of_lt z1 (by decide))
  unfold f_K_findToken
  refine p_of (st_gRe r) (p_of st_rv (p_of st_size (p_bx p_rI (fun v S' p => ?_) (fun e S' p => ?_))))
  · rcases p with ⟨h1, h2, e⟩ | ⟨-, e⟩
    · cases e
      rw [zz] at h2
      obtain ⟨s, s1, rfl⟩ := (IX_iff (n := nT m) (Nat.le_trans z1 (by decide))).mpr ⟨h1, h2⟩
      refine p_of (st_gRe r) (p_of st_rv (p_of (st_get (oc (by have := z1; unfold nT at s1; omega)) (atT b s1)) (p_of st_cc (p_ret (Or.inl ⟨s, s1, rfl, rfl⟩)))))
    · cases e
  · rcases p with ⟨h1, h2, e⟩ | ⟨h, e⟩
    · cases e
    · cases e
      rw [zz, ← IX_iff (n := nT m) (Nat.le_trans z1 (by decide))] at h
      exact Or.inr ⟨h, rfl⟩
theorem x_MT (b : BB T Tm S m) (a : Int32) : Hp (f_M_isToken m (some 57) a) (fun q => (IX (nT m) a ∧ q = (1, m)) ∨ (¬ IX (nT m) a ∧ q = (0, m))) := by
  obtain ⟨z1, z2, z3⟩ := zT b
  have n2 : nT m ≤ 299 := Nat.le_trans z1 (by decide)
  unfold f_M_isToken
  refine p_of (st_gIe (v := Int32.ofNat (nT m)) z2) (p_of (st_b2 (q_isIn m a 0 _)) (p_of st_z (p_ret ?_)))
  by_cases c : IX (nT m) a
  · exact Or.inl ⟨c, by rw [if_pos ((IX_sub n2).mpr c)]⟩
  · exact Or.inr ⟨c, by rw [if_neg (fun q => c ((IX_sub n2).mp q))]⟩
/-- found on both sides, or refused on both -/
theorem h_fT (b : BB T Tm S m) (a : Int32) {γ : Type} {F : Option Nat → AS → Option ((γ ⊕ String) × AS)} {G : AS → Option (Int32 × AS)} {Q : (γ ⊕ String) × AS → Int32 × AS → Prop} (h1 : ∀ s, s < nT m → a = Int32.ofNat s → H2 (F (some (lel S 24 s)) S) (G (wI m 57 82 0)) Q) (h0 : Q (.inr eX, wX S) (0, wI m 57 82 1)) :
    H2 ((kr_rv S 22 (some 4)).bind fun _ => kr_bx (f_K_findToken S (some 4) a) F) ((kr_rv m 39 (some 57)).bind fun _ => kr_b2 (f_M_isToken m (some 57) a) fun v3 S2 => (kr_rv S2 39 (some 57)).bind fun _ => kr_b2 (f_M_may S2 (some 57) v3) fun v6 S5 => if v6 = 0 then some ((0 : Int32), S5) else G S5) Q := by
  refine l_of st_rv (m_of st_rv (m_p2 (x_MT b a) (fun v S2 p => ?_)))
  rcases p with ⟨p1, p2⟩ | ⟨p1, p2⟩
  · cases p2
    refine m_of st_rv (m_p2 p_may (fun v S5 p => ?_))
    cases p
    refine m_of (st_F one0) ?_
    rw [if_neg one0]
    refine l_bx (fun v S' e => ?_) (fun v S' e => ?_)
    · rcases x_fT b a _ e with ⟨s, s1, s2, e2⟩ | ⟨no, e2⟩
      · cases e2
        exact h1 s s1 s2
      · cases e2
    · rcases x_fT b a _ e with ⟨s, s1, s2, e2⟩ | ⟨no, e2⟩
      · cases e2
      · exact absurd p1 no
  · cases p2
    refine m_of st_rv (m_p2 p_may (fun v S5 p => ?_))
    cases p
    refine m_of (st_T rfl) ?_
    rw [if_pos rfl]
    refine l_bx (fun v S' e => ?_) (fun v S' e => ?_)
    · rcases x_fT b a _ e with ⟨s, s1, s2, e2⟩ | ⟨no, e2⟩
      · exact absurd ⟨s, s1, s2⟩ p1
      · cases e2
    · rcases x_fT b a _ e with ⟨s, s1, s2, e2⟩ | ⟨no, e2⟩
      · cases e2
      · cases e2
        exact h2_ret h0
theorem x_fR (b : BB T Tm S m) (a : Int32) : Hp (f_K_findRecovery S (some 4) a) (fun q => (∃ s, s < nR m ∧ a = Int32.ofNat s ∧ q = (.inl (some (lel S 27 s)), S)) ∨ (¬ IX (nR m) a ∧ q = (.inr eX, wX S))) := by
  have r := (K4F_of b.1.1).1 16 27 rfl
  obtain ⟨z1, z2, z3⟩ := zR b
  have zz : (sI S 27 2).toInt = (nR m : Int) := by
    rw [z3, z2]
    exact oi (Nat.lt_of_le_of_lt z1 (by decide))
  unfold f_K_findRecovery
  refine p_of (st_gRe r) (p_of st_rv (p_of st_size (p_bx p_rI (fun v S' p => ?_) (fun e S' p => ?_))))
  · rcases p with ⟨h1, h2, e⟩ | ⟨-, e⟩
    · cases e
      rw [zz] at h2
      obtain ⟨s, s1, rfl⟩ := (IX_iff (n := nR m) (Nat.le_trans z1 (by decide))).mpr ⟨h1, h2⟩
      refine p_of (st_gRe r) (p_of st_rv (p_of (st_get (oc (by have := z1; unfold nR at s1; omega)) (atR b s1)) (p_of st_cc (p_ret (Or.inl ⟨s, s1, rfl, rfl⟩)))))
    · cases e
  · rcases p with ⟨h1, h2, e⟩ | ⟨h, e⟩
    · cases e
    · cases e
      rw [zz, ← IX_iff (n := nR m) (Nat.le_trans z1 (by decide))] at h
      exact Or.inr ⟨h, rfl⟩
theorem x_MR (b : BB T Tm S m) (a : Int32) : Hp (f_M_isRecovery m (some 57) a) (fun q => (IX (nR m) a ∧ q = (1, m)) ∨ (¬ IX (nR m) a ∧ q = (0, m))) := by
  obtain ⟨z1, z2, z3⟩ := zR b
  have n2 : nR m ≤ 299 := Nat.le_trans z1 (by decide)
  unfold f_M_isRecovery
  refine p_of (st_gIe (v := Int32.ofNat (nR m)) z2) (p_of (st_b2 (q_isIn m a 0 _)) (p_of st_z (p_ret ?_)))
  by_cases c : IX (nR m) a
  · exact Or.inl ⟨c, by rw [if_pos ((IX_sub n2).mpr c)]⟩
  · exact Or.inr ⟨c, by rw [if_neg (fun q => c ((IX_sub n2).mp q))]⟩
/-- found on both sides, or refused on both -/
theorem h_fR (b : BB T Tm S m) (a : Int32) {γ : Type} {F : Option Nat → AS → Option ((γ ⊕ String) × AS)} {G : AS → Option (Int32 × AS)} {Q : (γ ⊕ String) × AS → Int32 × AS → Prop} (h1 : ∀ s, s < nR m → a = Int32.ofNat s → H2 (F (some (lel S 27 s)) S) (G (wI m 57 82 0)) Q) (h0 : Q (.inr eX, wX S) (0, wI m 57 82 1)) :
    H2 ((kr_rv S 22 (some 4)).bind fun _ => kr_bx (f_K_findRecovery S (some 4) a) F) ((kr_rv m 39 (some 57)).bind fun _ => kr_b2 (f_M_isRecovery m (some 57) a) fun v3 S2 => (kr_rv S2 39 (some 57)).bind fun _ => kr_b2 (f_M_may S2 (some 57) v3) fun v6 S5 => if v6 = 0 then some ((0 : Int32), S5) else G S5) Q := by
  refine l_of st_rv (m_of st_rv (m_p2 (x_MR b a) (fun v S2 p => ?_)))
  rcases p with ⟨p1, p2⟩ | ⟨p1, p2⟩
  · cases p2
    refine m_of st_rv (m_p2 p_may (fun v S5 p => ?_))
    cases p
    refine m_of (st_F one0) ?_
    rw [if_neg one0]
    refine l_bx (fun v S' e => ?_) (fun v S' e => ?_)
    · rcases x_fR b a _ e with ⟨s, s1, s2, e2⟩ | ⟨no, e2⟩
      · cases e2
        exact h1 s s1 s2
      · cases e2
    · rcases x_fR b a _ e with ⟨s, s1, s2, e2⟩ | ⟨no, e2⟩
      · cases e2
      · exact absurd p1 no
  · cases p2
    refine m_of st_rv (m_p2 p_may (fun v S5 p => ?_))
    cases p
    refine m_of (st_T rfl) ?_
    rw [if_pos rfl]
    refine l_bx (fun v S' e => ?_) (fun v S' e => ?_)
    · rcases x_fR b a _ e with ⟨s, s1, s2, e2⟩ | ⟨no, e2⟩
      · exact absurd ⟨s, s1, s2⟩ p1
      · cases e2
    · rcases x_fR b a _ e with ⟨s, s1, s2, e2⟩ | ⟨no, e2⟩
      · cases e2
      · cases e2
        exact h2_ret h0
theorem x_fp (b : BB T Tm S m) (a : Int32) : Hp (f_K_findPerson S (some 4) a) (fun q => (∃ i, i < 6 ∧ a = Int32.ofNat i ∧ q = (.inl (some (29 + 4 * i)), S)) ∨ (¬ IX 6 a ∧ q = (.inr eX, wX S))) := by
  have r := (K4F_of b.1.1).1 2 8 rfl
  have t8 := (kt4 b.1.1).2.2.2.2.1
  have l8 : sL S 8 = 6 := (b.1.1.t1 8 (by rw [t8]; decide)).2.2.2 6 (by rw [t8]; rfl)
  have bad : f_K_findPerson_B22 S = some (.inr eX, wX S) := rfl
  unfold f_K_findPerson
  refine p_if (fun c => ?_) (fun c => ?_)
  · rw [bad]
    exact p_ret (Or.inr ⟨fun q => by have := (IX_iff (by decide)).mp q; have := lt0.mp c; omega, rfl⟩)
  · refine p_of (st_gRe r) (p_of st_aN ?_)
    rw [l8]
    refine p_if (fun d => ?_) (fun d => ?_)
    · rw [bad]
      refine p_ret (Or.inr ⟨fun q => ?_, rfl⟩)
      have := (IX_iff (by decide)).mp q
      have := Int32.le_iff_toInt_le.mp d
      rw [oi (by decide)] at this
      omega
    · have h0 : 0 ≤ a.toInt := Int.not_lt.mp (fun q => c (lt0.mpr q))
      have h6 : a.toInt < 6 := Int.not_le.mp (fun q => d (Int32.le_iff_toInt_le.mpr (by rw [oi (by decide)]; exact q)))
      obtain ⟨i, i1, rfl⟩ := (IX_iff (n := 6) (a := a) (by decide)).mpr ⟨h0, h6⟩
      refine p_of (st_gRe r) (p_of (st_aRe (oc (by omega)) (b.2.1.1 i i1).1) ?_)
      unfold f_K_findPerson_B23
      exact p_of (st_F (fun q => nomatch q)) (p_ret (Or.inl ⟨i, i1, rfl, rfl⟩))
theorem x_fV (b : BB T Tm S m) (a : Int32) : Hp (f_K_findService S (some 4) a) (fun q => (∃ i, i < 4 ∧ a = Int32.ofNat i ∧ q = (.inl (some (53 + i)), S)) ∨ (¬ IX 4 a ∧ q = (.inr eX, wX S))) := by
  have r := (K4F_of b.1.1).1 11 21 rfl
  have t8 := (kt4 b.1.1).2.2.2.2.2.2.2.2.1
  have l8 : sL S 21 = 4 := (b.1.1.t1 21 (by rw [t8]; decide)).2.2.2 4 (by rw [t8]; rfl)
  have bad : f_K_findService_B22 S = some (.inr eX, wX S) := rfl
  unfold f_K_findService
  refine p_if (fun c => ?_) (fun c => ?_)
  · rw [bad]
    exact p_ret (Or.inr ⟨fun q => by have := (IX_iff (by decide)).mp q; have := lt0.mp c; omega, rfl⟩)
  · refine p_of (st_gRe r) (p_of st_aN ?_)
    rw [l8]
    refine p_if (fun d => ?_) (fun d => ?_)
    · rw [bad]
      refine p_ret (Or.inr ⟨fun q => ?_, rfl⟩)
      have := (IX_iff (by decide)).mp q
      have := Int32.le_iff_toInt_le.mp d
      rw [oi (by decide)] at this
      omega
    · have h0 : 0 ≤ a.toInt := Int.not_lt.mp (fun q => c (lt0.mpr q))
      have h6 : a.toInt < 4 := Int.not_le.mp (fun q => d (Int32.le_iff_toInt_le.mpr (by rw [oi (by decide)]; exact q)))
      obtain ⟨i, i1, rfl⟩ := (IX_iff (n := 4) (a := a) (by decide)).mpr ⟨h0, h6⟩
      refine p_of (st_gRe r) (p_of (st_aRe (oc (by omega)) (b.2.1.2 i i1)) ?_)
      unfold f_K_findService_B23
      exact p_of (st_F (fun q => nomatch q)) (p_ret (Or.inl ⟨i, i1, rfl, rfl⟩))
theorem six_iff (a : Int32) : (0 ≤ a ∧ a ≤ 5) ↔ IX 6 a := IX_lit (n := 5) (by decide) (by decide)
theorem thr_iff (a : Int32) : (0 ≤ a ∧ a ≤ 2) ↔ IX 3 a := IX_lit (n := 2) (by decide) (by decide)
theorem fou_iff (a : Int32) : (0 ≤ a ∧ a ≤ 3) ↔ IX 4 a := IX_lit (n := 3) (by decide) (by decide)
end
