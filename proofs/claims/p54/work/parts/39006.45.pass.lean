/-! ===== minutes pass ===== -/
theorem oi4 {n : Nat} (h : n ≤ 4000) : (Int32.ofNat n).toInt = n := kw_nat h
theorem ole4 {a b : Nat} (ha : a ≤ 4000) (hb : b ≤ 4000) : Int32.ofNat a ≤ Int32.ofNat b ↔ a ≤ b := by
  rw [Int32.le_iff_toInt_le, oi4 ha, oi4 hb]
  omega
theorem h2_xk {α γ β : Type} {x : Option ((α ⊕ String) × AS)} {F : α → AS → Option ((γ ⊕ String) × AS)} {y : Option β} {P : (α ⊕ String) × AS → β → Prop} {Q : (γ ⊕ String) × AS → β → Prop} (hc : H2 x y P) (h : ∀ v S' b, P (.inl v, S') b → ∀ a, F v S' = some a → Q a b) (g : ∀ v S' b, P (.inr v, S') b → Q (.inr v, S') b) : H2 (kr_bx x F) y Q := fun a b ha hb => by
  match x, ha, hc with
  | some (.inl v, S'), ha, hc => exact h v S' b (hc _ _ rfl hb) a ha
  | some (.inr v, S'), ha, hc =>
    cases ha
    exact g v S' b (hc _ _ rfl hb)
def KX (τ j : Nat) : Bool := KW τ j || (τ == 1 && j == 0) || τ == 10 || τ == 11
def MX (p j : Nat) : Bool := MW p j || (p == 57 && (j == 0 || j == 60 || j == 61 || j == 62 || j == 63)) || p == 112
/-- everything else as before -/
def XO (T : Nat → Nat) (S m S' m' : AS) : Prop := sR S' = sR S ∧ sL S' = sL S ∧ sR m' = sR m ∧ sL m' = sL m ∧ (∀ k j, T k ≠ 0 → KX (T k) j = false → sI S' k j = sI S k j) ∧ (∀ p j, MX p j = false → sI m' p j = sI m p j)
theorem XO.k {T : Nat → Nat} {S m S' m' : AS} (h : XO T S m S' m') {k j τ : Nat} (hk : T k = τ) (h0 : τ ≠ 0) (hw : KX τ j = false) : sI S' k j = sI S k j := h.2.2.2.2.1 k j (by rw [hk]; exact h0) (by rw [hk]; exact hw)
theorem XO.m {T : Nat → Nat} {S m S' m' : AS} (h : XO T S m S' m') {p j : Nat} (hw : MX p j = false) : sI m' p j = sI m p j := h.2.2.2.2.2 p j hw
theorem XO_trans {T : Nat → Nat} {S m S' m' S2 m2 : AS} (h : XO T S m S' m') (g : XO T S' m' S2 m2) : XO T S m S2 m2 :=
  ⟨g.1.trans h.1, g.2.1.trans h.2.1, g.2.2.1.trans h.2.2.1, g.2.2.2.1.trans h.2.2.2.1, fun k j a b => (g.2.2.2.2.1 k j a b).trans (h.2.2.2.2.1 k j a b), fun p j a => (g.2.2.2.2.2 p j a).trans (h.2.2.2.2.2 p j a)⟩
theorem XO_E {T : Nat → Nat} {S0 m0 S m : AS} (hK : KE T S0 S) (hM : ME m0 m) : XO T S0 m0 S m :=
  ⟨hK.1, hK.2.1, hM.1, hM.2.1, fun k j a b => hK.2.2 k j a (by
    unfold KX at b
    simp only [Bool.or_eq_false_iff] at b
    exact b.1.1.1), fun p j a => hM.2.2 p j (by
    unfold MX at a
    simp only [Bool.or_eq_false_iff] at a
    exact a.1.1)⟩
theorem ST_tr {T : Nat → Nat} {S m S' m' : AS} {n nf nt : Nat} (h : ST T S m n nf nt) (x : XO T S m S' m') : ST T S' m' n nf nt := by
  obtain ⟨⟨s1, s2, s3, s4, s5, s6⟩, h2, h3, ⟨n60, nf60, nt200, a1, a2, a3, a4, a5, a6⟩, h5, h6, h7⟩ := h
  have e : ∀ l i, lel S' l i = lel S l i := fun l i => by
    unfold lel
    rw [x.1]
  refine ⟨⟨s1, ?_, by rw [x.2.1]; exact s3, s4, fun s hs => ?_, fun f hf => ?_⟩, fun i hi => by rw [x.1]; exact h2 i hi, MF_e h3 x.2.2.1, ⟨n60, nf60, nt200, ?_, ?_, ?_, ?_, ?_, ?_⟩, fun s hs => ?_, fun f hf => ?_, fun v hv => ?_⟩
  · unfold K4F
    rw [x.1]
    exact s2
  · rw [e, x.1]
    exact s5 s hs
  · rw [e, x.1]
    exact s6 f hf
  · exact (x.k s1.2.2.2.2.1 (by decide) (by decide)).trans a1
  · exact (x.m (by rfl)).trans a2
  · exact (x.k s1.2.2.2.2.2 (by decide) (by decide)).trans a3
  · exact (x.m (by rfl)).trans a4
  · exact (x.m (by rfl)).trans a5
  · rw [x.2.2.2.1]; exact a6
  · obtain ⟨b1, ⟨p, b2, b3, b4⟩, b5⟩ := h5 s hs
    rw [e, x.1, x.k (s5 s hs).1 (by decide) (by decide), x.m (p := 85) (by rfl), x.m (p := 88) (by rfl)]
    exact ⟨b1, ⟨p, b2, b3, b4⟩, fun o ho => by rw [e]; exact b5 o ho⟩
  · obtain ⟨b1, ⟨c, s, b2, b3, b4, b5, b6⟩, b7⟩ := h6 f hf
    rw [e, x.1, x.k (s6 f hf).1 (by decide) (by decide), x.k (s6 f hf).1 (by decide) (by decide)]
    refine ⟨b1, ⟨c, s, b2, b3, by rw [x.m (by rfl)]; exact b4, by rw [x.m (by rfl)]; exact b5, by rw [e]; exact b6⟩, fun v hv => ?_⟩
    rw [b7 v hv]
    constructor
    · rintro ⟨t, q1, q2, q3⟩
      exact ⟨t, q1, by rw [x.m (by rfl)]; exact q2, by rw [x.m (by rfl)]; exact q3⟩
    · rintro ⟨t, q1, q2, q3⟩
      exact ⟨t, q1, by rw [x.m (by rfl)] at q2; exact q2, by rw [x.m (by rfl)] at q3; exact q3⟩
  · rw [x.k (s4 v hv) (by decide) (by decide), x.m (by rfl)]
    exact h7 v hv
theorem KY_cong {t : Int} {S S' m m' : AS} (h : KY t S m) (e : ∀ j, sI S' 25 j = sI S 25 j) (e6 : ∀ j, sI S' 26 j = sI S 26 j) (em : ∀ p j, p = 111 ∨ p = 112 ∨ p = 57 ∧ 60 ≤ j ∧ j ≤ 63 → sI m' p j = sI m p j) : KY t S' m' := by
  obtain ⟨c, g, h1, h2, h3, h4, h5, h6, h7, h8⟩ := h
  have m60 := em 57 60 (by omega)
  have m61 := em 57 61 (by omega)
  have m62 := em 57 62 (by omega)
  have m63 := em 57 63 (by omega)
  have m1 : ∀ k, sI m' 111 k = sI m 111 k := fun k => em 111 k (by omega)
  have m2 : ∀ k, sI m' 112 k = sI m 112 k := fun k => em 112 k (by omega)
  refine ⟨c, g, h1, by rw [m60, m61]; exact h2, by rw [e, e, e, e, m60, m61, m62, m63]; exact h3, by rw [m2]; exact h4, ?_, fun k hk => by rw [m2, e6]; exact h6 k hk, fun k hk hk2 => by rw [m1, m2]; exact h7 k hk hk2, fun k hk => ?_⟩
  · rw [m62]
    rcases h5 with q | ⟨w, q1, q2, q3, q4⟩
    · exact Or.inl q
    · exact Or.inr ⟨w, q1, q2, q3, by rw [m2]; exact q4⟩
  · rw [e, h8 k hk]
    unfold KP
    rw [m60, m1, m2]
section
variable {T : Nat → Nat} {S0 m0 S m : AS} {n nf nt : Nat}
def UB (n : Nat) (S m : AS) : Prop := ∀ s, s < n → sI S (lel S 19 s) 5 = sI m 87 s ∧ sI S (lel S 19 s) 4 = sI m 86 s
/-- nobody is live -/
theorem p_none (hm : MF m) (h30 : sI m 57 30 = Int32.ofNat n) (n60 : n ≤ 60) (h0 : ∀ s, s < n → sI m 89 s = 0) {k45 : AS → Option Nat → Int32 → Int32 → Int32 → Option (Int32 × AS)} {x1 x4 : Int32} {c : Nat} : ∀ (k i fu : Nat), i + k = n →
    Hp (f_M_pass_L121 k45 fu m (some 57) x1 (Int32.ofNat c) x4 (Int32.ofNat i)) (fun b => k45 m (some 57) x1 (Int32.ofNat c) (x4 + 1) = some b)
  | _, _, 0, _ => p_0
  | 0, i, fu + 1, hk => by
    unfold f_M_pass_L121 f_M_pass_C121
    exact p_of (st_gIe h30) (p_of (st_T ((ole (by omega) (by omega)).mpr (by omega))) (p_of st_val (fun b hb => hb)))
  | k + 1, i, fu + 1, hk => by
    unfold f_M_pass_L121 f_M_pass_C121
    refine p_of (st_gIe h30) (p_of (st_F (fun q => by have := (ole (by omega) (by omega)).mp q; omega)) (p_of (st_gRe (hm 35 89 rfl)) (p_of (st_aIe (oc (by omega)) (h0 i (by omega))) (p_of (st_T rfl) ?_))))
    unfold f_M_pass_B179 f_M_pass_B180 f_M_pass_B198
    refine p_of (st_T rfl) (p_of st_val (p_of st_val ?_))
    rw [o1, Int32.add_zero]
    exact p_none hm h30 n60 h0 k (i + 1) fu (by omega)
/-- those that are too old end -/
theorem h_old_L (st : ST T S0 m0 n nf nt) (hnow : sI S0 4 0 = sI m0 57 0) (hub : UB n S0 m0) {k45 : AS → Option Nat → Int32 → Int32 → Int32 → Option (Int32 × AS)} {x1 x4 : Int32} {b0 : Nat} (hb : b0 ≤ 60) : ∀ (k i fu fu' c : Nat) (S m : AS), i + k = n → EE 0 T S0 m0 n nf S m → c + cnt (sI m 89) n = b0 →
    H2 (f_K_endOldSessions_L10 fu S (some 4) (Int32.ofNat i)) (f_M_pass_L121 k45 fu' m (some 57) x1 (Int32.ofNat c) x4 (Int32.ofNat i)) (fun a b => ∃ S' c' m', a = (.inl (), S') ∧ EE 0 T S0 m0 n nf S' m' ∧ c' + cnt (sI m' 89) n = b0 ∧ k45 m' (some 57) x1 (Int32.ofNat c') (x4 + 1) = some b)
  | _, _, 0, _, _, _, _, _, _, _ => h2_l0
  | _, _, _ + 1, 0, _, _, _, _, _, _ => h2_m0
  | 0, i, fu + 1, fu' + 1, c, S, m, hk, he, hc => by
    unfold f_K_endOldSessions_L10 f_K_endOldSessions_C10 f_M_pass_L121 f_M_pass_C121
    obtain ⟨e19, e30, -, -⟩ := ET st he
    obtain ⟨n60, nf60, -⟩ := st.2.2.2.1
    have le : Int32.ofNat n ≤ Int32.ofNat i := (ole (by omega) (by omega)).mpr (by omega)
    refine l_of (st_gRe (show sR S 4 8 = some 19 by rw [he.1.1]; exact st.1.2.1.1 8 19 rfl)) (l_of st_rv (l_of st_size (l_of (st_T (by rw [e19]; exact le)) ?_)))
    refine m_of (st_gIe e30) (m_of (st_T le) (m_of st_val (fun a b ha hb => ?_)))
    cases ha
    exact ⟨S, c, m, rfl, he, hc, hb⟩
  | k + 1, i, fu + 1, fu' + 1, c, S, m, hk, he, hc => by
    unfold f_K_endOldSessions_L10 f_K_endOldSessions_C10 f_M_pass_L121 f_M_pass_C121
    have hm := MF_e st.2.2.1 he.2.1.1
    obtain ⟨e19, e30, -, -⟩ := ET st he
    obtain ⟨n60, nf60, -⟩ := st.2.2.2.1
    have le : ¬ Int32.ofNat n ≤ Int32.ofNat i := fun q => by
      have := (ole (by omega) (by omega)).mp q
      omega
    have r8 : sR S 4 8 = some 19 := by rw [he.1.1]; exact st.1.2.1.1 8 19 rfl
    have hi : i < n := by omega
    have ts := (ST_s st hi).1
    obtain ⟨lv, l01⟩ := he.2.2.1 i hi
    obtain ⟨u1, u2⟩ := hub i hi
    have eN : sI S 4 0 = sI m0 57 0 := (KE_ty he.1 st.1.1.1 (by decide) (by decide)).trans hnow
    have e5 : sI S (lel S0 19 i) 5 = sI m0 87 i := (KE_ty he.1 ts (by decide) (by decide)).trans u1
    have e4 : sI S (lel S0 19 i) 4 = sI m0 86 i := (KE_ty he.1 ts (by decide) (by decide)).trans u2
    refine l_of (st_gRe r8) (l_of st_rv (l_of st_size (l_of (st_F (by rw [e19]; exact le)) ?_)))
    refine l_of (st_gRe r8) (l_of st_rv (l_of (st_get (oc (by omega)) (EE_get he (ST_s st hi).2)) (l_of st_cc (l_of (st_gIe lv) ?_))))
    refine m_of (st_gIe e30) (m_of (st_F le) (m_of (st_gRe (hm 35 89 rfl)) (m_of (st_aIe (oc (by omega)) rfl) ?_)))
    have skip : H2 (f_K_endOldSessions_B56 (f_K_endOldSessions_L10 fu) S (some 4) (Int32.ofNat i)) (f_M_pass_B179 k45 (f_M_pass_L121 k45 fu') m (some 57) x1 (Int32.ofNat c) x4 (Int32.ofNat i)) (fun a b => ∃ S' c' m', a = (.inl (), S') ∧ EE 0 T S0 m0 n nf S' m' ∧ c' + cnt (sI m' 89) n = b0 ∧ k45 m' (some 57) x1 (Int32.ofNat c') (x4 + 1) = some b) := by
      unfold f_K_endOldSessions_B56 f_M_pass_B179 f_M_pass_B180 f_M_pass_B198
      refine l_of st_val (m_of (st_T rfl) (m_of st_val (m_of st_val ?_)))
      rw [o1, Int32.add_zero]
      exact h_old_L st hnow hub hb k (i + 1) fu fu' c S m (by omega) he hc
    by_cases c0 : sI m 89 i = 0
    · exact l_of (st_T c0) (m_of (st_T c0) skip)
    · have i1 : sI m 89 i = 1 := l01.elim (fun q => absurd q c0) id
      refine l_of (st_F c0) (m_of (st_F c0) (l_of (st_gIe eN) (l_of st_rv ?_)))
      refine m_of (st_gIe (he.2.1.2.2 57 0 (by rfl))) (m_of (st_gRe (hm 33 87 rfl)) (m_of (st_aIe (oc (by omega)) (he.2.1.2.2 87 i (by rfl))) ?_))
      have ends : H2 ((kr_rv S 22 (some 4)).bind fun u16 => kr_bx (f_K_endSession S (some 4) (some (lel S0 19 i))) fun z18 S17 => f_K_endOldSessions_B56 (f_K_endOldSessions_L10 fu) S17 (some 4) (Int32.ofNat i)) (f_M_pass_B175 k45 (f_M_pass_L121 k45 fu') m (some 57) x1 (Int32.ofNat c) x4 (Int32.ofNat i)) (fun a b => ∃ S' c' m', a = (.inl (), S') ∧ EE 0 T S0 m0 n nf S' m' ∧ c' + cnt (sI m' 89) n = b0 ∧ k45 m' (some 57) x1 (Int32.ofNat c') (x4 + 1) = some b) := by
        unfold f_M_pass_B175 f_M_pass_B180
        refine l_of st_rv (m_of (st_F one0) (m_of st_rv (h2_x2 (h_eS st he hi i1) (fun v S' u m' q => ?_) (fun v S' u m' q => ?_))))
        · obtain ⟨S2, c', m2, e, f, he', h', -⟩ := q
          cases e
          cases f
          unfold f_K_endOldSessions_B56 f_M_pass_B198
          refine l_of st_val (m_of st_val (m_of st_val ?_))
          rw [o1, ← Int32.ofNat_add]
          exact h_old_L st hnow hub hb k (i + 1) fu fu' (c + c') S' m' (by omega) he' (by omega)
        · obtain ⟨S2, c', m2, e, -⟩ := q
          cases e
      have old : ∀ w, Hp (f_Session_isOldAt S (some (lel S0 19 i)) w) (fun q => q = (if 30 < w - sI m0 87 i ∨ ¬ w - sI m0 86 i ≤ 480 then 1 else 0, S)) := fun w => by
        unfold f_Session_isOldAt f_Session_isOldAt_B23
        refine p_of (st_gIe e5) (p_if (fun q => p_ret ?_) (fun q => p_of (st_gIe e4) (p_if (fun q2 => p_ret ?_) (fun q2 => p_ret ?_))))
        · rw [if_pos (Or.inl q)]
        · rw [if_neg (fun z => z.elim q (fun z => z q2))]
        · rw [if_pos (Or.inr q2)]
      refine l_p2 (old _) (fun v S' e => ?_)
      obtain ⟨ev, eS⟩ := Prod.mk.inj (show (v, S') = _ from e)
      rw [eS]
      by_cases q1 : 30 < sI m0 57 0 - sI m0 87 i
      · refine m_of (st_T q1) (l_of (st_F ?_) ends)
        rw [ev, if_pos (Or.inl q1)]
        exact one0
      · refine m_of (st_F q1) (m_of (st_gIe (he.2.1.2.2 57 0 (by rfl))) (m_of (st_gRe (hm 32 86 rfl)) (m_of (st_aIe (oc (by omega)) (he.2.1.2.2 86 i (by rfl))) ?_)))
        by_cases q2 : sI m0 57 0 - sI m0 86 i ≤ 480
        · refine m_of (st_T q2) (l_of (st_T ?_) skip)
          rw [ev, if_neg (fun z => z.elim q1 (fun z => z q2))]
        · refine m_of (st_F q2) (l_of (st_F ?_) ends)
          rw [ev, if_pos (Or.inr q2)]
          exact one0
theorem cnt0 {f : Nat → Int32} : ∀ {n : Nat}, cnt f n = 0 → ∀ s, s < n → f s ≠ 1
  | 0, _, s, hs => absurd hs (Nat.not_lt_zero _)
  | n + 1, h, s, hs => by
    have h : cnt f n + (if f n = 1 then 1 else 0) = 0 := h
    by_cases c : s = n
    · subst c
      intro q
      rw [if_pos q] at h
      omega
    · exact cnt0 (n := n) (by omega) s (by omega)
theorem h_old (st : ST T S m n nf nt) (he : EE 0 T S m n nf S m) (hnow : sI S 4 0 = sI m 57 0) (hub : UB n S m) {k45 : AS → Option Nat → Int32 → Int32 → Int32 → Option (Int32 × AS)} {x1 x4 : Int32} {b0 c : Nat} (hb : b0 ≤ 60) (hc : c + cnt (sI m 89) n = b0) :
    H2 (f_K_endOldSessions S (some 4)) (f_M_pass_B118 k45 m (some 57) x1 (Int32.ofNat c) x4) (fun a b => ∃ S' c' m', a = (.inl (), S') ∧ EE 0 T S m n nf S' m' ∧ c' + cnt (sI m' 89) n = b0 ∧ k45 m' (some 57) x1 (Int32.ofNat c') (x4 + 1) = some b) := by
  obtain ⟨n60, nf60, -⟩ := st.2.2.2.1
  unfold f_K_endOldSessions f_M_pass_B118
  refine l_of (st_gIe he.2.2.2.1) (l_if (fun q => ?_) (fun q => ?_))
  · have c60 := cnt_le (sI m 89) n
    have z : cnt (sI m 89) n = 0 := oinj (by omega) (by omega) q
    intro a b ha hb2
    cases ha
    refine ⟨S, c, m, rfl, he, hc, p_none st.2.2.1 st.2.2.2.1.2.2.2.2.1 n60 (fun s hs => ?_) n 0 kr_FU (by omega) b hb2⟩
    exact (he.2.2.1 s hs).2.elim id (fun w => absurd w (cnt0 z s hs))
  · exact h_old_L st hnow hub hb n 0 kr_FU kr_FU c S m (by omega) he hc
/-- what holds from minute to minute -/
def PI (T : Nat → Nat) (n nf nt : Nat) (S m : AS) : Prop := ST T S m n nf nt ∧ EE 0 T S m n nf S m ∧ (T 25 = 10 ∧ T 26 = 11) ∧ KY (sI m 57 0).toInt S m ∧ (sI S 4 0 = sI m 57 0 ∧ 0 ≤ (sI m 57 0).toInt) ∧ UB n S m
theorem EE_self (h : EE 0 T S0 m0 n nf S m) : EE 0 T S m n nf S m := by
  obtain ⟨hK, hM, h3, h4, h5, h6, h7⟩ := h
  have e : ∀ l i, lel S l i = lel S0 l i := fun l i => by
    unfold lel
    rw [hK.1]
  exact ⟨KE_rf T S, ME_rf m, fun s hs => by rw [e]; exact h3 s hs, h4, fun f hf => by rw [e]; exact h5 f hf, h6, h7⟩
/-- the keys' minute, then the sessions' -/
theorem h_min {T : Nat → Nat} {n nf nt : Nat} {S m : AS} (h : PI T n nf nt S m) (ht : (sI m 57 0).toInt < 30000) {k45 : AS → Option Nat → Int32 → Int32 → Int32 → Option (Int32 × AS)} {x1 x4 : Int32} {b0 c : Nat} (hb : b0 ≤ 60) (hc : c + cnt (sI m 89) n = b0) {α : Type} {G : AS → Option ((α ⊕ String) × AS)} {Q : (α ⊕ String) × AS → Int32 × AS → Prop}
    (hG : ∀ S' m' c', PI T n nf nt S' m' → (sI m' 57 0).toInt = (sI m 57 0).toInt + 1 → c' + cnt (sI m' 89) n = b0 → XO T S m S' m' → H2 (G S') (k45 m' (some 57) x1 (Int32.ofNat c') (x4 + 1)) Q) :
    H2 ((gI S 22 0 (some 4)).bind fun v2 => (pI S 22 0 (some 4) (v2 + (1 : Int32))).bind fun S3 => (kr_rv S3 22 (some 4)).bind fun u4 => (f_K_turnKeys S3 (some 4)).bind fun S5 => (kr_rv S5 22 (some 4)).bind fun u6 => kr_bx (f_K_endOldSessions S5 (some 4)) fun z8 S7 => G S7)
      ((gI m 39 0 (some 57)).bind fun v16 => (pI m 39 0 (some 57) (v16 + (1 : Int32))).bind fun S17 => (gI S17 39 62 (some 57)).bind fun v18 => if v18 = (-1 : Int32) then f_M_pass_B118 k45 S17 (some 57) x1 (Int32.ofNat c) x4 else (gI S17 39 0 (some 57)).bind fun v19 => (gI S17 39 63 (some 57)).bind fun v20 => if v19 < v20 then f_M_pass_B118 k45 S17 (some 57) x1 (Int32.ofNat c) x4 else
        (gR S17 39 65 (some 57)).bind fun v21 => (gI S17 39 61 (some 57)).bind fun v22 => (gI S17 39 0 (some 57)).bind fun v23 => (bI S17 v21 v22 (v23 + (20 : Int32)) 46).bind fun S24 => (gI S24 39 62 (some 57)).bind fun v25 => (pI S24 39 61 (some 57) v25).bind fun S26 => (pI S26 39 62 (some 57) (-1 : Int32)).bind fun S27 => (gI S27 39 61 (some 57)).bind fun v28 => (kr_rv S27 39 (some 57)).bind fun u29 => (f_M_write S27 (some 57) (5 : Int32) v28).bind fun S30 => f_M_pass_B118 k45 S30 (some 57) x1 (Int32.ofNat c) x4) Q := by
  obtain ⟨st, he, ⟨t25, t26⟩, hy, ⟨hn, hn0⟩, hub⟩ := h
  obtain ⟨n60, nf60, -⟩ := st.2.2.2.1
  obtain ⟨t4, t5, t6, t7, -⟩ := st.1.1
  have hkf := st.1.2.1
  have hm := st.2.2.1
  have ha := he.2.2.2.2.2.1
  have e1 : (sI m 57 0 + 1).toInt = (sI m 57 0).toInt + 1 := by
    rw [Int32.toInt_add, show (1 : Int32).toInt = 1 from by decide]
    exact bm (by omega) (by omega)
  refine l_of (st_gIe hn) (l_of st_pI (l_of st_rv (m_of st_gI (m_of st_pI ?_))))
  -- behind the keys
  have go : ∀ S4 m4 : AS, XO T S m S4 m4 → KY ((sI m 57 0).toInt + 1) S4 m4 → AU 0 (sI m 89) n S4 m4 → sI S4 4 0 = sI m 57 0 + 1 → sI m4 57 0 = sI m 57 0 + 1 → (∀ k j τ, T k = τ → τ = 43 ∧ j = 6 ∨ τ = 1 ∧ j = 9 ∨ τ = 44 ∧ (j = 6 ∨ j = 11) → sI S4 k j = sI S k j) → (∀ p, p = 89 ∨ p = 103 ∨ p = 116 → sI m4 p = sI m p) →
      H2 ((kr_rv S4 22 (some 4)).bind fun u6 => kr_bx (f_K_endOldSessions S4 (some 4)) fun z8 S7 => G S7) (f_M_pass_B118 k45 m4 (some 57) x1 (Int32.ofNat c) x4) Q := fun S4 m4 x y au k0 q0 kS kM => by
    have st4 := ST_tr st x
    have e : ∀ l i, lel S4 l i = lel S l i := fun l i => by
      unfold lel
      rw [x.1]
    have e89 := kM 89 (by omega)
    have he4 : EE 0 T S4 m4 n nf S4 m4 := by
      refine ⟨KE_rf _ _, ME_rf _, fun s hs => ?_, ?_, fun f hf => ?_, ?_, by rw [kM 116 (by omega)]; exact he.2.2.2.2.2.2⟩
      · rw [e, kS _ 6 43 (ST_s st hs).1 (by omega), e89]
        exact he.2.2.1 s hs
      · rw [kS 4 9 1 t4 (by omega), e89]
        exact he.2.2.2.1
      · rw [e, kS _ 6 44 (ST_f st hf).1 (by omega), kS _ 11 44 (ST_f st hf).1 (by omega), kM 103 (by omega), kM 116 (by omega)]
        exact he.2.2.2.2.1 f hf
      · rw [e89]
        exact au
    have ub4 : UB n S4 m4 := fun s hs => by
      rw [e, x.k (ST_s st hs).1 (by decide) (by decide), x.k (ST_s st hs).1 (by decide) (by decide), x.m (by rfl), x.m (by rfl)]
      exact hub s hs
    refine l_of st_rv (h2_xk (h_old st4 he4 (k0.trans q0.symm) ub4 hb (by rw [e89]; exact hc)) (fun v S' b p a hha => ?_) (fun v S' b p => ?_))
    · obtain ⟨S2, c', m', e2, he', hc', hk⟩ := p
      cases e2
      have xe := XO_E he'.1 he'.2.1
      have n5 : sI S' 4 0 = sI m 57 0 + 1 := (KE_ty he'.1 t4 (by decide) (by decide)).trans k0
      have n6 : sI m' 57 0 = sI m 57 0 + 1 := (he'.2.1.2.2 57 0 (by rfl)).trans q0
      refine hG S' m' c' ⟨ST_tr st4 xe, EE_self he', ⟨t25, t26⟩, ?_, ⟨n5.trans n6.symm, by rw [n6, e1]; omega⟩, fun s hs => ?_⟩ (by rw [n6]; exact e1) hc' (XO_trans x xe) a b hha hk
      · rw [n6, e1]
        exact KY_cong y (fun j => KE_ty he'.1 t25 (by decide) (by rfl)) (fun j => KE_ty he'.1 t26 (by decide) (by rfl)) (fun p j q => he'.2.1.2.2 p j (by
          rcases q with rfl | rfl | ⟨rfl, q1, q2⟩
          · rfl
          · rfl
          · have : j = 60 ∨ j = 61 ∨ j = 62 ∨ j = 63 := by omega
            rcases this with rfl | rfl | rfl | rfl <;> rfl))
      · have e' : lel S' 19 s = lel S4 19 s := by
          unfold lel
          rw [he'.1.1]
        rw [e', KE_ty he'.1 (ST_s st4 hs).1 (by decide) (by decide), KE_ty he'.1 (ST_s st4 hs).1 (by decide) (by decide), he'.2.1.2.2 87 s (by rfl), he'.2.1.2.2 86 s (by rfl)]
        exact ub4 s hs
    · obtain ⟨S2, c', m', e2, -⟩ := p
      cases e2
  obtain ⟨kc, kg, y1, y2, y3, y4, y5, -⟩ := id hy
  have n1 : sI (wI S 4 0 (sI m 57 0 + 1)) 4 0 = sI m 57 0 + 1 := ti_sI_eq _ _ _ _
  have y3' : KY (sI m 57 0).toInt (wI S 4 0 (sI m 57 0 + 1)) (wI m 57 0 (sI m 57 0 + 1)) := KY_cong hy (fun j => ti_sI_ne (by omega)) (fun j => ti_sI_ne (by omega)) (fun p j q => ti_sI_ne (by omega))
  have hk3 : K4F (wI S 4 0 (sI m 57 0 + 1)) := hkf
  unfold f_K_turnKeys
  rw [show ∀ (x : Option (Option Nat)) (F : Option Nat → Option AS) (G : AS → Option ((α ⊕ String) × AS)), (x.bind F).bind G = x.bind (fun v => (F v).bind G) from fun x F G => Option.bind_assoc x F G]
  refine l_of (st_gRe (hk3.1 15 25 rfl)) ?_
  rw [show ∀ (x : Option Int32) (F : Int32 → Option AS) (G : AS → Option ((α ⊕ String) × AS)), (x.bind F).bind G = x.bind (fun v => (F v).bind G) from fun x F G => Option.bind_assoc x F G]
  refine l_of (st_gIe n1) ?_
  rw [show ∀ (x : Option Unit) (F : Unit → Option AS) (G : AS → Option ((α ⊕ String) × AS)), (x.bind F).bind G = x.bind (fun v => (F v).bind G) from fun x F G => Option.bind_assoc x F G]
  refine l_of st_rv ?_
  rw [show ∀ (x : Option (Int32 × AS)) (F : Int32 → AS → Option AS) (G : AS → Option ((α ⊕ String) × AS)), (kr_b2 x F).bind G = kr_b2 x (fun v s => (F v s).bind G) from fun x F G => by cases x <;> rfl]
  refine l_p2 p_due (fun v9 S8 p => ?_)
  obtain ⟨p0, p1, p2⟩ := p
  have p0 : S8 = _ := p0
  have p2 : v9 = 1 ↔ _ := p2
  rw [p0]
  rw [ti_sI_ne (by omega), ti_sI_ne (by omega), y3.2.2.1, y3.2.2.2] at p2
  have xo3 : XO T S m (wI S 4 0 (sI m 57 0 + 1)) (wI m 57 0 (sI m 57 0 + 1)) := ⟨rfl, rfl, rfl, rfl, fun k j a b => ti_sI_ne (fun q => by
    rw [q.1, q.2, t4] at b
    cases b), fun p j a => ti_sI_ne (fun q => by
    rw [q.1, q.2] at a
    cases a)⟩
  have skip : ¬ v9 = 1 → H2 ((if v9 = 0 then f_K_turnKeys_B44 (wI S 4 0 (sI m 57 0 + 1)) (some 4) else (gR (wI S 4 0 (sI m 57 0 + 1)) 22 15 (some 4)).bind fun v10 => (gI (wI S 4 0 (sI m 57 0 + 1)) 22 0 (some 4)).bind fun v11 => (kr_rv (wI S 4 0 (sI m 57 0 + 1)) 15 v10).bind fun u12 => (f_Keyring_putWaitingToSign (wI S 4 0 (sI m 57 0 + 1)) v10 v11).bind fun S13 => (gR S13 22 1 (some 4)).bind fun v14 => (gR S13 22 15 (some 4)).bind fun v15 => (gI S13 15 1 v15).bind fun v16 => (gI S13 22 0 (some 4)).bind fun v17 => (kr_rv S13 12 v14).bind fun u18 => (f_Audit_write S13 v14 (5 : Int32) v16 v17).bind fun S19 => f_K_turnKeys_B44 S19 (some 4)).bind fun S5 => (kr_rv S5 22 (some 4)).bind fun u6 => kr_bx (f_K_endOldSessions S5 (some 4)) fun z8 S7 => G S7) (f_M_pass_B118 k45 (wI m 57 0 (sI m 57 0 + 1)) (some 57) x1 (Int32.ofNat c) x4) Q := fun nv => by
    rw [if_pos (p1.resolve_right nv)]
    refine l_pd (p_B44 (S := wI S 4 0 (sI m 57 0 + 1)) hk3 y1.2.1 (by rw [ti_sI_ne (by omega)]; exact y3.1.trans y2.1)) (fun S5 p => ?_)
    obtain ⟨r1, r2, r3, r4⟩ := p
    refine go S5 (wI m 57 0 (sI m 57 0 + 1)) ?_ ?_ ?_ ?_ (ti_sI_eq _ _ _ _) ?_ ?_
    · refine XO_trans xo3 ⟨r1, r2, rfl, rfl, fun k j a b => r3 k j (fun q => ?_), fun _ _ _ => rfl⟩
      rw [q.1, q.2, t25] at b
      cases b
    · exact KY_min y3' hn0 (by rw [ti_sI_eq]; exact e1) r3 (fun _ _ _ => rfl) (fun c2 q1 q2 x hx => by
        have : c2 = kc := oinj (by omega) (by omega) (q1.symm.trans (by rw [ti_sI_ne (by omega)]; exact y3.1.trans y2.1))
        rw [this]
        exact r4 x hx)
    · exact AU_cong ha (by rw [r3 5 2 (by omega), ti_sI_ne (by omega)]) (funext fun j => by rw [r3 6 j (by omega), ti_sI_ne (by omega)]) (ti_sI_ne (by omega)) (funext fun j => ti_sI_ne (by omega)) (funext fun j => ti_sI_ne (by omega)) rfl (by rw [r3 5 3 (by omega), ti_sI_ne (by omega)]) (funext fun j => by rw [r3 7 j (by omega), ti_sI_ne (by omega)]) (fun _ => by rw [r3 4 0 (by omega), ti_sI_eq, ti_sI_eq]) (ti_sI_ne (by omega)) (funext fun j => ti_sI_ne (by omega))
    · rw [r3 4 0 (by omega), ti_sI_eq]
    · intro k j τ hk q
      rw [r3 k j (fun z => by
        rw [z.1, t25] at hk
        omega), ti_sI_ne (fun z => by
        rw [z.1, t4] at hk
        omega)]
    · intro p q
      exact funext fun j => ti_sI_ne (by omega)
  have m62 : sI (wI m 57 0 (sI m 57 0 + 1)) 57 62 = sI m 57 62 := ti_sI_ne (by omega)
  have m63 : sI (wI m 57 0 (sI m 57 0 + 1)) 57 63 = sI m 57 63 := ti_sI_ne (by omega)
  refine m_of (st_gIe m62) ?_
  by_cases c1 : sI m 57 62 = -1
  · exact m_of (st_T c1) (skip (fun q => (p2.mp q).1 c1))
  refine m_of (st_F c1) (m_of (st_gIe (ti_sI_eq _ _ _ _)) (m_of (st_gIe m63) ?_))
  by_cases c2 : sI m 57 0 + 1 < sI m 57 63
  · exact m_of (st_T c2) (skip (fun q => (p2.mp q).2 c2))
  have v1 : v9 = 1 := p2.mpr ⟨c1, c2⟩
  obtain ⟨w, w1, w2, w3, w4⟩ := y5.resolve_left c1
  rw [if_neg (by rw [v1]; decide)]
  refine m_of (st_F c2) (m_of (st_gRe (MF_e hm rfl 65 112 rfl)) (m_of (st_gIe (v := Int32.ofNat kg) ((ti_sI_ne (by omega)).trans y2.2)) (m_of (st_gIe (ti_sI_eq _ _ _ _)) (m_of (st_bIe (oc (by omega))) ?_))))
  refine m_of (st_gIe (v := Int32.ofNat w) ((ti_sI_ne (by omega)).trans (m62.trans w3))) (m_of st_pI (m_of st_pI (m_of (st_gIe (v := Int32.ofNat w) ((ti_sI_ne (by omega)).trans (ti_sI_eq _ _ _ _))) (m_of st_rv ?_))))
  obtain ⟨m27, em27⟩ : ∃ m27, m27 = wI (wI (wI (wI m 57 0 (sI m 57 0 + 1)) 112 kg (sI m 57 0 + 1 + 20)) 57 61 (Int32.ofNat w)) 57 62 (-1) := ⟨_, rfl⟩
  rw [← em27]
  refine m_pd (p_mw (m := m27) (by rw [em27]; exact MF_e hm rfl)) (fun m30 b => ?_)
  have b : AWM m27 m30 (Int32.ofNat 5) (Int32.ofNat w) := b
  rw [show ∀ (x : Option (Option Nat)) (F : Option Nat → Option AS) (G : AS → Option ((α ⊕ String) × AS)), (x.bind F).bind G = x.bind (fun v => (F v).bind G) from fun x F G => Option.bind_assoc x F G]
  refine l_of (st_gRe (hk3.1 15 25 rfl)) ?_
  rw [show ∀ (x : Option Int32) (F : Int32 → Option AS) (G : AS → Option ((α ⊕ String) × AS)), (x.bind F).bind G = x.bind (fun v => (F v).bind G) from fun x F G => Option.bind_assoc x F G]
  refine l_of (st_gIe n1) ?_
  rw [show ∀ (x : Option Unit) (F : Unit → Option AS) (G : AS → Option ((α ⊕ String) × AS)), (x.bind F).bind G = x.bind (fun v => (F v).bind G) from fun x F G => Option.bind_assoc x F G]
  refine l_of st_rv ?_
  rw [show ∀ (x : Option AS) (F : AS → Option AS) (G : AS → Option ((α ⊕ String) × AS)), (x.bind F).bind G = x.bind (fun v => (F v).bind G) from fun x F G => Option.bind_assoc x F G]
  refine l_pd (p_put (g := kg) hk3.2.2.2 (by rw [ti_sI_ne (by omega)]; exact y3.2.1.trans y2.2) (by omega)) (fun S13 e13 => ?_)
  have e13 : S13 = wI (wI (wI (wI S 4 0 (sI m 57 0 + 1)) 26 kg (sI m 57 0 + 1 + 20)) 25 1 (sI (wI S 4 0 (sI m 57 0 + 1)) 25 2)) 25 2 (-1) := e13
  have y13 : KY (sI m 57 0).toInt S13 m27 := by
    rw [e13]
    refine KY_sign y3' hn0 ht e1 ((ti_sI_ne (by omega)).trans y2.2) (by omega) (by rw [m62]; exact c1) (fun p j q => ?_) ?_ ?_ (fun k => ?_)
    · rw [em27, ti_sI_ne (by omega), ti_sI_ne (by omega), ti_sI_ne (by omega)]
    · rw [em27, ti_sI_ne (by omega), ti_sI_eq, m62, w3]
    · rw [em27, ti_sI_eq]
    · rw [em27, ti_sI_ne (by omega), ti_sI_ne (by omega)]
      by_cases q : k = kg
      · rw [q, ti_sI_eq, if_pos rfl]
      · rw [ti_sI_ne (fun z => q z.2), if_neg q]
  have r13 : sR S13 = sR S := by rw [e13]; rfl
  have l13 : sL S13 = sL S := by rw [e13]; rfl
  have k13 : K4F S13 := by
    unfold K4F
    rw [r13]
    exact hkf
  have s13 : ∀ k j, k ≠ 25 → k ≠ 26 → ¬ (k = 4 ∧ j = 0) → sI S13 k j = sI S k j := fun k j a1 a2 a3 => by
    rw [e13, ti_sI_ne (fun q => a1 q.1), ti_sI_ne (fun q => a1 q.1), ti_sI_ne (fun q => a2 q.1), ti_sI_ne a3]
  have n13 : sI S13 4 0 = sI m 57 0 + 1 := by
    rw [e13, ti_sI_ne (by omega), ti_sI_ne (by omega), ti_sI_ne (by omega), ti_sI_eq]
  have g13 : sI S13 25 1 = Int32.ofNat w := by
    rw [e13, ti_sI_ne (by omega), ti_sI_eq, ti_sI_ne (by omega), y3.2.2.1, w3]
  have c13 : sI S13 25 0 = Int32.ofNat kc := by
    rw [e13, ti_sI_ne (by omega), ti_sI_ne (by omega), ti_sI_ne (by omega), ti_sI_ne (by omega), y3.1, y2.1]
  rw [show ∀ (x : Option (Option Nat)) (F : Option Nat → Option AS) (G : AS → Option ((α ⊕ String) × AS)), (x.bind F).bind G = x.bind (fun v => (F v).bind G) from fun x F G => Option.bind_assoc x F G]
  refine l_of (st_gRe (k13.1 1 5 rfl)) ?_
  rw [show ∀ (x : Option (Option Nat)) (F : Option Nat → Option AS) (G : AS → Option ((α ⊕ String) × AS)), (x.bind F).bind G = x.bind (fun v => (F v).bind G) from fun x F G => Option.bind_assoc x F G]
  refine l_of (st_gRe (k13.1 15 25 rfl)) ?_
  rw [show ∀ (x : Option Int32) (F : Int32 → Option AS) (G : AS → Option ((α ⊕ String) × AS)), (x.bind F).bind G = x.bind (fun v => (F v).bind G) from fun x F G => Option.bind_assoc x F G]
  refine l_of (st_gIe g13) ?_
  rw [show ∀ (x : Option Int32) (F : Int32 → Option AS) (G : AS → Option ((α ⊕ String) × AS)), (x.bind F).bind G = x.bind (fun v => (F v).bind G) from fun x F G => Option.bind_assoc x F G]
  refine l_of st_gI ?_
  rw [show ∀ (x : Option Unit) (F : Unit → Option AS) (G : AS → Option ((α ⊕ String) × AS)), (x.bind F).bind G = x.bind (fun v => (F v).bind G) from fun x F G => Option.bind_assoc x F G]
  refine l_of st_rv ?_
  rw [show ∀ (x : Option AS) (F : AS → Option AS) (G : AS → Option ((α ⊕ String) × AS)), (x.bind F).bind G = x.bind (fun v => (F v).bind G) from fun x F G => Option.bind_assoc x F G]
  refine l_pd (p_aw k13.2.1 k13.2.2.1 rfl) (fun S19 a => ?_)
  have a : AWK S13 S19 (Int32.ofNat 5) (Int32.ofNat w) := a
  have k19 : K4F S19 := by
    unfold K4F
    rw [a.1.1, r13]
    exact hkf
  refine l_pd (p_B44 k19 y1.2.1 (by rw [a.1.2.2 25 0 (by omega) (by omega) (by omega)]; exact c13)) (fun S5 p => ?_)
  obtain ⟨r1, r2, r3, r4⟩ := p
  have o27 : ∀ p j, p ≠ 112 → ¬ (p = 57 ∧ (j = 0 ∨ j = 61 ∨ j = 62)) → sI m27 p j = sI m p j := fun p j a1 a2 => by
    rw [em27, ti_sI_ne (by omega), ti_sI_ne (by omega), ti_sI_ne (by omega), ti_sI_ne (by omega)]
  refine go S5 m30 ⟨?_, ?_, ?_, ?_, fun k j q1 q2 => ?_, fun p j q => ?_⟩ ?_ ?_ ?_ ?_ ?_ ?_
  · rw [r1, a.1.1, r13]
  · rw [r2, a.1.2.1, l13]
  · rw [b.1.1, em27]; rfl
  · rw [b.1.2.1, em27]; rfl
  · have n5 : ∀ x, (T x = 2 ∨ T x = 3 ∨ T x = 4 ∨ T x = 10 ∨ T x = 11) → k ≠ x := fun x hx z => by
      rw [z] at q2
      rcases hx with hx | hx | hx | hx | hx <;> rw [hx] at q2 <;> cases q2
    rw [r3 k j (fun z => n5 25 (by omega) z.1), a.1.2.2 k j (n5 5 (by omega)) (n5 6 (by omega)) (n5 7 (by omega)), s13 k j (n5 25 (by omega)) (n5 26 (by omega)) (fun z => by
      rw [z.1, z.2, t4] at q2
      cases q2)]
  · rw [b.1.2.2 p j (fun z => by rw [z] at q; cases q) (fun z => by rw [z] at q; cases q) (fun z => by rw [z] at q; cases q) (fun z => by
      obtain ⟨z1, z2⟩ := z
      subst z1
      rcases z2 with rfl | rfl <;> cases q), o27 p j (fun z => by rw [z] at q; cases q) (fun z => by
      obtain ⟨z1, z2⟩ := z
      subst z1
      rcases z2 with rfl | rfl | rfl <;> cases q)]
  · refine KY_min (S := S19) (m := m30) (KY_cong y13 (fun j => a.1.2.2 25 j (by omega) (by omega) (by omega)) (fun j => a.1.2.2 26 j (by omega) (by omega) (by omega)) (fun p j q => b.1.2.2 p j (by omega) (by omega) (by omega) (by omega))) hn0 ?_ r3 (fun _ _ _ => rfl) (fun c2 q1 q2 x hx => ?_)
    · rw [a.1.2.2 4 0 (by omega) (by omega) (by omega), n13]
      exact e1
    · have : c2 = kc := oinj (by omega) (by omega) (q1.symm.trans (by rw [a.1.2.2 25 0 (by omega) (by omega) (by omega)]; exact c13))
      rw [this]
      exact r4 x hx
  · refine AU_cong (S := S19) (m := m30) (AU_w (k := 5) (nu := w) (lv := sI m 89) (lv' := sI m 89) (n := n) (n' := n) (S := S13) (m := m27) (AU_cong ha ?_ ?_ ?_ ?_ ?_ rfl (s13 5 3 (by omega) (by omega) (by omega)) (funext fun j => s13 7 j (by omega) (by omega) (by omega)) (fun _ => n13.trans (by rw [em27, ti_sI_ne (by omega), ti_sI_ne (by omega), ti_sI_ne (by omega), ti_sI_eq])) (o27 57 81 (by omega) (by omega)) (funext fun j => o27 125 j (by omega) (by omega))) ?_ n60 n60 (by omega) (by omega) a b (fun s _ => by omega) (fun s _ => ⟨Or.inl, fun q => q.elim id (fun z => absurd z.1 (by decide))⟩) (fun s h => Or.inl ⟨rfl, h, Or.inl (by omega)⟩)) (r3 5 2 (by omega)) (funext fun j => r3 6 j (by omega)) rfl rfl rfl rfl (r3 5 3 (by omega)) (funext fun j => r3 7 j (by omega)) (fun z => (r3 4 0 (by omega)).trans z) rfl rfl
    · exact s13 5 2 (by omega) (by omega) (by omega)
    · exact funext fun j => s13 6 j (by omega) (by omega) (by omega)
    · exact o27 57 77 (by omega) (by omega)
    · exact funext fun j => o27 123 j (by omega) (by omega)
    · exact funext fun j => o27 124 j (by omega) (by omega)
    · rw [em27]
      exact st.2.2.2.1.2.2.2.2.2.2.2.2
  · rw [r3 4 0 (by omega), a.1.2.2 4 0 (by omega) (by omega) (by omega)]
    exact n13
  · rw [b.1.2.2 57 0 (by omega) (by omega) (by omega) (by omega), em27, ti_sI_ne (by omega), ti_sI_ne (by omega), ti_sI_ne (by omega), ti_sI_eq]
  · intro k j τ hk q
    have n5 : ∀ x τ', T x = τ' → τ' = 2 ∨ τ' = 3 ∨ τ' = 4 ∨ τ' = 10 ∨ τ' = 11 → k ≠ x := fun x τ' hx hz z => by
      rw [z, hx] at hk
      omega
    rw [r3 k j (fun z => n5 25 10 t25 (by omega) z.1), a.1.2.2 k j (n5 5 2 t5 (by omega)) (n5 6 3 t6 (by omega)) (n5 7 4 t7 (by omega)), s13 k j (n5 25 10 t25 (by omega)) (n5 26 11 t26 (by omega)) (fun z => by
      rw [z.1, t4] at hk
      omega)]
  · intro p q
    exact funext fun j => by rw [b.1.2.2 p j (by omega) (by omega) (by omega) (by omega), o27 p j (by omega) (by omega)]
theorem h_pass_L {mm b0 : Nat} (hmm : mm ≤ 600) (hb : b0 ≤ 60) : ∀ (k i fu fu' c : Nat) (S m : AS), i + k = mm → PI T n nf nt S m → (sI m 57 0).toInt + k ≤ 30000 → c + cnt (sI m 89) n = b0 →
    H2 (f_K_pass_L38 fu S (some 4) (Int32.ofNat mm) (Int32.ofNat b0) (Int32.ofNat i)) (f_M_pass_L45 fu' m (some 57) (Int32.ofNat mm) (Int32.ofNat c) (Int32.ofNat i)) (fun a b => ∃ S' c' m', a = (.inl (Int32.ofNat c'), S') ∧ b = (Int32.ofNat c', m') ∧ PI T n nf nt S' m' ∧ XO T S m S' m' ∧ (sI m' 57 0).toInt = (sI m 57 0).toInt + k)
  | _, _, 0, _, _, _, _, _, _, _, _ => h2_l0
  | _, _, _ + 1, 0, _, _, _, _, _, _, _ => h2_m0
  | 0, i, fu + 1, fu' + 1, c, S, m, hk, h, ht, hc => by
    unfold f_K_pass_L38 f_K_pass_C38 f_M_pass_L45 f_M_pass_C45
    have le : Int32.ofNat mm ≤ Int32.ofNat i := (ole4 (by omega) (by omega)).mpr (by omega)
    have c60 := cnt_le (sI m 89) n
    have n60 := h.1.2.2.2.1.1
    refine l_of (st_T le) (m_of (st_T le) (l_of (st_gIe h.2.1.2.2.2.1) ?_))
    rw [osub b0 (by omega) _ (by omega) (by omega), show b0 - cnt (sI m 89) n = c by omega]
    exact h2_ret ⟨S, c, m, rfl, rfl, h, ⟨rfl, rfl, rfl, rfl, fun _ _ _ _ => rfl, fun _ _ _ => rfl⟩, by omega⟩
  | k + 1, i, fu + 1, fu' + 1, c, S, m, hk, h, ht, hc => by
    unfold f_K_pass_L38 f_K_pass_C38 f_M_pass_L45 f_M_pass_C45
    have le : ¬ Int32.ofNat mm ≤ Int32.ofNat i := fun q => by
      have := (ole4 (by omega) (by omega)).mp q
      omega
    refine l_of (st_F le) (m_of (st_F le) ?_)
    refine h_min (k45 := f_M_pass_L45 fu') (G := fun S7 => (some (Int32.ofNat i + (1 : Int32))).bind fun i9 => f_K_pass_L38 fu S7 (some 4) (Int32.ofNat mm) (Int32.ofNat b0) i9) h (by omega) hb hc (fun S' m' c' h' ht' hc' x' => ?_)
    refine l_of st_val ?_
    rw [o1]
    refine h2_mono (h_pass_L hmm hb k (i + 1) fu fu' c' S' m' (by omega) h' (by omega) hc') (fun a b p => ?_)
    obtain ⟨S2, c2, m2, p1, p2, p3, p4, p5⟩ := p
    exact ⟨S2, c2, m2, p1, p2, p3, XO_trans x' p4, by omega⟩
end
