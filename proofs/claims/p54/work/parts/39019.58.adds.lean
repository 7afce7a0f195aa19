/-! ===== an element is put at a list's end ===== -/
theorem st_cp {α : Type} {S : AS} {k y : Nat} {n : Int32} {F : AS → Option α} : Le ((kr_cp S (some k) (some y) n).bind F) (F (wC S k y n.toNatClampNeg)) := fun _ ha => (bind_cut ha).2
theorem p_grow {S : AS} {l d n : Nat} (hr : sR S l 1 = some d) (hs : sI S l 2 = Int32.ofNat n) (hn : n < 201) (hL : sL S d = n) (hd : d < sN S) : Hp (f_AL_grow1 S (some l)) (fun q => ∃ m, q.1 = some (sN S) ∧ (q.2 = wR (wC (wN S 43 m m) d (sN S) n) l 1 (some (sN S)) ∨ (n = 0 ∧ q.2 = wR (wN S 43 m m) l 1 (some (sN S))))) := by
  have b20 : Hp (f_AL_grow2_B20 S (some l) (Int32.ofNat n + (1 : Int32)) (Int32.ofNat n)) (fun q => ∃ m, q.1 = some (sN S) ∧ (q.2 = wR (wC (wN S 43 m m) d (sN S) n) l 1 (some (sN S)) ∨ (n = 0 ∧ q.2 = wR (wN S 43 m m) l 1 (some (sN S))))) := by
    obtain ⟨g1, g2, m, g3, g4, g5⟩ := gl n hn
    unfold f_AL_grow2_B20
    refine p_b2 (P := fun q => q = (Int32.ofNat m, S)) ?_ (fun v S' e => ?_)
    · unfold f_AS_newLength
      refine p_of st_val (p_of (st_F g1) (p_of (st_F g2) (p_ret ?_)))
      rw [g5]
    · cases e
      refine p_of (st_gRe hr) ?_
      refine p_b2 (P := fun q => q = (some (sN S), wC (wN S 43 m m) d (sN S) n)) ?_ (fun v S' e => ?_)
      · unfold f_AR_copyOf1 f_AR_copyOf2
        refine p_of st_rv ?_
        refine p_b2 (P := fun q => q = (some (sN S), wC (wN S 43 m m) d (sN S) n)) ?_ (fun v S' e => p_ret e)
        refine p_of (st_T rfl) (p_of st_nA ?_)
        rw [oc (by omega)]
        unfold f_AR_copyOf2_B24
        refine p_of st_aN ?_
        rw [(ti_wN (S := S) (κ := 43) (l := m) (s := m) (k := d) (by omega)).2.1, hL]
        rw [if_neg (fun z => by
          have := Int32.lt_iff_toInt_lt.mp z
          rw [oi (by omega), oi (by omega)] at this
          omega)]
        refine p_of st_cp (p_ret ?_)
        rw [oc (by omega)]
      · cases e
        exact p_of st_pR (p_ret ⟨m, rfl, Or.inl rfl⟩)
  unfold f_AL_grow1 f_AL_grow2
  refine p_of (st_gIe hs) (p_of st_rv ?_)
  refine p_b2 (P := fun q => ∃ m, q.1 = some (sN S) ∧ (q.2 = wR (wC (wN S 43 m m) d (sN S) n) l 1 (some (sN S)) ∨ (n = 0 ∧ q.2 = wR (wN S 43 m m) l 1 (some (sN S))))) ?_ (fun v S' e => p_ret e)
  refine p_of (st_gRe hr) (p_of st_aN ?_)
  rw [hL]
  refine p_if (fun c => b20) (fun c => ?_)
  have n0 : n = 0 := by
    have := Int32.not_lt.mp c
    have := Int32.le_iff_toInt_le.mp this
    rw [oi (by omega), show (0 : Int32).toInt = 0 from by decide] at this
    omega
  refine p_of (st_gRe hr) (p_of st_ac (p_of st_ac (p_if (fun c2 => ?_) (fun c2 => b20))))
  exact p_of st_nA (p_of st_pR (p_ret ⟨_, rfl, Or.inr ⟨n0, rfl⟩⟩))
/-- the list l (its row was d) has x behind its n elements; all else that was there is as it was -/
def ADD (S S' : AS) (l d x n : Nat) : Prop :=
  (∀ p j, p < sN S → ¬ (p = l ∧ (j = 0 ∨ j = 2)) → sI S' p j = sI S p j) ∧ sI S' l 2 = Int32.ofNat (n + 1) ∧
  (∀ p j, p < sN S → ¬ (p = l ∧ j = 1) → ¬ (p = d ∧ j = n) → sR S' p j = sR S p j) ∧
  (∀ i, i < n → sR S' ((sR S' l 1).getD 0) i = sR S d i) ∧ sR S' ((sR S' l 1).getD 0) n = some x
theorem p_add {S : AS} {l d x n : Nat} (hr : sR S l 1 = some d) (hs : sI S l 2 = Int32.ofNat n) (hn : n < 201) (hL : sL S d ≤ 400) (hl : l < sN S) (hd : d < sN S) (hne : d ≠ l) : Hp (f_AL_add1 S (some l) (some x)) (fun q => ADD S q.2 l d x n) := by
  unfold f_AL_add1
  refine p_of st_gI (p_of st_pI (p_of (st_gRe (v := some d) hr) (p_of (st_gIe (v := Int32.ofNat n) ((ti_sI_ne (by omega)).trans hs)) (p_of st_rv ?_))))
  refine p_bd (P := fun S' => ADD S S' l d x n) ?_ (fun S' p => p_ret p)
  obtain ⟨S2, e2⟩ : ∃ S2, S2 = wI S l 0 (sI S l 0 + 1) := ⟨_, rfl⟩
  rw [← e2]
  have rS : sR S2 = sR S := by rw [e2, sR_wI]
  have nS : sN S2 = sN S := by
    rw [e2]
    rfl
  have lS : sL S2 = sL S := by
    rw [e2]
    rfl
  have oS : ∀ {p j : Nat}, ¬ (p = l ∧ j = 0) → sI S2 p j = sI S p j := fun q => by
    rw [e2]
    exact ti_sI_ne q
  have s2 : sI S2 l 2 = Int32.ofNat n := (oS (by omega)).trans hs
  unfold f_AL_add2
  refine p_of st_aN ?_
  rw [lS]
  refine p_if (fun c => ?_) (fun c => ?_)
  · have eL : sL S2 d = n := by
      rw [lS]
      have := congrArg Int32.toInt c
      rw [oi4 (by omega), oi4 (by omega)] at this
      omega
    refine p_of st_rv (p_b2 (p_grow (S := S2) (by rw [rS]; exact hr) s2 hn eL (by rw [nS]; exact hd)) (fun v S3 p => ?_))
    obtain ⟨m, p1, p2⟩ := p
    have p1 : v = some (sN S2) := p1
    rw [p1]
    unfold f_AL_add2_B11
    refine p_of st_bR (p_of st_pI (p_ret ?_))
    rw [oc (by omega), o1]
    have fI : ∀ p j, p < sN S → sI S3 p j = sI S2 p j := fun p j hp => by
      rcases p2 with p2 | ⟨-, p2⟩
      · have p2 : S3 = _ := p2
        rw [p2]
        show sI (wN S2 43 m m) p j = _
        rw [(ti_wN (by omega)).2.2.1]
      · have p2 : S3 = _ := p2
        rw [p2]
        show sI (wN S2 43 m m) p j = _
        rw [(ti_wN (by omega)).2.2.1]
    have fR : ∀ p j, p < sN S → ¬ (p = l ∧ j = 1) → sR S3 p j = sR S p j := fun p j hp q => by
      rcases p2 with p2 | ⟨-, p2⟩
      · have p2 : S3 = _ := p2
        rw [p2, ti_sR_ne q]
        show (if p = sN S2 then (fun b => if b < n then sR (wN S2 43 m m) d b else sR (wN S2 43 m m) (sN S2) b) else sR (wN S2 43 m m) p) j = _
        rw [if_neg (by omega), (ti_wN (by omega)).2.2.2.1, rS]
      · have p2 : S3 = _ := p2
        rw [p2, ti_sR_ne q, (ti_wN (by omega)).2.2.2.1, rS]
    have r1 : sR S3 l 1 = some (sN S2) := by
      rcases p2 with p2 | ⟨-, p2⟩
      · have p2 : S3 = _ := p2
        rw [p2, ti_sR_eq]
      · have p2 : S3 = _ := p2
        rw [p2, ti_sR_eq]
    have re : ∀ i, i < n → sR S3 (sN S2) i = sR S d i := fun i hi => by
      rcases p2 with p2 | ⟨n0, -⟩
      · have p2 : S3 = _ := p2
        rw [p2, ti_sR_ne (by omega)]
        show (if sN S2 = sN S2 then (fun b => if b < n then sR (wN S2 43 m m) d b else sR (wN S2 43 m m) (sN S2) b) else sR (wN S2 43 m m) (sN S2)) i = _
        rw [if_pos rfl]
        show (if i < n then sR (wN S2 43 m m) d i else sR (wN S2 43 m m) (sN S2) i) = _
        rw [if_pos hi, (ti_wN (by omega)).2.2.2.1, rS]
      · omega
    have rl : sR (wI (wR S3 (sN S2) n (some x)) l 2 (Int32.ofNat (n + 1))) l 1 = some (sN S2) := by
      rw [sR_wI, ti_sR_ne (by omega)]
      exact r1
    refine ⟨fun p j hp q => ?_, ti_sI_eq _ _ _ _, fun p j hp q1 q2 => ?_, fun i hi => ?_, ?_⟩
    · rw [ti_sI_ne (by omega)]
      show sI S3 p j = _
      rw [fI p j hp, oS (by omega)]
    · rw [sR_wI, ti_sR_ne (by omega)]
      exact fR p j hp q1
    · rw [rl]
      show sR (wI (wR S3 (sN S2) n (some x)) l 2 (Int32.ofNat (n + 1))) (sN S2) i = _
      rw [sR_wI, ti_sR_ne (by omega)]
      exact re i hi
    · rw [rl]
      show sR (wI (wR S3 (sN S2) n (some x)) l 2 (Int32.ofNat (n + 1))) (sN S2) n = _
      rw [sR_wI, ti_sR_eq]
  · unfold f_AL_add2_B11
    refine p_of st_bR (p_of st_pI (p_ret ?_))
    rw [oc (by omega), o1]
    have rl : sR (wI (wR S2 d n (some x)) l 2 (Int32.ofNat (n + 1))) l 1 = some d := by
      rw [sR_wI, ti_sR_ne (by omega), rS]
      exact hr
    refine ⟨fun p j hp q => ?_, ti_sI_eq _ _ _ _, fun p j hp q1 q2 => ?_, fun i hi => ?_, ?_⟩
    · rw [ti_sI_ne (by omega)]
      show sI S2 p j = _
      rw [oS (by omega)]
    · rw [sR_wI, ti_sR_ne q2, rS]
    · rw [rl]
      show sR (wI (wR S2 d n (some x)) l 2 (Int32.ofNat (n + 1))) d i = _
      rw [sR_wI, ti_sR_ne (by omega), rS]
    · rw [rl]
      show sR (wI (wR S2 d n (some x)) l 2 (Int32.ofNat (n + 1))) d n = _
      rw [sR_wI, ti_sR_eq]
theorem lp_ne : ∀ q, q < 7 → lp q ≠ 0 := by decide
/-- a list's row out of the types -/
theorem LO_add {T : Nat → Nat} {S : AS} (hT : TI T S) {q n : Nat} (hq : q < 7) (hs : sI S (lp q) 2 = Int32.ofNat n) (hn : n < 201) : ∃ d, sR S (lp q) 1 = some d ∧ sL S d ≤ 400 ∧ lp q < sN S ∧ d < sN S ∧ d ≠ lp q ∧ (∀ k, T k ≠ 0 → kd (T k) ≠ 1 → T k ≠ 30 + q → k ≠ d) := by
  obtain ⟨l1, d, l2, l3, l4, l5, l6⟩ := hT.t6 q hq
  have a1 := (hT.t1 (lp q) (by rw [l1]; omega)).1
  have t0 := hT.t8.1
  refine ⟨d, l2, l5, a1, ?_, ?_, ?_⟩
  · rcases l3 with l3 | l3
    · exact (hT.t1 d (by rw [l3]; omega)).1
    · omega
  · rintro rfl
    rcases l3 with l3 | l3
    · omega
    · exact lp_ne q hq l3
  · rintro k hk hk1 hk2 rfl
    rcases l3 with l3 | l3
    · exact hk2 l3
    · have := (hT.t1 k hk).2.1
      rw [l3] at this hk1
      rw [hT.t8.2.1] at this
      exact hk1 this.symm
