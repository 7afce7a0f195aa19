theorem ti_gI {S : AS} {κ j k : Nat} (h : sK S k = κ) : gI S κ j (some k) = some (sI S k j) := by
  unfold gI
  rw [Option.bind_some, if_pos h]
theorem ti_gR {S : AS} {κ j k : Nat} (h : sK S k = κ) : gR S κ j (some k) = some (sR S k j) := by
  unfold gR
  rw [Option.bind_some, if_pos h]
theorem ti_pI {S : AS} {κ j k : Nat} {v : Int32} (h : sK S k = κ) : pI S κ j (some k) v = some (wI S k j v) := by
  unfold pI
  rw [Option.bind_some, if_pos h]
theorem ti_rv {S : AS} {κ k : Nat} (h : sK S k = κ) : kr_rv S κ (some k) = some () := by
  unfold kr_rv
  rw [Option.bind_some, if_pos h]
/-! ===== lists ===== -/
theorem lp_all : ∀ q, q < 7 → sg (20 + q) = some (lp q) ∧ kd (20 + q) = 10 ∧ kd (30 + q) = 43 ∧ ln (30 + q) = none ∧ sg (30 + q) = none ∧ ra (30 + q) = none ∧ 10 ≤ kd (el q) ∧ kd (el q) ≤ 22 ∧ ra (20 + q) = none ∧ rf (20 + q) 0 = none ∧ lp q ≠ 0 := by decide +kernel
theorem ft30 : ∀ q, q < 7 → kr_ftT.getD (30 + q) [] = [] ∧ kr_fnT.getD (30 + q) [] = [] ∧ kr_rfT.getD (30 + q) [] = [] := by decide +kernel
theorem ft30a {q : Nat} (hq : q < 7) (j : Nat) : ft (30 + q) j = none ∧ fn (30 + q) j = none ∧ rf (30 + q) j = none := by
  obtain ⟨h1, h2, h3⟩ := ft30 q hq
  unfold ft fn rf
  rw [h1, h2, h3]
  exact ⟨rfl, rfl, rfl⟩
theorem lp_inj : ∀ q, q < 7 → ∀ r, r < 7 → lp q = lp r → q = r := by decide +kernel
theorem lx {T : Nat → Nat} {S : AS} {q : Nat} {x : Option Nat} (hT : TI T S) (hq : q < 7) (hx : Tx T (20 + q) x) : x = some (lp q) := by
  obtain ⟨k, rfl, h1, h2⟩ := hx
  rw [hT.t7 k (lp q) (by rw [h1]; exact (lp_all q hq).1)]
theorem lK {T : Nat → Nat} {S : AS} {q : Nat} (hT : TI T S) (hq : q < 7) : sK S (lp q) = 10 := by
  have h1 := (hT.t6 q hq).1
  rw [Tx.K hT h1 (by omega)]
  exact (lp_all q hq).2.1
theorem sizeIn {T : Nat → Nat} {S : AS} {q : Nat} {lo hi : Int} (hT : TI T S) (hq : q < 7) (e : rf (20 + q) 2 = some (lo, hi)) : In lo hi (sI S (lp q) 2) := hT.t4 (lp q) 2 lo hi (by rw [(hT.t6 q hq).1]; exact e)
theorem r_size {β : Type} {T : Nat → Nat} {S : AS} (q : Nat) {x : Option Nat} {F : Int32 → AS → Option β} {Q : β → Prop} (hT : TI T S) (hx : Tx T (20 + q) x) (hq : q < 7) (h : ∀ v, v = sI S (lp q) 2 → Ho (F v S) Q) : Ho (kr_b2 (f_AL_size S x) F) Q := by
  rw [lx hT hq hx]
  unfold f_AL_size
  rw [ti_gI (lK hT hq)]
  exact h _ rfl
theorem r_empty {β : Type} {T : Nat → Nat} {S : AS} (q : Nat) {x : Option Nat} {F : Int32 → AS → Option β} {Q : β → Prop} (hT : TI T S) (hx : Tx T (20 + q) x) (hq : q < 7) (h1 : Ho (F 1 S) Q) (h0 : ¬ sI S (lp q) 2 = 0 → Ho (F 0 S) Q) : Ho (kr_b2 (f_AL_isEmpty S x) F) Q := by
  rw [lx hT hq hx]
  unfold f_AL_isEmpty
  rw [ti_gI (lK hT hq), Option.bind_some]
  by_cases c : sI S (lp q) 2 = 0
  · rw [if_pos c]; exact h1
  · rw [if_neg c]; exact h0 c
theorem natI {i : Int32} (h : 0 ≤ i.toInt) : (i.toNatClampNeg : Int) = i.toInt := by
  rw [← Int32.toNat_toInt]
  omega
theorem nneg {i : Int32} (h : 0 ≤ i.toInt) : ¬ i < 0 := fun q => by
  have := Int32.lt_iff_toInt_lt.mp q
  rw [show (0 : Int32).toInt = 0 from by decide] at this
  omega
theorem ho_get {T : Nat → Nat} {S : AS} (q : Nat) {x : Option Nat} {i : Int32} (hT : TI T S) (hx : Tx T (20 + q) x) (hq : q < 7) (h0 : 0 ≤ i.toInt) (h1 : i.toInt < (sI S (lp q) 2).toInt) : Ho (f_AL_get S x i) (fun z => z.2 = S ∧ Tx T (el q) z.1) := by
  rw [lx hT hq hx]
  obtain ⟨l1, d, l2, l3, l4, l5, l6⟩ := hT.t6 q hq
  have hk := lK hT hq
  have hd : sK S d = 43 := by
    rcases l3 with l3 | l3
    · rw [Tx.K hT l3 (by omega)]
      exact (lp_all q hq).2.2.1
    · subst l3
      have := hT.t8.2.2.2.2.2.1
      omega
  have e := natI h0
  have hty := l6 i.toNatClampNeg (by omega)
  refine ⟨(sR S d i.toNatClampNeg, S), ?_, rfl, hty⟩
  unfold f_AL_get f_OB_checkIndex f_PR_checkIndex f_AL_elementData
  rw [ti_gI hk, Option.bind_some, if_neg (nneg h0), if_pos (Int32.lt_iff_toInt_lt.mpr h1)]
  show (kr_rv S 10 (some (lp q))).bind _ = _
  unfold kr_rv
  rw [Option.bind_some, if_pos hk, Option.bind_some, ti_gR hk, Option.bind_some, l2]
  unfold aR
  rw [Option.bind_some, if_pos ⟨hd, h0, by show i.toInt < (sL S d : Int); omega⟩]
  rfl
/-- another row for a list -/
theorem TIld {T : Nat → Nat} {S : AS} {q d : Nat} (h : TI T S) (hq : q < 7) (hd : T d = 30 + q) (h1 : (sI S (lp q) 2).toInt ≤ (sL S d : Int)) (h2 : sL S d ≤ 400) (h3 : ∀ i : Nat, (i : Int) < (sI S (lp q) 2).toInt → Tx T (el q) (sR S d i)) : TI T (wR S (lp q) 1 (some d)) := by
  have hp := (h.t6 q hq).1
  have hdp : d ≠ lp q := by
    rintro rfl
    omega
  refine ⟨h.t1, ?_, ?_, h.t4, h.t5, ?_, h.t7, h.t8, h.t9⟩
  · intro a b τ' e
    by_cases c : a = lp q ∧ b = 1
    · obtain ⟨rfl, rfl⟩ := c
      rw [hp] at e
      exact absurd e (by
        have : ∀ q, q < 7 → ft (20 + q) 1 = none := by decide +kernel
        rw [this q hq]
        exact fun z => nomatch z)
    · rw [ti_sR_ne c]
      exact h.t2 a b τ' e
  · intro a b τ' e
    by_cases c : a = lp q ∧ b = 1
    · obtain ⟨rfl, rfl⟩ := c
      rw [hp] at e
      exact absurd e (by
        have : ∀ q, q < 7 → fn (20 + q) 1 = none := by decide +kernel
        rw [this q hq]
        exact fun z => nomatch z)
    · rw [ti_sR_ne c]
      exact h.t3 a b τ' e
  · intro r hr
    by_cases c : r = q
    · subst c
      refine ⟨hp, d, ti_sR_eq _ _ _ _, Or.inl hd, h1, h2, ?_⟩
      intro i hi
      rw [ti_sR_ne (fun z => hdp z.1)]
      exact h3 i hi
    · obtain ⟨l1, d', l2, l3, l4, l5, l6⟩ := h.t6 r hr
      have c1 : lp r ≠ lp q := fun z => c (lp_inj r hr q hq z)
      have c2 : d' ≠ lp q := by
        rintro rfl
        rcases l3 with l3 | l3
        · omega
        · exact (lp_all q hq).2.2.2.2.2.2.2.2.2.2 l3
      refine ⟨l1, d', ?_, l3, l4, l5, ?_⟩
      · rw [ti_sR_ne (fun z => c1 z.1)]; exact l2
      · intro i hi
        rw [ti_sR_ne (fun z => c2 z.1)]
        exact l6 i hi
/-- one more element -/
theorem TIla {T : Nat → Nat} {S : AS} {q d : Nat} {n : Int32} {v : Option Nat} {lo hi : Int} (h : TI T S) (hq : q < 7) (hr : sR S (lp q) 1 = some d) (hd : T d = 30 + q) (hn : sI S (lp q) 2 = n) (h1 : n.toInt < (sL S d : Int)) (hc : rf (20 + q) 2 = some (lo, hi)) (h2 : n.toInt < hi) (h3 : hi ≤ 1000) (hv : Tx T (el q) v) (h0 : lo = 0) : TI T (wI (wR S d n.toNatClampNeg v) (lp q) 2 (n + 1)) := by
  have hp := (h.t6 q hq).1
  have hb := sizeIn h hq hc
  rw [hn] at hb
  have hn0 : 0 ≤ n.toInt := by have := hb.1; omega
  have e1 : (n + 1).toInt = n.toInt + 1 := toInt_add1 (a := 0) (b := 1000) ⟨hn0, by omega⟩ (by omega) (by omega)
  have hdp : d ≠ lp q := by
    rintro rfl
    omega
  have hS1 : TI T (wI S (lp q) 2 n) → True := fun _ => trivial
  refine ⟨h.t1, ?_, ?_, ?_, ?_, ?_, h.t7, h.t8, h.t9⟩
  · intro a b τ' e
    show Tx T τ' (sR (wR S d n.toNatClampNeg v) a b)
    by_cases c : a = d ∧ b = n.toNatClampNeg
    · rw [c.1, hd, (ft30a hq b).1] at e
      cases e
    · rw [ti_sR_ne c]
      exact h.t2 a b τ' e
  · intro a b τ' e
    show sR (wR S d n.toNatClampNeg v) a b = none ∨ Tx T τ' (sR (wR S d n.toNatClampNeg v) a b)
    by_cases c : a = d ∧ b = n.toNatClampNeg
    · rw [c.1, hd, (ft30a hq b).2.1] at e
      cases e
    · rw [ti_sR_ne c]
      exact h.t3 a b τ' e
  · intro a b lo' hi' e
    by_cases c : a = lp q ∧ b = 2
    · obtain ⟨rfl, rfl⟩ := c
      rw [ti_sI_eq]
      rw [hp, hc] at e
      cases e
      exact ⟨by omega, by omega⟩
    · rw [ti_sI_ne c]
      exact h.t4 a b lo' hi' e
  · intro a b m lo' hi' e hb'
    by_cases c : a = lp q ∧ b = 2
    · obtain ⟨rfl, rfl⟩ := c
      rw [hp, (lp_all q hq).2.2.2.2.2.2.2.2.1] at e
      cases e
    · rw [ti_sI_ne c]
      exact h.t5 a b m lo' hi' e hb'
  · intro r hr'
    obtain ⟨l1, d', l2, l3, l4, l5, l6⟩ := h.t6 r hr'
    by_cases c : r = q
    · subst c
      rw [hr] at l2
      cases l2
      refine ⟨hp, d, ?_, Or.inl hd, ?_, l5, ?_⟩
      · show sR (wR S d n.toNatClampNeg v) (lp r) 1 = _
        rw [ti_sR_ne (fun z => hdp z.1.symm)]
        exact hr
      · rw [ti_sI_eq, e1]
        show n.toInt + 1 ≤ (sL S d : Int)
        omega
      · intro i hi'
        rw [ti_sI_eq, e1] at hi'
        show Tx T (el r) (sR (wR S d n.toNatClampNeg v) d i)
        by_cases ci : i = n.toNatClampNeg
        · subst ci
          rw [ti_sR_eq]
          exact hv
        · rw [ti_sR_ne (fun z => ci z.2)]
          have := natI hn0
          exact l6 i (by rw [hn]; omega)
    · have c1 : lp r ≠ lp q := fun z => c (lp_inj r hr' q hq z)
      have c2 : d' ≠ d := by
        rintro rfl
        rcases l3 with l3 | l3
        · omega
        · have := (h.t1 d' (by omega)).2.1
          rw [hd, (lp_all q hq).2.2.1, l3, h.t8.2.1] at this
          omega
      have c3 : lp r ≠ d := by
        rintro rfl
        omega
      refine ⟨l1, d', ?_, l3, ?_, l5, ?_⟩
      · show sR (wR S d n.toNatClampNeg v) (lp r) 1 = _
        rw [ti_sR_ne (fun z => c3 z.1)]
        exact l2
      · rw [ti_sI_ne (fun z => c1 z.1)]
        exact l4
      · intro i hi'
        rw [ti_sI_ne (fun z => c1 z.1)] at hi'
        show Tx T (el r) (sR (wR S d n.toNatClampNeg v) d' i)
        rw [ti_sR_ne (fun z => c2 z.1)]
        exact l6 i hi'

theorem gl : ∀ n, n < 201 → ¬ (Int32.ofNat n + (if (Int32.ofNat n + (1 : Int32) - Int32.ofNat n) < (Int32.ofNat n >>> ((1 : Int32) &&& 31)) then (Int32.ofNat n >>> ((1 : Int32) &&& 31)) else (Int32.ofNat n + (1 : Int32) - Int32.ofNat n))) ≤ (0 : Int32) ∧ ¬ (2147483639 : Int32) < (Int32.ofNat n + (if (Int32.ofNat n + (1 : Int32) - Int32.ofNat n) < (Int32.ofNat n >>> ((1 : Int32) &&& 31)) then (Int32.ofNat n >>> ((1 : Int32) &&& 31)) else (Int32.ofNat n + (1 : Int32) - Int32.ofNat n))) ∧ ∃ m, m < 301 ∧ n < m ∧ (Int32.ofNat n + (if (Int32.ofNat n + (1 : Int32) - Int32.ofNat n) < (Int32.ofNat n >>> ((1 : Int32) &&& 31)) then (Int32.ofNat n >>> ((1 : Int32) &&& 31)) else (Int32.ofNat n + (1 : Int32) - Int32.ofNat n))) = Int32.ofNat m := by decide +kernel
theorem gl2 : ∀ n, n < 301 → (Int32.ofNat n).toInt = n ∧ (Int32.ofNat n).toNatClampNeg = n := by decide +kernel
theorem ofNat_of {i : Int32} {n : Nat} (h : i.toInt = n) : i = Int32.ofNat n := by
  have := Int32.ofInt_toInt i
  rw [h] at this
  exact this.symm
theorem TIwC0 {T : Nat → Nat} {S : AS} {k y n : Nat} (h : TI T S) (hy : T y = 0) (h0 : y ≠ 0) : TI T (wC S k y n) := by
  have hn : ∀ a, T a ≠ 0 → sR (wC S k y n) a = sR S a := fun a ha => if_neg (fun e => ha (by rw [e]; exact hy))
  refine ⟨h.t1, ?_, ?_, h.t4, h.t5, ?_, h.t7, h.t8, h.t9⟩
  · intro a b τ e
    rw [hn a (fun z => by rw [z, ft0] at e; cases e)]
    exact h.t2 a b τ e
  · intro a b τ e
    rw [hn a (fun z => by rw [z, fn0] at e; cases e)]
    exact h.t3 a b τ e
  · intro q hq
    obtain ⟨l1, d, l2, l3, l4, l5, l6⟩ := h.t6 q hq
    have hd : sR (wC S k y n) d = sR S d := if_neg (fun e => by
      subst e
      rcases l3 with l3 | l3
      · omega
      · exact h0 l3)
    refine ⟨l1, d, by rw [hn _ (by rw [l1]; omega)]; exact l2, l3, l4, l5, fun i hi => by rw [hd]; exact l6 i hi⟩
theorem RlwC0 {T0 T : Nat → Nat} {w : List Nat} {S0 S : AS} {c s k y n : Nat} (h : Rl T0 w S0 c s T S) (hy : T y = 0) (h0 : y ≠ 0) : Rl T0 w S0 c s T (wC S k y n) := by
  have hn : ∀ a, T0 a ≠ 0 → sR (wC S k y n) a = sR S a := fun a ha => if_neg (fun e => ha (by rw [← h.ty a ha, e]; exact hy))
  refine ⟨TIwC0 h.1 hy h0, h.2.1, h.2.2.1, h.2.2.2.1, h.fI, ?_, h.fJ, h.2.2.2.2.2.2.2.1, h.2.2.2.2.2.2.2.2⟩
  intro a b p z
  rw [hn a p]
  exact h.fR a b p z
/-- the growing -/
theorem ho_grow {T0 T : Nat → Nat} {w w' : List Nat} {S0 S : AS} {c s : Nat} (q : Nat) {n : Nat} (hR : Rl T0 w S0 c s T S) (hq : q < 7) {d : Nat} (hr : sR S (lp q) 1 = some d) (hs : sI S (lp q) 2 = Int32.ofNat n) (hn : n < 201) (hd : sL S d = n) (hw : ∀ z ∈ cr (20 + q) 1 :: w, z ∈ w') :
    ∃ T' S' d', f_AL_grow1 S (some (lp q)) = some (some d', S') ∧ Rl T0 w' S0 (c + 1) (s + 300) T' S' ∧ (∀ k, T k ≠ 0 → T' k = T k) ∧ sI S' (lp q) = sI S (lp q) ∧ sR S' (lp q) 1 = some d' ∧ T' d' = 30 + q ∧ n < sL S' d' ∧ sK S' d' = 43 ∧ (∀ a, sK S a ≠ 0 → a < sN S → sK S' a = sK S a) := by
  have hT := hR.1
  have hk := lK hT hq
  obtain ⟨l1, d0, l2, l3, l4, l5, l6⟩ := hT.t6 q hq
  rw [hr] at l2
  cases l2
  have hn2 : n < 301 := by omega
  rw [hs, (gl2 n hn2).1] at l4 l6
  have hlpN : lp q < sN S := (hT.t1 (lp q) (by rw [l1]; omega)).1
  have hfz := TIfresh hT (Nat.le_refl (sN S))
  have h4 := hT.t8.1
  -- what is common: a row of m places is made, filled from d, and put into the list
  have key : ∀ m : Nat, n < m → m < 301 → ∀ SC : AS, (SC = wN S 43 m m ∨ SC = wC (wN S 43 m m) d (sN S) n) → (n = 0 ∨ SC = wC (wN S 43 m m) d (sN S) n) →
      Rl T0 w' S0 (c + 1) (s + 300) (kr_w T (sN S) (30 + q)) (wR SC (lp q) 1 (some (sN S))) ∧ (∀ k, T k ≠ 0 → kr_w T (sN S) (30 + q) k = T k) ∧ sI (wR SC (lp q) 1 (some (sN S))) (lp q) = sI S (lp q) ∧ sR (wR SC (lp q) 1 (some (sN S))) (lp q) 1 = some (sN S) ∧ kr_w T (sN S) (30 + q) (sN S) = 30 + q ∧ n < sL (wR SC (lp q) 1 (some (sN S))) (sN S) ∧ sK (wR SC (lp q) 1 (some (sN S))) (sN S) = 43 ∧ (∀ a, sK S a ≠ 0 → a < sN S → sK (wR SC (lp q) 1 (some (sN S))) a = sK S a) := by
    intro m hm1 hm2 SC hSC hSC2
    have g1 : Rl T0 w S0 (c + 1) (s + m) T (wN S 43 m m) := RlwN hR
    have g2 : Rl T0 w S0 (c + 1) (s + m) T SC := by
      rcases hSC with e | e
      · rw [e]; exact g1
      · rw [e]; exact RlwC0 g1 hfz (by omega)
    have eK : sK SC = sK (wN S 43 m m) := by rcases hSC with e | e <;> rw [e] <;> rfl
    have eL : sL SC = sL (wN S 43 m m) := by rcases hSC with e | e <;> rw [e] <;> rfl
    have eI : sI SC = sI (wN S 43 m m) := by rcases hSC with e | e <;> rw [e] <;> rfl
    have eN : sN SC = sN S + 1 := by rcases hSC with e | e <;> rw [e] <;> rfl
    have z0 := ti_wN0 S 43 m m
    have pr : TI (kr_w T (sN S) (30 + q)) SC := by
      refine TIpr g2.1 hfz (by omega) ?_ ?_ ?_ ?_ ?_ ?_ ?_ ?_
      · rw [eK, z0.1, (lp_all q hq).2.2.1]
      · rw [(lp_all q hq).2.2.1]; decide
      · intro a e; rw [(lp_all q hq).2.2.2.1] at e; cases e
      · intro j τ e; rw [(ft30a hq j).1] at e; cases e
      · intro j τ e; rw [(ft30a hq j).2.1] at e; cases e
      · intro j lo hi e; rw [(ft30a hq j).2.2] at e; cases e
      · intro j a lo hi e; rw [(lp_all q hq).2.2.2.2.2.1] at e; cases e
      · exact (lp_all q hq).2.2.2.2.1
    have g3 : Rl T0 w S0 (c + 1) (s + m) (kr_w T (sN S) (30 + q)) SC := Rlpr g2 hR.2.1 pr
    have eu : ∀ k, T k ≠ 0 → kr_w T (sN S) (30 + q) k = T k := fun k hk' => if_neg (fun e => hk' (by rw [e]; exact hfz))
    have ed : kr_w T (sN S) (30 + q) (sN S) = 30 + q := if_pos rfl
    have eIl : sI SC (lp q) = sI S (lp q) := by rw [eI, (ti_wN (by omega)).2.2.1]
    have eLn : sL SC (sN S) = m := by rw [eL, z0.2.1]
    have el' : ∀ i : Nat, (i : Int) < n → Tx (kr_w T (sN S) (30 + q)) (el q) (sR SC (sN S) i) := by
      intro i hi
      rcases hSC2 with e | e
      · omega
      · have : sR SC (sN S) i = sR S d i := by
          rw [e]
          show (if sN S = sN S then (fun b => if b < n then sR (wN S 43 m m) d b else sR (wN S 43 m m) (sN S) b) else sR (wN S 43 m m) (sN S)) i = sR S d i
          rw [if_pos rfl]
          show (if i < n then sR (wN S 43 m m) d i else sR (wN S 43 m m) (sN S) i) = sR S d i
          rw [if_pos (by omega), (ti_wN (by
            rintro rfl
            rcases l3 with l3 | l3
            · omega
            · omega)).2.2.2.1]
        rw [this]
        exact (l6 i hi).up eu
    have ti := TIld (q := q) (d := sN S) pr hq ed (by rw [eIl, hs, (gl2 n hn2).1, eLn]; omega) (by rw [eLn]; omega) (by rw [eIl, hs, (gl2 n hn2).1]; exact el')
    refine ⟨?_, eu, eIl, ti_sR_eq _ _ _ _, ed, by show n < sL SC (sN S); omega, by show sK SC (sN S) = 43; rw [eK, z0.1], fun a ha hb => by show sK SC a = _; rw [eK, (ti_wN (by omega)).1]⟩
    exact Rlweak (RlwR (τ := 20 + q) (w' := w') g3 ti (by rw [eu _ (by rw [l1]; omega)]; exact l1) hw) (fun _ z => z) (Nat.le_refl _) (by omega)
  unfold f_AL_grow1 f_AL_grow2
  rw [ti_gI hk, Option.bind_some, ti_rv hk, Option.bind_some, ti_gR hk, Option.bind_some, hr, hs]
  have hN : aN S (some d) = some (Int32.ofNat n) := by
    unfold aN
    rw [Option.bind_some, if_pos (by
      rcases l3 with l3 | l3
      · exact Or.inl (by rw [Tx.K hT l3 (by omega), (lp_all q hq).2.2.1]; decide)
      · exact Or.inr (by rw [l3]; exact hT.t8.2.1)), hd]
  rw [hN, Option.bind_some]
  have b20 : (d ≠ 0) → ∃ m, n < m ∧ m < 301 ∧ f_AL_grow2_B20 S (some (lp q)) (Int32.ofNat n + (1 : Int32)) (Int32.ofNat n) = some (some (sN S), wR (wC (wN S 43 m m) d (sN S) n) (lp q) 1 (some (sN S))) := by
    intro hd0
    have hdT : T d = 30 + q := by
      rcases l3 with l3 | l3
      · exact l3
      · exact absurd l3 hd0
    have hdK : sK S d = 43 := by rw [Tx.K hT hdT (by omega), (lp_all q hq).2.2.1]
    have hdN : d ≠ sN S := by
      rintro rfl
      omega
    obtain ⟨g1, g2, m, g3, g4, g5⟩ := gl n hn
    refine ⟨m, g4, g3, ?_⟩
    unfold f_AL_grow2_B20 f_AS_newLength
    rw [Option.bind_some, if_neg g1, if_neg g2, g5]
    show (gR S 10 1 (some (lp q))).bind _ = _
    rw [ti_gR hk, Option.bind_some, hr]
    unfold f_AR_copyOf1 f_AR_copyOf2
    rw [ti_rv hdK, Option.bind_some, if_pos rfl]
    unfold nA
    rw [if_pos ⟨by rw [(gl2 m g3).1]; omega, by rw [(gl2 m g3).1]; omega⟩, Option.bind_some, (gl2 m g3).2]
    have e1 := ti_wN (S := S) (κ := 43) (l := m) (s := m) hdN
    have e0 := ti_wN0 S 43 m m
    unfold f_AR_copyOf2_B24
    have hN2 : aN (wN S 43 m m) (some d) = some (Int32.ofNat n) := by
      unfold aN
      rw [Option.bind_some, if_pos (Or.inl (by rw [e1.1, hdK]; decide)), e1.2.1, hd]
    rw [hN2, Option.bind_some, if_neg (fun z => by
      have := Int32.lt_iff_toInt_lt.mp z
      rw [(gl2 m g3).1, (gl2 n hn2).1] at this
      omega)]
    have hcp : kr_cp (wN S 43 m m) (some d) (some (sN S)) (Int32.ofNat n) = some (wC (wN S 43 m m) d (sN S) n) := by
      unfold kr_cp
      rw [Option.bind_some, Option.bind_some, if_pos, (gl2 n hn2).2]
      refine ⟨⟨by rw [e1.1]; exact hdK, e0.1⟩, ⟨by rw [(gl2 n hn2).1]; omega, by rw [(gl2 n hn2).1, e1.2.1, hd]; omega, by rw [(gl2 n hn2).1, e0.2.1]; omega⟩, ?_⟩
      rw [(gl2 n hn2).2, List.all_eq_true]
      intro i hi
      have hi' : i < n := List.mem_range.mp hi
      obtain ⟨a, ha1, ha2, ha3⟩ := l6 i (by omega)
      have haK := Tx.K hT ha2 ha3
      have haN : a ≠ sN S := by
        rintro rfl
        omega
      rw [e1.2.2.2.1, ha1, Option.all_some, decide_eq_true_iff]
      have h5 := lp_all q hq
      rw [(ti_wN haN).1, haK]
      have : kr_nC = 13 := rfl
      omega
    rw [hcp, Option.bind_some]
    show (pR (wC (wN S 43 m m) d (sN S) n) 10 1 (some (lp q)) (some (sN S))).bind _ = _
    unfold pR
    rw [Option.bind_some, if_pos ⟨by show sK (wN S 43 m m) (lp q) = 10; rw [(ti_wN (by omega)).1]; exact hk, by
      show (sK (wN S 43 m m) (sN S) != 0) = true
      rw [e0.1]
      rfl⟩]
    rfl
  by_cases c0 : 0 < Int32.ofNat n
  · rw [if_pos c0]
    have hd0 : d ≠ 0 := by
      rintro rfl
      rw [hT.t8.2.2.2.2.2.1] at hd
      subst hd
      exact absurd c0 (by decide)
    obtain ⟨m, m1, m2, e⟩ := b20 hd0
    rw [e]
    exact ⟨_, _, _, rfl, key m m1 m2 _ (Or.inr rfl) (Or.inr rfl)⟩
  · rw [if_neg c0, Option.bind_some]
    have n0 : n = 0 := by
      have := Int32.not_lt.mp c0
      have := Int32.le_iff_toInt_le.mp this
      rw [(gl2 n hn2).1, show (0 : Int32).toInt = 0 from by decide] at this
      omega
    have hac : kr_ac S (some d) = some () := by
      unfold kr_ac
      rw [if_pos]
      rw [Option.all_some]
      by_cases hd0 : d = 0
      · subst hd0
        rw [hT.t8.2.1]
        rfl
      · have hdT : T d = 30 + q := by
          rcases l3 with l3 | l3
          · exact l3
          · exact absurd l3 hd0
        have hdK : sK S d = 43 := by rw [Tx.K hT hdT (by omega), (lp_all q hq).2.2.1]
        have : 4 ≤ d := by
          obtain ⟨t0, t1, t2, t3, t4, -⟩ := hT.t8
          refine Nat.not_lt.mp (fun z => ?_)
          match d, z with
          | 0, _ => omega
          | 1, _ => omega
          | 2, _ => omega
          | 3, _ => omega
        rw [hdK, decide_eq_true this, Bool.or_true]
        rfl
    have hac0 : kr_ac S (some 0) = some () := by
      unfold kr_ac
      rw [if_pos]
      rw [Option.all_some, hT.t8.2.1]
      rfl
    rw [hac, Option.bind_some, hac0, Option.bind_some]
    by_cases hd0 : d = 0
    · subst hd0
      subst n0
      rw [if_pos rfl, if_neg (by decide)]
      have e10 : nA S 43 (10 : Int32) = some (wN S 43 10 10) := by
        unfold nA
        rw [if_pos (by decide)]
        rfl
      rw [e10, Option.bind_some]
      unfold pR
      rw [Option.bind_some, if_pos ⟨by rw [(ti_wN (by omega)).1]; exact hk, by
        show (sK (wN S 43 10 10) (sN S) != 0) = true
        rw [(ti_wN0 S 43 10 10).1]
        rfl⟩]
      exact ⟨_, _, _, rfl, key 10 (by omega) (by omega) _ (Or.inl rfl) (Or.inl rfl)⟩
    · rw [if_neg (fun z => hd0 (Option.some.inj z))]
      obtain ⟨m, m1, m2, e⟩ := b20 hd0
      rw [e]
      exact ⟨_, _, _, rfl, key m m1 m2 _ (Or.inr rfl) (Or.inr rfl)⟩

theorem ho_add {T0 T : Nat → Nat} {w w' : List Nat} {S0 S : AS} {c s : Nat} {hi : Int} (q : Nat) {x v : Option Nat} (hR : Rl T0 w S0 c s T S) (hx : Tx T (20 + q) x) (hq : q < 7) (hv : Tx T (el q) v) (hc : rf (20 + q) 2 = some (0, hi)) (h2 : (sI S (lp q) 2).toInt < hi) (h3 : hi ≤ 200) (hw : ∀ z ∈ cr (30 + q) 0 :: cl (20 + q) 2 :: cr (20 + q) 1 :: cl (20 + q) 0 :: w, z ∈ w') :
    Ho (f_AL_add1 S x v) (fun z => ∃ T', Rl T0 w' S0 (c + 1) (s + 300) T' z.2 ∧ (∀ k, T k ≠ 0 → T' k = T k) ∧ sI z.2 (lp q) 2 = sI S (lp q) 2 + 1) := by
  rw [lx hR.1 hq hx]
  have hk := lK hR.1 hq
  have hp := (hR.1.t6 q hq).1
  have hlq := lp_all q hq
  have rS : Rl T0 (cl (20 + q) 0 :: w) S0 c s T (wI S (lp q) 0 (sI S (lp q) 0 + 1)) := RlwI hR (TIwI hR.1 hp (fun lo hi e => by rw [hlq.2.2.2.2.2.2.2.2.2.1] at e; cases e) (fun n lo hi e => by rw [hlq.2.2.2.2.2.2.2.2.1] at e; cases e) (by omega)) hp (by omega) (fun _ z => z) (by unfold phc; omega)
  unfold f_AL_add1
  rw [ti_gI hk, Option.bind_some, ti_pI hk, Option.bind_some]
  have e2 : sI (wI S (lp q) 0 (sI S (lp q) 0 + 1)) (lp q) 2 = sI S (lp q) 2 := ti_sI_ne (by omega)
  generalize wI S (lp q) 0 (sI S (lp q) 0 + 1) = S2 at rS e2
  have hT := rS.1
  have hk2 := lK hT hq
  obtain ⟨l1, d, l2, l3, l4, l5, l6⟩ := hT.t6 q hq
  rw [ti_gR hk2, Option.bind_some, ti_gI hk2, Option.bind_some, ti_rv hk2, Option.bind_some, l2]
  have hb := sizeIn hT hq hc
  rw [e2] at hb l4
  obtain ⟨n, hn⟩ : ∃ n : Nat, (sI S (lp q) 2).toInt = n := ⟨(sI S (lp q) 2).toInt.toNat, by have := hb.1; omega⟩
  have hnn := ofNat_of hn
  have hn2 : n < 201 := by omega
  rw [e2]
  rw [hn] at l4 h2
  have hxN : aN S2 (some d) = some (Int32.ofNat (sL S2 d)) := by
    unfold aN
    rw [Option.bind_some, if_pos (by
      rcases l3 with l3 | l3
      · exact Or.inl (by rw [Tx.K hT l3 (by omega), hlq.2.2.1]; decide)
      · exact Or.inr (by rw [l3]; exact hT.t8.2.1))]
  -- the last step, on any row with room
  have fin : ∀ (T1 : Nat → Nat) (S3 : AS) (d' : Nat) (c1 s1 : Nat) (w1 : List Nat), Rl T0 w1 S0 c1 s1 T1 S3 → c1 ≤ c + 1 → s1 ≤ s + 300 → (∀ z ∈ w1, z ∈ cr (20 + q) 1 :: cl (20 + q) 0 :: w) → (∀ k, T k ≠ 0 → T1 k = T k) → sI S3 (lp q) 2 = Int32.ofNat n → sR S3 (lp q) 1 = some d' → T1 d' = 30 + q → n < sL S3 d' → sK S3 d' = 43 →
      Ho ((f_AL_add2_B11 S3 (some (lp q)) v (some d') (Int32.ofNat n)).bind fun S6 => some ((1 : Int32), S6)) (fun z => ∃ T', Rl T0 w' S0 (c + 1) (s + 300) T' z.2 ∧ (∀ k, T k ≠ 0 → T' k = T k) ∧ sI z.2 (lp q) 2 = Int32.ofNat n + 1) := by
    intro T1 S3 d' c1 s1 w1 hR3 hc1 hs1 hw1 hu e3 er hd' hl' hK'
    have hv3 := hv.up hu
    obtain ⟨a, rfl, ha1, ha2⟩ := hv3
    have haK := Tx.K hR3.1 ha1 ha2
    have hk3 := lK hR3.1 hq
    have g2 := gl2 n (by omega)
    have hti := TIla (d := d') (n := Int32.ofNat n) (v := some a) (lo := 0) (hi := hi) hR3.1 hq er hd' e3 (by rw [g2.1]; omega) hc (by rw [g2.1]; omega) (by omega) ⟨a, rfl, ha1, ha2⟩ rfl
    refine ⟨(1, wI (wR S3 d' (Int32.ofNat n).toNatClampNeg (some a)) (lp q) 2 (Int32.ofNat n + 1)), ?_, T1, ?_, hu, ?_⟩
    · unfold f_AL_add2_B11
      unfold bR
      rw [Option.bind_some, Option.bind_some, if_pos ⟨hK', ⟨by rw [g2.1]; omega, by rw [g2.1]; omega⟩, by rw [haK]; exact hlq.2.2.2.2.2.2.1, by rw [haK]; exact hlq.2.2.2.2.2.2.2.1⟩, Option.bind_some, ti_pI (by exact hk3), Option.bind_some]
      rfl
    · have hwm : ∀ z, z ∈ w1 → z ∈ w' := fun z hz => hw z (List.mem_cons_of_mem _ (List.mem_cons_of_mem _ (hw1 z hz)))
      have q1 : T1 (lp q) = 20 + q := by rw [hu _ (by rw [hp]; omega)]; exact hp
      have hlim := hR3.2.2.2.1
      refine ⟨hti, hR3.2.1, hR3.2.2.1, ⟨Nat.le_trans hlim.1 (by omega), Nat.le_trans hlim.2.1 (by omega), by
        have e := Ph_wI (S := wR S3 d' (Int32.ofNat n).toNatClampNeg (some a)) (v := Int32.ofNat n + 1) (j := 2) (T := T1) (k := lp q) (τ := 20 + q) hR3.1.t9 q1 (by unfold phc; omega)
        have e2 : Ph (wR S3 d' (Int32.ofNat n).toNatClampNeg (some a)) = Ph S3 := Ph_eq rfl rfl rfl
        rw [e, e2]
        have := hlim.2.2.1
        omega, by
        have e := Gf_wI (S := wR S3 d' (Int32.ofNat n).toNatClampNeg (some a)) (v := Int32.ofNat n + 1) (j := 2) (T := T1) (k := lp q) (τ := 20 + q) hR3.1.t9 q1 (by unfold phc; omega)
        have e2 : Gf (wR S3 d' (Int32.ofNat n).toNatClampNeg (some a)) = Gf S3 := Gf_eq rfl rfl
        rw [e, e2]
        have := hlim.2.2.2
        omega⟩, ?_, ?_, fun k j p z => hR3.fJ k j p (fun y => z (hwm _ y)), ?_, hR3.2.2.2.2.2.2.2.2⟩
      · intro k j p z
        have : ¬ (k = lp q ∧ j = 2) := by
          rintro ⟨rfl, rfl⟩
          have := hR3.ty _ p
          rw [q1] at this
          rw [← this] at z
          exact z (hw _ (List.mem_cons_of_mem _ List.mem_cons_self))
        rw [ti_sI_ne this]
        exact hR3.fI k j p (fun y => z (hwm _ y))
      · intro k j p z
        have : ¬ (k = d' ∧ j = (Int32.ofNat n).toNatClampNeg) := by
          rintro ⟨rfl, rfl⟩
          have := hR3.ty _ p
          rw [hd'] at this
          rw [← this] at z
          refine z (hw _ ?_)
          unfold cr
          rw [cl_a (τ := 30 + q) (by rw [hlq.2.2.1]; decide) (Int32.ofNat n).toNatClampNeg]
          exact List.mem_cons_self
        show sR (wR S3 d' (Int32.ofNat n).toNatClampNeg (some a)) k j = _
        rw [ti_sR_ne this]
        exact hR3.fR k j p (fun y => z (hwm _ y))
      · have ht := hR3.2.2.2.2.2.2.2.1
        by_cases c5 : 24 = lp q
        · rw [c5] at ht ⊢
          rw [ti_sI_eq, toInt_add1 (a := 0) (b := 300) ⟨by rw [g2.1]; omega, by rw [g2.1]; omega⟩ (by omega) (by omega)]
          rw [e3] at ht
          omega
        · rw [ti_sI_ne (fun z => c5 z.1)]
          exact ht
    · exact ti_sI_eq _ _ _ _
  unfold f_AL_add2
  rw [hxN, Option.bind_some, hnn]
  by_cases cN : Int32.ofNat n = Int32.ofNat (sL S2 d)
  · have hd : sL S2 d = n := by
      have := congrArg Int32.toInt cN
      rw [(gl2 n (by omega)).1, Int32.toInt_ofNat_of_lt (by omega)] at this
      omega
    obtain ⟨T', S', d', g1, g2, g3, g4, g5, g6, g7, g8, g9⟩ := ho_grow (w' := cr (20 + q) 1 :: cl (20 + q) 0 :: w) q rS hq l2 (e2.trans hnn) hn2 hd (fun _ z => z)
    rw [if_pos cN, ti_rv hk2, Option.bind_some, g1]
    exact fin T' S' d' (c + 1) (s + 300) _ g2 (Nat.le_refl _) (Nat.le_refl _) (fun _ z => z) g3 (by rw [g4]; exact e2.trans hnn) g5 g6 g7 g8
  · rw [if_neg cN]
    have hlt : n < sL S2 d := by
      rcases Nat.lt_or_ge n (sL S2 d) with q | q
      · exact q
      · exact absurd (by rw [show sL S2 d = n by omega]) cN
    have hdT : T d = 30 + q := by
      rcases l3 with l3 | l3
      · exact l3
      · rw [l3, hT.t8.2.2.2.2.2.1] at hlt
        omega
    exact fin T S2 d c s _ rS (by omega) (by omega) (fun z y => List.mem_cons_of_mem _ y) (fun _ _ => rfl) (e2.trans hnn) l2 hdT hlt (by rw [Tx.K hT hdT (by omega), hlq.2.2.1])
