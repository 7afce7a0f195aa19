/-! ===== the copy of what was shown; small functions ===== -/
theorem sh_loop {T0 T : Nat → Nat} {w : List Nat} {S0 : AS} {c s : Nat} {k : Nat} {y : Option Nat} {PP : AS → Prop} (hx : T k = 47) (hy : Tx T 47 y) (hw : cl 48 0 ∈ w) (hP : ∀ S a i v, T a = 48 → PP S → PP (wI S a i v)) : ∀ (m : Nat) (i : Nat) (f : Nat), i + m = 3 → m < f → ∀ S, Rl T0 w S0 c s T S → PP S → Ho (f_Shown_init2_L25 f S (some k) y (Int32.ofNat i)) (fun S' => Rl T0 w S0 c s T S' ∧ PP S') := by
  intro m
  induction m with
  | zero =>
    intro i f h1 h2 S hR hp
    obtain ⟨f, rfl⟩ : ∃ g, f = g + 1 := ⟨f - 1, by omega⟩
    have hi : i = 3 := by omega
    subst hi
    show Ho (f_Shown_init2_C25 _ _ _ _ _) _
    unfold f_Shown_init2_C25
    exact r_ifT (by decide) (r_some ⟨hR, hp⟩)
  | succ m ih =>
    intro i f h1 h2 S hR hp
    obtain ⟨f, rfl⟩ : ∃ g, f = g + 1 := ⟨f - 1, by omega⟩
    have hi : i < 3 := by omega
    have e1 : (Int32.ofNat i).toInt = i ∧ (Int32.ofNat i).toNatClampNeg = i := gl2 i (by omega)
    have hin : In 0 2 (Int32.ofNat i) := ⟨by rw [e1.1]; omega, by rw [e1.1]; omega⟩
    have hT := hR.1
    have hkk : sK S k = 20 := Tx.K hT hx (by decide)
    obtain ⟨a, ha1, ha2, ha3⟩ := hT.t2 k 0 48 (by rw [hx]; rfl)
    have hak := (hT.t1 a (by rw [ha2]; exact ha3))
    show Ho (f_Shown_init2_C25 _ _ _ _ _) _
    unfold f_Shown_init2_C25
    refine r_ifF (fun q => by
      have := Int32.le_iff_toInt_le.mp q
      rw [e1.1, show (3 : Int32).toInt = 3 from by decide] at this
      omega) ?_
    rw [ti_gR hkk, Option.bind_some, ha1]
    refine r_gR hT hy rfl rfl (fun v2 g2 => ?_)
    refine r_aI hT g2 rfl rfl hin (by decide) (fun v3 g3 => ?_)
    rw [bI_s (n := 3) (Int32.ofNat i) i v3 (hak.2.1.trans (by rw [ha2]; rfl)) (hak.2.2.2 3 (by rw [ha2]; rfl)) e1 hi, Option.bind_some]
    refine r_val ?_
    have hti := TIwI (j := i) (v := v3) hT ha2 (fun _ _ q => by cases q) (fun _ _ _ q => by cases q) (by omega)
    have hr2 : Rl T0 w S0 c s T (wI S a i v3) := RlwI hR hti ha2 (by omega) (fun x q => by
      rcases List.mem_cons.mp q with q | q
      · rw [q, cl_a (by decide)]; exact hw
      · exact q) (by unfold phc; omega)
    have e2 : Int32.ofNat i + (1 : Int32) = Int32.ofNat (i + 1) := (Int32.ofNat_add i 1).symm
    rw [e2]
    exact ih (i + 1) f (by omega) (by omega) _ hr2 (hP S a i v3 ha2 hp)
theorem ho_Shown2 {T0 T : Nat → Nat} {w w' : List Nat} {S0 S : AS} {c s k : Nat} {x : Option Nat} (hR : Rl T0 w S0 c s T S) (hk : RawP S0 T S 20 k) (hx : Tx T 47 x) (hw : ∀ z ∈ cl 48 0 :: w, z ∈ w') : Ho (f_Shown_init2 S (some k) x) (fun S' => ∃ T', Rl T0 w' S0 (c + 1) (s + 3) T' S' ∧ Mk S0 T S 47 k T' S') := by
  refine ho_Shown2s hR hk (fun T1 S1 g1 m1 => ?_)
  have g2 := Rlweak g1 (fun z q => hw z (List.mem_cons_of_mem _ q)) (Nat.le_refl _) (Nat.le_refl _)
  have h := sh_loop (PP := fun S' => ∀ κ a, a ≠ k → RawP S0 T S κ a → RawP S0 T1 S' κ a) m1.1 (hx.up m1.2.1) (hw _ List.mem_cons_self) (fun S' a i v ha hp κ b hb hr => by
    obtain ⟨r1, r2, r3, r4, r5, r6, r7⟩ := hp κ b hb hr
    exact ⟨r1, r2, r3, r4, r5, fun j => by rw [ti_sI_ne (fun q => by rw [← q.1, r1] at ha; cases ha)]; exact r6 j, r7⟩) 3 0 kr_FU rfl (by decide) S1 g2 m1.2.2
  obtain ⟨S', e, g3, p3⟩ := h
  exact ⟨S', e, T1, g3, m1.1, m1.2.1, p3⟩
theorem r_Kw {β : Type} {S : AS} {a lo hi : Int32} {F : Int32 → AS → Option β} {Q : β → Prop} (h1 : lo ≤ a → a ≤ hi → Ho (F 1 S) Q) (h0 : Ho (F 0 S) Q) : Ho (kr_b2 (f_K_isWithin S a lo hi) F) Q := by
  unfold f_K_isWithin
  by_cases c1 : a < lo
  · rw [if_pos c1]; exact h0
  · by_cases c2 : hi < a
    · rw [if_neg c1, if_pos c2]; exact h0
    · rw [if_neg c1, if_neg c2]; exact h1 (Int32.not_lt.mp c1) (Int32.not_lt.mp c2)
theorem In_of {a lo hi : Int32} (h1 : lo ≤ a) (h2 : a ≤ hi) : In lo.toInt hi.toInt a := ⟨Int32.le_iff_toInt_le.mp h1, Int32.le_iff_toInt_le.mp h2⟩
theorem r_Kf {β : Type} {S : AS} {a : Int32} {F : Int32 → AS → Option β} {Q : β → Prop} (h1 : In 0 2 a → Ho (F 1 S) Q) (h0 : Ho (F 0 S) Q) : Ho (kr_b2 (f_K_isFactor S a) F) Q := by
  obtain ⟨b, hb, hq⟩ : Ho (f_K_isFactor S a) (fun q => q.2 = S ∧ ((q.1 = 1 ∧ In 0 2 a) ∨ q.1 = 0)) := by
    unfold f_K_isFactor
    exact r_Kw (fun p q => ⟨(1, S), rfl, rfl, Or.inl ⟨rfl, In_w (In_of p q) (by decide) (by decide)⟩⟩) ⟨(0, S), rfl, rfl, Or.inr rfl⟩
  rw [hb]
  obtain ⟨v, S'⟩ := b
  obtain ⟨e1, e2⟩ := hq
  cases e1
  rcases e2 with ⟨e2, e3⟩ | e2
  · cases e2
    exact h1 e3
  · cases e2
    exact h0
theorem r_rI {β : Type} {S : AS} {a n : Int32} {F : Unit → AS → Option ((β ⊕ String) × AS)} {Q : (β ⊕ String) × AS → Prop} (h : 0 ≤ a.toInt → a < n → Ho (F () S) Q) (he : Q (.inr "java/lang/IndexOutOfBoundsException", wX S)) : Ho (kr_bx (f_K_requireIndex S a n) F) Q := by
  unfold f_K_requireIndex f_K_requireIndex_B9
  by_cases c1 : a < 0
  · rw [if_pos c1]; exact ⟨_, rfl, he⟩
  · by_cases c2 : a < n
    · rw [if_neg c1, if_pos c2]
      exact h (by have := Int32.le_iff_toInt_le.mp (Int32.not_lt.mp c1); rw [show (0 : Int32).toInt = 0 from by decide] at this; exact this) c2
    · rw [if_neg c1, if_neg c2]; exact ⟨_, rfl, he⟩
theorem r_rA {β : Type} {S : AS} {a : Int32} {F : Unit → AS → Option ((β ⊕ String) × AS)} {Q : (β ⊕ String) × AS → Prop} (h : ¬ a = 0 → Ho (F () S) Q) (he : Q (.inr "java/lang/IllegalArgumentException", wX S)) : Ho (kr_bx (f_K_requireArgument S a) F) Q := by
  unfold f_K_requireArgument
  by_cases c1 : a = 0
  · rw [if_pos c1]; exact ⟨_, rfl, he⟩
  · rw [if_neg c1]; exact h c1
theorem r_rS {β : Type} {S : AS} {a : Int32} {F : Unit → AS → Option ((β ⊕ String) × AS)} {Q : (β ⊕ String) × AS → Prop} (h : ¬ a = 0 → Ho (F () S) Q) (he : Q (.inr "java/lang/IllegalStateException", wX S)) : Ho (kr_bx (f_K_requireState S a) F) Q := by
  unfold f_K_requireState
  by_cases c1 : a = 0
  · rw [if_pos c1]; exact ⟨_, rfl, he⟩
  · rw [if_neg c1]; exact h c1
theorem t_Shown_weightOf {T : Nat → Nat} {S : AS} (hT : TI T S) (a : Int32) : Ho (f_Shown_weightOf S a) (fun q => q.2 = S) := by
  obtain ⟨b0, b1, b2, b3, b4, b5, b6⟩ := hT.t8
  unfold f_Shown_weightOf
  refine r_Kf (fun g => r_ifF (by decide) ?_) (r_ifT rfl (r_some rfl))
  have : aI S 2 (some 1) a = some (sI S 1 a.toNatClampNeg) := by
    unfold aI
    rw [Option.bind_some, if_pos ⟨b2, g.1, by rw [b6]; have := g.2; omega⟩]
  rw [this]
  exact r_some rfl
/-- sizes -/
theorem sz_lt {i v z : Int32} (c : ¬ v ≤ i) (e : v = z) : i.toInt < z.toInt := by
  rw [← e]
  exact Int.not_le.mp (fun q => c (Int32.le_iff_toInt_le.mpr q))
theorem sz_lt2 {i v z : Int32} (c : i < v) (e : v = z) : i.toInt < z.toInt := by
  rw [← e]
  exact Int32.lt_iff_toInt_lt.mp c
theorem sz0 {T0 T : Nat → Nat} {w : List Nat} {S0 S : AS} {c s : Nat} {v k : Int32} (q : Nat) (hR : Rl T0 w S0 c s T S) (hq : q < 7) (hw : ¬ cl (20 + q) 2 ∈ w) (e : v = sI S (lp q) 2) (cc : ¬ k ≤ v) : (sI S0 (lp q) 2).toInt < k.toInt := by
  rw [← Rlsize hR hq hw, ← e]
  exact Int.not_le.mp (fun q => cc (Int32.le_iff_toInt_le.mpr q))
theorem sz1 {T0 T : Nat → Nat} {w : List Nat} {S0 S : AS} {c s : Nat} {k : Int} (q : Nat) (hR : Rl T0 w S0 c s T S) (hq : q < 7) (hw : ¬ cl (20 + q) 2 ∈ w) (h : (sI S0 (lp q) 2).toInt < k) : (sI S (lp q) 2).toInt < k := by
  rw [Rlsize hR hq hw]
  exact h
theorem sz2 {T0 T : Nat → Nat} {w : List Nat} {S0 S : AS} {c s : Nat} (q : Nat) (hR : Rl T0 w S0 c s T S) (hq : q < 7) (hw : ¬ cl (20 + q) 2 ∈ w) (cc : ¬ sI S (lp q) 2 = 0) : ¬ sI S0 (lp q) 2 = 0 := by
  rw [← Rlsize hR hq hw]
  exact cc
/-- the last of a list that isn't empty -/
theorem sz_last {T0 T : Nat → Nat} {w : List Nat} {S0 S : AS} {c s : Nat} {v : Int32} {hi : Int} (q : Nat) (hR : Rl T0 w S0 c s T S) (hq : q < 7) (hw : ¬ cl (20 + q) 2 ∈ w) (hc : rf (20 + q) 2 = some (0, hi)) (h3 : hi ≤ 1000) (h : ¬ sI S0 (lp q) 2 = 0) (e : v = sI S (lp q) 2) : 0 ≤ (v - 1).toInt ∧ (v - 1).toInt < (sI S (lp q) 2).toInt := by
  have hb := sizeIn hR.1 hq hc
  have h1 : ¬ (sI S (lp q) 2).toInt = 0 := fun z => h (by
    rw [← Rlsize hR hq hw]
    exact Int32.toInt_inj.mp (by rw [z]; decide))
  rw [e]
  have := (In_sub (y := (1 : Int32)) (c := 1) (d := 1) hb (by decide) (by decide) (by omega))
  have e2 : (sI S (lp q) 2 - 1).toInt = (sI S (lp q) 2).toInt - 1 := by
    rw [Int32.toInt_sub]
    exact bm (by rw [show (1 : Int32).toInt = 1 from by decide]; have := hb.1; omega) (by rw [show (1 : Int32).toInt = 1 from by decide]; have := hb.2; omega)
  have := hb.1
  omega
theorem r_gIe {β : Type} {T : Nat → Nat} {S : AS} {τ κ j : Nat} {x : Option Nat} {F : Int32 → Option β} {Q : β → Prop} (hT : TI T S) (hx : Tx T τ x) (hk : kd τ = κ) (h : ∀ v, (∀ lo hi, rf τ j = some (lo, hi) → In lo hi v) → (∀ k, x = some k → v = sI S k j) → Ho (F v) Q) : Ho ((gI S κ j x).bind F) Q := by
  obtain ⟨k, rfl, h1, h2⟩ := hx
  unfold gI
  rw [Option.bind_some, if_pos ((Tx.K hT h1 h2).trans hk)]
  exact h _ (fun lo hi e => hT.t4 k j lo hi (by rw [h1]; exact e)) (fun k' e => by cases e; rfl)
theorem rd_p {T : Nat → Nat} {S : AS} {τ j : Nat} {x : Option Nat} {v w : Int32} (hx : Tx T τ x) (h1 : ∀ k, x = some k → v = sI S k j) (h2 : ∀ k, x = some k → w = sI S k j) : w = v := by
  obtain ⟨k, e, -⟩ := hx
  rw [h1 k e, h2 k e]
theorem rd_w {T0 T1 T2 : Nat → Nat} {w1 w2 : List Nat} {S0 S1 S2 : AS} {c1 s1 c2 s2 τ j : Nat} {x : Option Nat} {v w : Int32} (hx : Tx T0 τ x) (g1 : Rl T0 w1 S0 c1 s1 T1 S1) (g2 : Rl T0 w2 S0 c2 s2 T2 S2) (n1 : ¬ cl τ j ∈ w1) (n2 : ¬ cl τ j ∈ w2) (h1 : ∀ k, x = some k → v = sI S1 k j) (h2 : ∀ k, x = some k → w = sI S2 k j) : w = v := by
  obtain ⟨k, e, hk, h0⟩ := hx
  rw [h1 k e, h2 k e, g1.fI k j (by rw [hk]; exact h0) (by rw [hk]; exact n1), g2.fI k j (by rw [hk]; exact h0) (by rw [hk]; exact n2)]
theorem r_Ft {β : Type} {T : Nat → Nat} {S : AS} {x : Option Nat} {a : Int32} {F : Int32 → AS → Option β} {Q : β → Prop} (hT : TI T S) (hx : Tx T 40 x) (h1 : In 0 11 a → Ho (F 1 S) Q) (h0 : Ho (F 0 S) Q) : Ho (kr_b2 (f_Flow_isThere S x a) F) Q := by
  obtain ⟨b, hb, hq⟩ : Ho (f_Flow_isThere S x a) (fun q => q.2 = S ∧ ((q.1 = 1 ∧ In 0 11 a) ∨ q.1 = 0)) := by
    unfold f_Flow_isThere
    refine r_if (fun c => r_some ⟨rfl, Or.inr rfl⟩) (fun c => ?_)
    refine r_gI hT hx rfl (fun v hv => ?_)
    refine r_if (fun c1 => r_some ⟨rfl, Or.inr rfl⟩) (fun c1 => ?_)
    refine r_if (fun c2 => r_some ⟨rfl, Or.inr rfl⟩) (fun c2 => r_some ⟨rfl, Or.inl ⟨rfl, ?_⟩⟩)
    have a1 := In_le2 (Int32.not_lt.mp c) (by decide : In 0 0 (0 : Int32)) (In_top a)
    exact In_w (In_lt1 (Int32.not_le.mp c2) a1 (by decide : In 12 12 (12 : Int32))) (by decide) (by decide)
  rw [hb]
  obtain ⟨v, S'⟩ := b
  obtain ⟨e1, e2⟩ := hq
  cases e1
  rcases e2 with ⟨e2, e3⟩ | e2
  · cases e2
    exact h1 e3
  · cases e2
    exact h0
theorem hO_and {α : Type} {S : AS} {x : Option (α × AS)} (h : Ho x (fun q => q.2 = S)) : Ho x (fun q => q.2 = S ∧ True) := by
  obtain ⟨b, h1, h2⟩ := h
  exact ⟨b, h1, h2, trivial⟩
theorem r_row51 {β : Type} {T0 T : Nat → Nat} {w : List Nat} {S0 S : AS} {c s : Nat} {F : AS → Option β} {Q : β → Prop} (hR : Rl T0 w S0 c s T S) (h : ∀ T' S', Rl T0 w S0 (c + 1) (s + 12) T' S' → T' (sN S) = 51 → (∀ a, T a ≠ 0 → T' a = T a) → Ho (F S') Q) : Ho ((nA S 40 (12 : Int32)).bind F) Q := by
  obtain ⟨g1, g2, g3, g4⟩ := mk_row (τ := 51) (n := 12) hR rfl rfl (fun _ => rfl) (fun _ => rfl) (fun _ => rfl) rfl rfl (by decide)
  rw [nA_s (12 : Int32) 12 tv12 (by decide)]
  exact h _ _ g1 g2 g3
theorem or01 : ∀ a, a < 2 → ∀ b, b < 2 → In 0 1 (Int32.ofNat a ||| Int32.ofNat b) := by decide +kernel
theorem or7 : ∀ a, a < 8 → ∀ b, b < 8 → In 0 7 (Int32.ofNat a ||| Int32.ofNat b) := by decide +kernel
theorem or15 : ∀ a, a < 16 → ∀ b, b < 16 → In 0 15 (Int32.ofNat a ||| Int32.ofNat b) := by decide +kernel
theorem ofNat_In {v : Int32} {n : Nat} (h : In 0 n v) : ∃ a, a < n + 1 ∧ v = Int32.ofNat a := by
  obtain ⟨h1, h2⟩ := h
  exact ⟨v.toInt.toNat, by omega, ofNat_of (by omega)⟩
theorem In_or1 {x y : Int32} (h : In 0 1 x) (g : In 0 1 y) : In 0 1 (x ||| y) := by
  obtain ⟨a, ha, rfl⟩ := ofNat_In (n := 1) h
  obtain ⟨b, hb, rfl⟩ := ofNat_In (n := 1) g
  exact or01 a ha b hb
theorem In_or7 {x y : Int32} (h : In 0 7 x) (g : In 0 7 y) : In 0 7 (x ||| y) := by
  obtain ⟨a, ha, rfl⟩ := ofNat_In (n := 7) h
  obtain ⟨b, hb, rfl⟩ := ofNat_In (n := 7) g
  exact or7 a ha b hb
theorem In_or15 {x y : Int32} (h : In 0 15 x) (g : In 0 15 y) : In 0 15 (x ||| y) := by
  obtain ⟨a, ha, rfl⟩ := ofNat_In (n := 15) h
  obtain ⟨b, hb, rfl⟩ := ofNat_In (n := 15) g
  exact or15 a ha b hb
theorem t_findService_ok {T : Nat → Nat} {S : AS} {x : Option Nat} {i : Int32} (hT : TI T S) (hx : Tx T 1 x) (hi : In 0 3 i) : Ho (f_K_findService S x i) (fun q => q.2 = S ∧ ∃ v, q.1 = .inl v ∧ Tx T 17 v) := by
  unfold f_K_findService
  refine r_ifF (nneg hi.1) ?_
  refine r_gR hT hx rfl rfl (fun v1 h1 => ?_)
  refine r_aN hT h1 (by decide) rfl (by decide) (fun v2 h2 => ?_)
  refine r_ifF (fun q => by
    have := Int32.le_iff_toInt_le.mp q
    have a1 := h2.1
    have a2 := hi.2
    omega) ?_
  refine r_gR hT hx rfl rfl (fun v3 h3 => ?_)
  refine r_aR (τ' := 17) hT h3 rfl rfl hi (by decide) (by decide) (fun v4 h4 => ?_)
  unfold f_K_findService_B23
  exact r_ifF (Tx.ne h4) (r_some ⟨rfl, _, rfl, h4⟩)
theorem r_fS {β : Type} {T : Nat → Nat} {S : AS} {x : Option Nat} {i : Int32} {F : Option Nat → AS → Option ((β ⊕ String) × AS)} {Q : (β ⊕ String) × AS → Prop} (hT : TI T S) (hx : Tx T 1 x) (hi : In 0 3 i) (h : ∀ v, Tx T 17 v → Ho (F v S) Q) : Ho (kr_bx (f_K_findService S x i) F) Q := by
  obtain ⟨⟨v, S'⟩, e, h1, v', h2, h3⟩ := t_findService_ok hT hx hi
  cases h1
  cases h2
  rw [e]
  exact h v' h3
