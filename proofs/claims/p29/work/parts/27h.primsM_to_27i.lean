section
/-! ===== the reference: what it asks ===== -/
theorem r_gIs {β : Type} {T : Nat → Nat} {S : AS} {τ κ j p : Nat} {x : Option Nat} {F : Int32 → Option β} {Q : β → Prop} (hT : TI T S) (hx : Tx T τ x) (hk : kd τ = κ) (hs : sg τ = some p) (h : ∀ v, (∀ lo hi, rf τ j = some (lo, hi) → In lo hi v) → v = sI S p j → Ho (F v) Q) : Ho ((gI S κ j x).bind F) Q := by
  obtain ⟨k, rfl, h1, h2⟩ := hx
  have hp := hT.t7 k p (by rw [h1]; exact hs)
  subst hp
  unfold gI
  rw [Option.bind_some, if_pos ((Tx.K hT h1 h2).trans hk)]
  exact h _ (fun lo hi e => hT.t4 k j lo hi (by rw [h1]; exact e)) rfl
theorem r_aIs {β : Type} {T : Nat → Nat} {S : AS} {τ κ n p : Nat} {m : Int} {x : Option Nat} {i : Int32} {F : Int32 → Option β} {Q : β → Prop} (hT : TI T S) (hx : Tx T τ x) (hk : kd τ = κ) (hs : sg τ = some p) (hl : ln τ = some n) (hi : In 0 m i) (hm : m < n) (h : ∀ v, (∀ lo hi, ra τ = some (n, lo, hi) → In lo hi v) → v = sI S p i.toNatClampNeg → Ho (F v) Q) : Ho ((aI S κ x i).bind F) Q := by
  obtain ⟨k, rfl, h1, h2⟩ := hx
  have hp := hT.t7 k p (by rw [h1]; exact hs)
  subst hp
  have e := (hT.t1 k (by rw [h1]; exact h2)).2.2.2 n (by rw [h1]; exact hl)
  unfold aI
  rw [Option.bind_some, if_pos ⟨(Tx.K hT h1 h2).trans hk, hi.1, by rw [e]; exact Int.lt_of_le_of_lt hi.2 hm⟩]
  exact h _ (fun lo hi' q => hT.t5 k _ n lo hi' (by rw [h1]; exact q) (nat_of hi hm)) rfl
theorem In_cell {lo hi : Int} {v z : Int32} (e : v = z) (h : In lo hi v) : In lo hi z := by rw [← e]; exact h
theorem In_read {lo hi : Int} {v z : Int32} (e : v = z) (h : In lo hi z) : In lo hi v := by rw [e]; exact h
theorem sgp {T : Nat → Nat} {S : AS} {τ p : Nat} {x : Option Nat} (hT : TI T S) (hx : Tx T τ x) (hs : sg τ = some p) : T p = τ ∧ τ ≠ 0 ∧ x = some p := by
  obtain ⟨k, rfl, h1, h2⟩ := hx
  have hp := hT.t7 k p (by rw [h1]; exact hs)
  subst hp
  exact ⟨h1, h2, rfl⟩
theorem cell0 {T : Nat → Nat} {w : List Nat} {S0 S : AS} {c s τ p j : Nat} {x : Option Nat} {v : Int32} (hR : Rl T w S0 c s T S) (hx : Tx T τ x) (hs : sg τ = some p) (hw : ¬ cl τ j ∈ w) (e : v = sI S p j) : v = sI S0 p j := by
  obtain ⟨h1, h2, -⟩ := sgp hR.1 hx hs
  rw [e]
  exact hR.fI p j (by rw [h1]; exact h2) (by rw [h1]; exact hw)
theorem cell0a {T : Nat → Nat} {w : List Nat} {S0 S : AS} {c s τ p j : Nat} {x : Option Nat} {v : Int32} (hR : Rl T w S0 c s T S) (hx : Tx T τ x) (hs : sg τ = some p) (hk : 40 ≤ kd τ) (hw : ¬ cl τ 0 ∈ w) (e : v = sI S p j) : v = sI S0 p j := cell0 hR hx hs (by rw [cl_a hk]; exact hw) e
/-- the rows of steps -/
def SR (S : AS) : Prop := ∀ i, i < 108 → ((sI S 67 i = 0 ∨ sI S 67 i = 3) → In 0 2 (sI S 68 i)) ∧ ((sI S 67 i).toInt < 5 → In (-1) 11 (sI S 70 i) ∧ In (-1) 11 (sI S 71 i))
theorem SR_a0 {S : AS} {i : Int32} {v : Int32} (h : SR S) (hi : In 0 107 i) (hk : In 0 0 (sI S 67 i.toNatClampNeg)) (e : v = sI S 68 i.toNatClampNeg) : In 0 2 v := by
  rw [e]
  refine (h _ (nat_of (n := 108) hi (by decide))).1 (Or.inl ?_)
  obtain ⟨h1, h2⟩ := hk
  exact Int32.toInt_inj.mp (by rw [show (0 : Int32).toInt = 0 from by decide]; omega)
theorem SR_a3 {S : AS} {i : Int32} {v : Int32} (h : SR S) (hi : In 0 107 i) (hk : In 3 3 (sI S 67 i.toNatClampNeg)) (e : v = sI S 68 i.toNatClampNeg) : In 0 2 v := by
  rw [e]
  refine (h _ (nat_of (n := 108) hi (by decide))).1 (Or.inr ?_)
  obtain ⟨h1, h2⟩ := hk
  exact Int32.toInt_inj.mp (by rw [show (3 : Int32).toInt = 3 from by decide]; omega)
theorem SR_y {S : AS} {i : Int32} {v : Int32} {lo hi : Int} (h : SR S) (hi' : In 0 107 i) (hk : In lo hi (sI S 67 i.toNatClampNeg)) (h5 : hi < 5) (e : v = sI S 70 i.toNatClampNeg) : In (-1) 11 v := by
  rw [e]
  exact ((h _ (nat_of (n := 108) hi' (by decide))).2 (by have := hk.2; omega)).1
theorem SR_n {S : AS} {i : Int32} {v : Int32} {lo hi : Int} (h : SR S) (hi' : In 0 107 i) (hk : In lo hi (sI S 67 i.toNatClampNeg)) (h5 : hi < 5) (e : v = sI S 71 i.toNatClampNeg) : In (-1) 11 v := by
  rw [e]
  exact ((h _ (nat_of (n := 108) hi' (by decide))).2 (by have := hk.2; omega)).2
theorem sg_p {T : Nat → Nat} {S : AS} {τ p j : Nat} {x : Option Nat} (hT : TI T S) (hx : Tx T 100 x) (hf : ft 100 j = some τ) (hs : sg τ = some p) : T p = τ ∧ τ ≠ 0 := by
  obtain ⟨h1, h2, -⟩ := sgp hT hx (p := 57) rfl
  obtain ⟨k, hk, h3, h4⟩ := hT.t2 57 j τ (by rw [h1]; exact hf)
  have := hT.t7 k p (by rw [h3]; exact hs)
  subst this
  exact ⟨h3, h4⟩
theorem SR_fr {T : Nat → Nat} {w : List Nat} {S0 S : AS} {c s : Nat} {x : Option Nat} (h : SR S0) (hR : Rl T w S0 c s T S) (hx : Tx T 100 x) (h1 : ¬ 11100 ∈ w) (h2 : ¬ 11200 ∈ w) (h4 : ¬ 11400 ∈ w) (h5 : ¬ 11500 ∈ w) : SR S := by
  have f : ∀ (τ p j : Nat), ft 100 j = some τ → sg τ = some p → 40 ≤ kd τ → ¬ cl τ 0 ∈ w → ∀ i, sI S p i = sI S0 p i := by
    intro τ p j a b c d i
    obtain ⟨e1, e2⟩ := sg_p hR.1 hx a b
    exact hR.fI p i (by rw [e1]; exact e2) (by rw [e1, cl_a c]; exact d)
  intro i hi
  rw [f 111 67 11 rfl rfl (by decide) h1 i, f 112 68 12 rfl rfl (by decide) h2 i, f 114 70 14 rfl rfl (by decide) h4 i, f 115 71 15 rfl rfl (by decide) h5 i]
  exact h i hi
theorem phS {T0 T : Nat → Nat} {w : List Nat} {S0 S : AS} {c s : Nat} {b d : Int} (h : Ph S0 ≤ b) (hR : Rl T0 w S0 c s T S) (hd : b + c ≤ d) : Ph S ≤ d := by
  have := hR.2.2.2.1.2.2.1
  omega
theorem gfS {T0 T : Nat → Nat} {w : List Nat} {S0 S : AS} {c : Nat} (h : Gf S0 ≤ 0) (hR : Rl T0 w S0 c 0 T S) : Gf S ≤ 0 := by
  have := hR.2.2.2.1.2.2.2
  omega
/-! the requests -/
theorem r_Mi {β : Type} {S : AS} {a lo hi : Int32} {F : Int32 → AS → Option β} {Q : β → Prop} (h1 : lo ≤ a → a ≤ hi → Ho (F 1 S) Q) (h0 : Ho (F 0 S) Q) : Ho (kr_b2 (f_M_isIn S a lo hi) F) Q := by
  unfold f_M_isIn
  by_cases c1 : a < lo
  · rw [if_pos c1]; exact h0
  · by_cases c2 : hi < a
    · rw [if_neg c1, if_pos c2]; exact h0
    · rw [if_neg c1, if_neg c2]; exact h1 (Int32.not_lt.mp c1) (Int32.not_lt.mp c2)
theorem r_spl {β : Type} {S : AS} {P : Prop} {x : Option (Int32 × AS)} {F : Int32 → AS → Option β} {Q : β → Prop} (hx : Ho x (fun q => q.2 = S ∧ ((q.1 = 1 ∧ P) ∨ q.1 = 0))) (h1 : P → Ho (F 1 S) Q) (h0 : Ho (F 0 S) Q) : Ho (kr_b2 x F) Q := by
  obtain ⟨⟨v, S'⟩, rfl, e1, e2⟩ := hx
  cases e1
  rcases e2 with ⟨e2, e3⟩ | e2
  · cases e2
    exact h1 e3
  · cases e2
    exact h0
theorem u_range (S : AS) (a lo hi : Int32) : Ho (kr_b2 (f_M_isIn S a lo hi) fun v2 S1 => (kr_z v2).bind fun u3 => some (v2, S1)) (fun q => q.2 = S ∧ ((q.1 = 1 ∧ In lo.toInt hi.toInt a) ∨ q.1 = 0)) :=
  r_Mi (fun p q => ⟨(1, S), rfl, rfl, Or.inl ⟨rfl, In_of p q⟩⟩) ⟨(0, S), rfl, rfl, Or.inr rfl⟩
theorem u_isSix (S : AS) (a : Int32) : Ho (f_M_isSix S a) (fun q => q.2 = S ∧ ((q.1 = 1 ∧ In 0 5 a) ∨ q.1 = 0)) := u_range S a 0 5
theorem u_isFactor (S : AS) (a : Int32) : Ho (f_M_isFactor S a) (fun q => q.2 = S ∧ ((q.1 = 1 ∧ In 0 2 a) ∨ q.1 = 0)) := u_range S a 0 2
theorem u_isService (S : AS) (a : Int32) : Ho (f_M_isService S a) (fun q => q.2 = S ∧ ((q.1 = 1 ∧ In 0 3 a) ∨ q.1 = 0)) := u_range S a 0 3
theorem u_isNext (S : AS) (a : Int32) : Ho (f_M_isNext S a) (fun q => q.2 = S ∧ ((q.1 = 1 ∧ In (-1) 11 a) ∨ q.1 = 0)) := u_range S a (-1) 11
theorem u_cnt {T : Nat → Nat} {S : AS} {x : Option Nat} {a : Int32} {j : Nat} {b : Int} (hT : TI T S) (hx : Tx T 100 x) (hr : rf 100 j = some (0, b)) (hb : b ≤ 100000) : Ho ((gI S 23 j x).bind fun v1 => kr_b2 (f_M_isIn S a (0 : Int32) (v1 - (1 : Int32))) fun v3 S2 => (kr_z v3).bind fun u4 => some (v3, S2)) (fun q => q.2 = S ∧ ((q.1 = 1 ∧ In 0 (b - 1) a ∧ a.toInt < (sI S 57 j).toInt) ∨ q.1 = 0)) := by
  refine r_gIs hT hx rfl (p := 57) rfl (fun v hv e => ?_)
  have h1 := hv _ _ hr
  refine r_Mi (fun p q => ⟨(1, S), rfl, rfl, Or.inl ⟨rfl, ?_⟩⟩) ⟨(0, S), rfl, rfl, Or.inr rfl⟩
  have h2 := In_sub h1 (by decide : In 1 1 (1 : Int32)) (by decide) (by omega)
  have h3 := In_le2 p (by decide : In 0 0 (0 : Int32)) (In_top a)
  have h4 := In_le1 q h3 h2
  have e2 : (v - 1).toInt = v.toInt - 1 := by
    rw [Int32.toInt_sub]
    exact bm (by rw [show (1 : Int32).toInt = 1 from by decide]; have := h1.1; omega) (by rw [show (1 : Int32).toInt = 1 from by decide]; have := h1.2; omega)
  have h5 := Int32.le_iff_toInt_le.mp q
  rw [e2] at h5
  exact ⟨h4, by rw [← e]; omega⟩
theorem u_isAttempt {T : Nat → Nat} {S : AS} {x : Option Nat} {a : Int32} (hT : TI T S) (hx : Tx T 100 x) : Ho (f_M_isAttempt S x a) (fun q => q.2 = S ∧ ((q.1 = 1 ∧ In 0 59 a ∧ a.toInt < (sI S 57 19).toInt) ∨ q.1 = 0)) := u_cnt (j := 19) (b := 60) hT hx rfl (by decide)
theorem u_isSession {T : Nat → Nat} {S : AS} {x : Option Nat} {a : Int32} (hT : TI T S) (hx : Tx T 100 x) : Ho (f_M_isSession S x a) (fun q => q.2 = S ∧ ((q.1 = 1 ∧ In 0 59 a ∧ a.toInt < (sI S 57 30).toInt) ∨ q.1 = 0)) := u_cnt (j := 30) (b := 60) hT hx rfl (by decide)
theorem u_isFamily {T : Nat → Nat} {S : AS} {x : Option Nat} {a : Int32} (hT : TI T S) (hx : Tx T 100 x) : Ho (f_M_isFamily S x a) (fun q => q.2 = S ∧ ((q.1 = 1 ∧ In 0 59 a ∧ a.toInt < (sI S 57 46).toInt) ∨ q.1 = 0)) := u_cnt (j := 46) (b := 60) hT hx rfl (by decide)
theorem u_isToken {T : Nat → Nat} {S : AS} {x : Option Nat} {a : Int32} (hT : TI T S) (hx : Tx T 100 x) : Ho (f_M_isToken S x a) (fun q => q.2 = S ∧ ((q.1 = 1 ∧ In 0 199 a ∧ a.toInt < (sI S 57 52).toInt) ∨ q.1 = 0)) := u_cnt (j := 52) (b := 200) hT hx rfl (by decide)
theorem u_isRecovery {T : Nat → Nat} {S : AS} {x : Option Nat} {a : Int32} (hT : TI T S) (hx : Tx T 100 x) : Ho (f_M_isRecovery S x a) (fun q => q.2 = S ∧ ((q.1 = 1 ∧ In 0 19 a ∧ a.toInt < (sI S 57 70).toInt) ∨ q.1 = 0)) := u_cnt (j := 70) (b := 20) hT hx rfl (by decide)
theorem u_isTest (S : AS) (a : Int32) : Ho (f_M_isTest S a) (fun q => q.2 = S ∧ ((q.1 = 1 ∧ In 1 4 a) ∨ q.1 = 0)) := by
  unfold f_M_isTest
  refine r_if (fun _ => r_some ⟨rfl, Or.inr rfl⟩) (fun c1 => ?_)
  refine r_if (fun _ => r_some ⟨rfl, Or.inr rfl⟩) (fun c2 => r_some ⟨rfl, Or.inl ⟨rfl, ?_⟩⟩)
  exact In_w (In_of (Int32.not_lt.mp c1) (Int32.not_lt.mp c2)) (by decide) (by decide)
theorem r_thr {β : Type} {T0 T : Nat → Nat} {w w' : List Nat} {S0 S : AS} {c s : Nat} {x : Option Nat} {v : Int32} {F : AS → Option β} {Q : β → Prop} (hR : Rl T0 w S0 c s T S) (hx : Tx T 100 x) (hw : ∀ x ∈ cl 100 82 :: w, x ∈ w') (h : Rl T0 w' S0 c s T (wI S 57 82 v) → Ho (F (wI S 57 82 v)) Q) : Ho ((pI S 23 82 x v).bind F) Q := by
  obtain ⟨h1, h2, rfl⟩ := sgp hR.1 hx (p := 57) rfl
  rw [ti_pI (κ := 23) ((Tx.K hR.1 h1 h2).trans rfl)]
  exact h (RlwI hR (TIwI hR.1 h1 (fun _ _ q => by cases q) (fun _ _ _ q => by cases q) (by decide)) h1 (by decide) hw (by unfold phc; decide))
theorem r_thg {T0 T : Nat → Nat} {w w' : List Nat} {S0 S : AS} {c s : Nat} {x : Option Nat} {v : Int32} {Q : Int32 × AS → Prop} (hR : Rl T0 w S0 c s T S) (hx : Tx T 100 x) (hw : ∀ x ∈ cl 100 82 :: w, x ∈ w') (h : Rl T0 w' S0 c s T (wI S 57 82 v) → Q ((if v = 0 then 1 else 0), wI S 57 82 v)) : Ho ((pI S 23 82 x v).bind fun S1 => (gI S1 23 82 x).bind fun v2 => if v2 = 0 then some ((1 : Int32), S1) else some ((0 : Int32), S1)) Q := by
  refine r_thr hR hx hw (fun g => ?_)
  refine r_gIs g.1 hx rfl (p := 57) rfl (fun v2 _ e => ?_)
  rw [ti_sI_eq] at e
  rw [e]
  by_cases c0 : v = 0
  · rw [if_pos c0]
    exact r_some (by have := h g; rw [if_pos c0] at this; exact this)
  · rw [if_neg c0]
    exact r_some (by have := h g; rw [if_neg c0] at this; exact this)
theorem r_may {β : Type} {T0 T : Nat → Nat} {w w' : List Nat} {S0 S : AS} {c s : Nat} {x : Option Nat} {a : Int32} {F : Int32 → AS → Option β} {Q : β → Prop} (hR : Rl T0 w S0 c s T S) (hx : Tx T 100 x) (ha : In 0 1 a) (hw : ∀ x ∈ cl 100 82 :: w, x ∈ w') (h1 : ∀ S', Rl T0 w' S0 c s T S' → (∀ p i, ¬ (p = 57 ∧ i = 82) → sI S' p i = sI S p i) → ¬ a = 0 → Ho (F 1 S') Q) (h0 : ∀ S', Rl T0 w' S0 c s T S' → (∀ p i, ¬ (p = 57 ∧ i = 82) → sI S' p i = sI S p i) → Ho (F 0 S') Q) : Ho (kr_b2 (f_M_may S x a) F) Q := by
  have hh : Ho (f_M_may S x a) (fun q => Rl T0 w' S0 c s T q.2 ∧ (∀ p i, ¬ (p = 57 ∧ i = 82) → sI q.2 p i = sI S p i) ∧ ((q.1 = 1 ∧ ¬ a = 0) ∨ q.1 = 0)) := by
    unfold f_M_may
    refine r_if (fun c0 => r_thr hR hx hw (fun g => r_z ha (r_some ⟨g, fun _ _ z => ti_sI_ne z, Or.inr c0⟩))) (fun c0 => r_thr hR hx hw (fun g => r_z ha (r_some ⟨g, fun _ _ z => ti_sI_ne z, Or.inl ⟨?_, c0⟩⟩)))
    rcases In01 ha with e | e
    · exact absurd e c0
    · exact e
  obtain ⟨⟨v, S'⟩, hb, e1, ef, e2⟩ := hh
  rw [hb]
  rcases e2 with ⟨e2, e3⟩ | e2
  · cases e2
    exact h1 S' e1 ef e3
  · cases e2
    exact h0 S' e1 ef
theorem r_mayBoth {β : Type} {T0 T : Nat → Nat} {w w' : List Nat} {S0 S : AS} {c s : Nat} {x : Option Nat} {a b : Int32} {F : Int32 → AS → Option β} {Q : β → Prop} (hR : Rl T0 w S0 c s T S) (hx : Tx T 100 x) (hw : ∀ x ∈ cl 100 82 :: w, x ∈ w') (h1 : ∀ S', Rl T0 w' S0 c s T S' → (∀ p i, ¬ (p = 57 ∧ i = 82) → sI S' p i = sI S p i) → ¬ a = 0 → ¬ b = 0 → Ho (F 1 S') Q) (h0 : ∀ S', Rl T0 w' S0 c s T S' → (∀ p i, ¬ (p = 57 ∧ i = 82) → sI S' p i = sI S p i) → Ho (F 0 S') Q) : Ho (kr_b2 (f_M_mayBoth S x a b) F) Q := by
  have hh : Ho (f_M_mayBoth S x a b) (fun q => Rl T0 w' S0 c s T q.2 ∧ (∀ p i, ¬ (p = 57 ∧ i = 82) → sI q.2 p i = sI S p i) ∧ ((q.1 = 1 ∧ ¬ a = 0 ∧ ¬ b = 0) ∨ q.1 = 0)) := by
    unfold f_M_mayBoth
    unfold f_M_mayBoth_B18
    refine r_if (fun c0 => r_thg hR hx hw (fun g => ⟨g, fun _ _ z => ti_sI_ne z, Or.inr rfl⟩)) (fun c0 => ?_)
    refine r_if (fun c1 => r_thg hR hx hw (fun g => ⟨g, fun _ _ z => ti_sI_ne z, Or.inr rfl⟩)) (fun c1 => r_thg hR hx hw (fun g => ⟨g, fun _ _ z => ti_sI_ne z, Or.inl ⟨rfl, c0, c1⟩⟩))
  obtain ⟨⟨v, S'⟩, hb, e1, ef, e2⟩ := hh
  rw [hb]
  rcases e2 with ⟨e2, e3, e4⟩ | e2
  · cases e2
    exact h1 S' e1 ef e3 e4
  · cases e2
    exact h0 S' e1 ef
theorem r_mayAll {β : Type} {T0 T : Nat → Nat} {w w' : List Nat} {S0 S : AS} {c s : Nat} {x : Option Nat} {a b d : Int32} {F : Int32 → AS → Option β} {Q : β → Prop} (hR : Rl T0 w S0 c s T S) (hx : Tx T 100 x) (hw : ∀ x ∈ cl 100 82 :: w, x ∈ w') (h1 : ∀ S', Rl T0 w' S0 c s T S' → (∀ p i, ¬ (p = 57 ∧ i = 82) → sI S' p i = sI S p i) → ¬ a = 0 → ¬ b = 0 → ¬ d = 0 → Ho (F 1 S') Q) (h0 : ∀ S', Rl T0 w' S0 c s T S' → (∀ p i, ¬ (p = 57 ∧ i = 82) → sI S' p i = sI S p i) → Ho (F 0 S') Q) : Ho (kr_b2 (f_M_mayAll S x a b d) F) Q := by
  have hh : Ho (f_M_mayAll S x a b d) (fun q => Rl T0 w' S0 c s T q.2 ∧ (∀ p i, ¬ (p = 57 ∧ i = 82) → sI q.2 p i = sI S p i) ∧ ((q.1 = 1 ∧ ¬ a = 0 ∧ ¬ b = 0 ∧ ¬ d = 0) ∨ q.1 = 0)) := by
    unfold f_M_mayAll
    unfold f_M_mayAll_B26
    refine r_if (fun c0 => r_thg hR hx hw (fun g => ⟨g, fun _ _ z => ti_sI_ne z, Or.inr rfl⟩)) (fun c0 => ?_)
    refine r_if (fun c1 => r_thg hR hx hw (fun g => ⟨g, fun _ _ z => ti_sI_ne z, Or.inr rfl⟩)) (fun c1 => ?_)
    refine r_if (fun c2 => r_thg hR hx hw (fun g => ⟨g, fun _ _ z => ti_sI_ne z, Or.inr rfl⟩)) (fun c2 => r_thg hR hx hw (fun g => ⟨g, fun _ _ z => ti_sI_ne z, Or.inl ⟨rfl, c0, c1, c2⟩⟩))
  obtain ⟨⟨v, S'⟩, hb, e1, ef, e2⟩ := hh
  rw [hb]
  rcases e2 with ⟨e2, e3, e4, e5⟩ | e2
  · cases e2
    exact h1 S' e1 ef e3 e4 e5
  · cases e2
    exact h0 S' e1 ef
/-! writes that the bounds count -/
theorem RlwP {T0 T : Nat → Nat} {w w' : List Nat} {S0 S : AS} {c s c' s' τ k j : Nat} {v : Int32} {d e : Int} (h : Rl T0 w S0 c s T S) (ht : TI T (wI S k j v)) (hk : T k = τ) (h3 : ¬ (20 ≤ τ ∧ τ < 27 ∧ j = 2)) (hw : ∀ x ∈ cl τ j :: w, x ∈ w') (hP : Ph (wI S k j v) ≤ Ph S + d) (hG : Gf (wI S k j v) ≤ Gf S + e) (hC : sC S ≤ sC S0 + c') (hS : sS S ≤ sS S0 + s') (hd : (c : Int) + d ≤ c') (he : (s : Int) + e ≤ s') : Rl T0 w' S0 c' s' T (wI S k j v) := by
  have hr := h.2.2.2.1
  refine ⟨ht, h.2.1, h.2.2.1, ⟨hC, hS, by omega, by omega⟩, ?_, fun a b p q => h.fR a b p (fun z => q (hw _ (List.mem_cons_of_mem _ z))), fun a b p q => h.fJ a b p (fun z => q (hw _ (List.mem_cons_of_mem _ z))), ?_, h.2.2.2.2.2.2.2.2⟩
  · intro a b p q
    by_cases e : a = k ∧ b = j
    · obtain ⟨rfl, rfl⟩ := e
      rw [h.ty a p] at hk
      exact absurd (hw _ (by rw [hk]; exact List.mem_cons_self)) q
    · rw [ti_sI_ne e]
      exact h.fI a b p (fun z => q (hw _ (List.mem_cons_of_mem _ z)))
  · have e := (h.1.t6 5 (by omega)).1
    rw [ti_sI_ne (fun q => by
      obtain ⟨q1, q2⟩ := q
      subst q1
      rw [show lp 5 = 24 from rfl, hk] at e
      exact h3 (by omega))]
    exact h.2.2.2.2.2.2.2.1
theorem ent_le {T : Nat → Nat} {S : AS} (hT : TI T S) : (sI S 57 77).toInt ≤ Ph S ∧ In 0 1200 (sI S 57 77) ∧ In 0 60 (sI S 57 30) ∧ In 0 60 (sI S 57 46) ∧ In 0 60 (sI S 57 39) := by
  obtain ⟨t1, -⟩ := hT.t9
  have e1 := hT.t4 57 77 0 1200 (by rw [t1]; rfl)
  have e2 := hT.t4 57 30 0 60 (by rw [t1]; rfl)
  have e3 := hT.t4 57 46 0 60 (by rw [t1]; rfl)
  have e4 := hT.t4 57 39 0 60 (by rw [t1]; rfl)
  refine ⟨?_, e1, e2, e3, e4⟩
  unfold Ph
  have := e2.2
  have := e3.2
  split <;> omega
theorem r_bIw {β : Type} {T0 T : Nat → Nat} {w w' : List Nat} {S0 S : AS} {c s τ n : Nat} {m : Int} {x : Option Nat} {i v : Int32} {F : AS → Option β} {Q : β → Prop} (hR : Rl T0 w S0 c s T S) (hx : Tx T τ x) (hk : kd τ = 40) (hl : ln τ = some n) (hi : In 0 m i) (hm : m < n) (hv : ∀ n lo hi, ra τ = some (n, lo, hi) → In lo hi v) (hz : ∀ j, rf τ j = none) (hnl : ¬ (20 ≤ τ ∧ τ < 27)) (hw : ∀ x ∈ cl τ 0 :: w, x ∈ w') (hp : ∀ j, ¬ phc τ j) (h1 : τ ≠ 100) (h : ∀ S', Rl T0 w' S0 c s T S' → sC S' = sC S → (∀ j, sI S' 57 j = sI S 57 j) → Ho (F S') Q) : Ho ((bI S x i v).bind F) Q := by
  obtain ⟨k, rfl, e1, e2⟩ := hx
  have e := (hR.1.t1 k (by rw [e1]; exact e2)).2.2.2 n (by rw [e1]; exact hl)
  have hk57 : k ≠ 57 := fun q => h1 (by rw [← e1, q]; exact hR.1.t9.1)
  unfold bI
  rw [Option.bind_some, if_pos ⟨(Tx.K hR.1 e1 e2).trans hk, hi.1, by rw [e]; exact Int.lt_of_le_of_lt hi.2 hm⟩]
  exact h _ (RlwI hR (TIwI hR.1 e1 (fun lo hi q => by rw [hz] at q; cases q) hv (fun q => hnl ⟨q.1, q.2.1⟩)) e1 (fun q => hnl ⟨q.1, q.2.1⟩) (by rw [cl_a (by omega)]; exact hw) (hp _)) rfl (fun j => ti_sI_ne (fun q => hk57 q.1.symm))
theorem r_ent {β : Type} {T : Nat → Nat} {w w' : List Nat} {S0 S : AS} {s : Nat} {x : Option Nat} {v : Int32} {F : AS → Option β} {Q : β → Prop} (hR : Rl T w S0 0 s T S) (hx : Tx T 100 x) (hv : In 0 1199 v) (e : v = sI S 57 77) (hw : ∀ x ∈ cl 100 77 :: w, x ∈ w') (hC : sC S = sC S0) (h : ∀ S', Rl T w' S0 1 s T S' → sC S' = sC S0 → Ho (F S') Q) : Ho ((pI S 23 77 x (v + (1 : Int32))).bind F) Q := by
  obtain ⟨h57, -, rfl⟩ := sgp hR.1 hx (p := 57) rfl
  rw [ti_pI (κ := 23) ((Tx.K hR.1 h57 (by decide)).trans rfl), Option.bind_some]
  have i12 : In 0 1200 (v + 1) := In_w (In_add hv (by decide : In 1 1 (1 : Int32)) (by decide) (by decide)) (by decide) (by decide)
  have t12 := toInt_add1 hv (by decide) (by decide)
  have hti : TI T (wI S 57 77 (v + 1)) := TIwI hR.1 h57 (fun _ _ q => by cases q; exact i12) (fun _ _ _ q => by cases q) (by decide)
  have q1' : ∀ j, j ≠ 77 → sI (wI S 57 77 (v + 1)) 57 j = sI S 57 j := fun j hj => ti_sI_ne (fun z => hj z.2)
  have q2' : sI (wI S 57 77 (v + 1)) 57 77 = v + 1 := ti_sI_eq _ _ _ _
  have q3' : ∀ k, k ≠ 57 → sI (wI S 57 77 (v + 1)) k = sI S k := fun k hk => by
    funext j
    exact ti_sI_ne (fun z => hk z.1)
  refine h _ (RlwP (d := 1) (e := 0) hR hti h57 (by decide) hw ?_ ?_ (by omega) hR.2.2.2.1.2.1 (by decide) (by omega)) hC
  · unfold Ph
    rw [q2', q1' 30 (by decide), q1' 46 (by decide), q1' 62 (by decide), q3' 89 (by decide), q3' 103 (by decide), t12, ← e]
    omega
  · unfold Gf
    rw [q1' 46 (by decide), q1' 39 (by decide), q3' 98 (by decide)]
    omega
theorem r_pIw {β : Type} {T0 T : Nat → Nat} {w w' : List Nat} {S0 S : AS} {c s j : Nat} {x : Option Nat} {v : Int32} {F : AS → Option β} {Q : β → Prop} (hR : Rl T0 w S0 c s T S) (hx : Tx T 100 x) (hv : ∀ lo hi, rf 100 j = some (lo, hi) → In lo hi v) (hw : ∀ x ∈ cl 100 j :: w, x ∈ w') (hp : ¬ phc 100 j) (h : ∀ S', Rl T0 w' S0 c s T S' → sC S' = sC S → Ho (F S') Q) : Ho ((pI S 23 j x v).bind F) Q := by
  obtain ⟨h57, -, rfl⟩ := sgp hR.1 hx (p := 57) rfl
  rw [ti_pI (κ := 23) ((Tx.K hR.1 h57 (by decide)).trans rfl), Option.bind_some]
  exact h _ (RlwI hR (TIwI hR.1 h57 hv (fun _ _ _ q => by cases q) (by omega)) h57 (by omega) hw hp) rfl
def kw_w3 : List Nat := [17800, 17900, 18000]
def kw_wr : List Nat := [10077, 10081, 17800, 17900, 18000]
theorem t_M_write {T : Nat → Nat} {S : AS} {x : Option Nat} {a b : Int32} (hT : TI T S) (hx : Tx T 100 x) (hph : Ph S ≤ 1199) : Ho (f_M_write S x a b) (fun S' => Rl T kw_wr S 1 0 T S' ∧ sC S' = sC S) := by
  have hel := ent_le hT
  have hin : In 0 1199 (sI S 57 77) := ⟨hel.2.1.1, by have := hel.1; omega⟩
  have g0 : Rl T kw_w3 S 0 0 T S := Rlweak (Rlrf hT) (fun x q => by cases q) (Nat.le_refl _) (Nat.le_refl _)
  unfold f_M_write
  refine r_gR hT hx rfl rfl (fun v1 h1 => ?_)
  refine r_gIs hT hx rfl (p := 57) rfl (fun v2 _ e2 => ?_)
  have i2 : In 0 1199 v2 := In_read e2 hin
  refine r_bIw (w' := kw_w3) g0 h1 rfl rfl i2 (by decide) (fun _ _ _ q => by cases q) (fun _ => rfl) (by decide) (by decide +kernel) (fun _ => by unfold phc; omega) (by decide) (fun S1 g1 c1 f1 => ?_)
  refine r_gR g1.1 hx rfl rfl (fun v4 h4 => ?_)
  refine r_gIs g1.1 hx rfl (p := 57) rfl (fun v5 _ e5 => ?_)
  have e52 : v5 = v2 := by rw [e5, f1, e2]
  refine r_bIw (w' := kw_w3) g1 h4 rfl rfl (In_read e52 i2) (by decide) (fun _ _ _ q => by cases q) (fun _ => rfl) (by decide) (by decide +kernel) (fun _ => by unfold phc; omega) (by decide) (fun S2 g2 c2 f2 => ?_)
  refine r_gR g2.1 hx rfl rfl (fun v7 h7 => ?_)
  refine r_gIs g2.1 hx rfl (p := 57) rfl (fun v8 _ e8 => ?_)
  refine r_gIs g2.1 hx rfl (p := 57) rfl (fun v9 _ _ => ?_)
  have e82 : v8 = v2 := by rw [e8, f2, f1, e2]
  refine r_bIw (w' := kw_w3) g2 h7 rfl rfl (In_read e82 i2) (by decide) (fun _ _ _ q => by cases q) (fun _ => rfl) (by decide) (by decide +kernel) (fun _ => by unfold phc; omega) (by decide) (fun S3 g3 c3 f3 => ?_)
  refine r_gIs g3.1 hx rfl (p := 57) rfl (fun v11 _ e11 => ?_)
  have e112 : v11 = v2 := by rw [e11, f3, f2, f1, e2]
  refine r_ent (w' := kw_wr) g3 hx (In_read e112 i2) e11 (by decide +kernel) (by rw [c3, c2, c1]) (fun S4 g4 c4 => ?_)
  refine r_gIs g4.1 hx rfl (p := 57) rfl (fun v13 _ _ => ?_)
  refine r_gIs g4.1 hx rfl (p := 57) rfl (fun v14 _ _ => ?_)
  refine r_val ?_
  refine r_pIw (w' := kw_wr) g4 hx (fun _ _ q => by cases q) (by decide +kernel) (by unfold phc; decide) (fun S5 g5 c5 => ?_)
  exact r_some ⟨g5, by rw [c5, c4]⟩
end
section
/-! ===== writes that the bounds count ===== -/
theorem Rlph {T0 T : Nat → Nat} {w : List Nat} {S0 S : AS} {c1 c s : Nat} (h : Rl T0 w S0 c1 s T S) (hC : sC S ≤ sC S0 + c) (hP : Ph S ≤ Ph S0 + c) : Rl T0 w S0 c s T S :=
  ⟨h.1, h.2.1, h.2.2.1, ⟨hC, h.2.2.2.1.2.1, hP, h.2.2.2.1.2.2.2⟩, h.2.2.2.2.1, h.2.2.2.2.2.1, h.2.2.2.2.2.2.1, h.2.2.2.2.2.2.2.1, h.2.2.2.2.2.2.2.2⟩
theorem Rlgf {T0 T : Nat → Nat} {w : List Nat} {S0 S : AS} {c s1 s : Nat} (h : Rl T0 w S0 c s1 T S) (hS : sS S ≤ sS S0 + s) (hG : Gf S ≤ Gf S0 + s) : Rl T0 w S0 c s T S :=
  ⟨h.1, h.2.1, h.2.2.1, ⟨h.2.2.2.1.1, hS, h.2.2.2.1.2.2.1, hG⟩, h.2.2.2.2.1, h.2.2.2.2.2.1, h.2.2.2.2.2.2.1, h.2.2.2.2.2.2.2.1, h.2.2.2.2.2.2.2.2⟩
theorem In11 {v : Int32} (h : In 1 1 v) : v = 1 := by
  obtain ⟨h1, h2⟩ := h
  exact Int32.toInt_inj.mp (by rw [show (1 : Int32).toInt = 1 from by decide]; omega)
/-- a mark of the two counted rows is written: what becomes of the bounds -/
theorem ph_live (S : AS) {i : Nat} (hi : i < 60) (v : Int32) : Ph (wI S 89 i v) + (if sI S 89 i = 1 then 1 else 0) = Ph S + (if v = 1 then 1 else 0) ∧ Gf (wI S 89 i v) = Gf S := by
  have q1 : ∀ j, sI (wI S 89 i v) 57 j = sI S 57 j := fun j => ti_sI_ne (by omega)
  have q2 : sI (wI S 89 i v) 103 = sI S 103 := by funext j; exact ti_sI_ne (by omega)
  have q3 : sI (wI S 89 i v) 98 = sI S 98 := by funext j; exact ti_sI_ne (by omega)
  have q4 := cnt_one (f := sI (wI S 89 i v) 89) (g := sI S 89) (i := i) (fun j hj => ti_sI_ne (fun z => hj z.2)) (n := 60) hi
  rw [ti_sI_eq] at q4
  unfold Ph Gf
  rw [q1, q1, q1, q1, q1, q2, q3]
  refine ⟨?_, rfl⟩
  split at q4 <;> split at q4 <;> simp_all <;> omega
theorem ph_good (S : AS) {i : Nat} (hi : i < 60) (v : Int32) : Ph (wI S 103 i v) + (if sI S 103 i = 1 then 1 else 0) = Ph S + (if v = 1 then 1 else 0) ∧ Gf (wI S 103 i v) = Gf S := by
  have q1 : ∀ j, sI (wI S 103 i v) 57 j = sI S 57 j := fun j => ti_sI_ne (by omega)
  have q2 : sI (wI S 103 i v) 89 = sI S 89 := by funext j; exact ti_sI_ne (by omega)
  have q3 : sI (wI S 103 i v) 98 = sI S 98 := by funext j; exact ti_sI_ne (by omega)
  have q4 := cnt_one (f := sI (wI S 103 i v) 103) (g := sI S 103) (i := i) (fun j hj => ti_sI_ne (fun z => hj z.2)) (n := 60) hi
  rw [ti_sI_eq] at q4
  unfold Ph Gf
  rw [q1, q1, q1, q1, q1, q2, q3]
  refine ⟨?_, rfl⟩
  split at q4 <;> split at q4 <;> simp_all <;> omega
theorem bZ_s {T : Nat → Nat} {S : AS} {τ n : Nat} {m : Int} {p : Nat} {i v : Int32} (hT : TI T S) (hp : T p = τ) (h0 : τ ≠ 0) (hk : kd τ = 41) (hl : ln τ = some n) (hi : In 0 m i) (hm : m < n) (h01 : In 0 1 v) : bZ S (some p) i v = some (wI S p i.toNatClampNeg v) := by
  have e := (hT.t1 p (by rw [hp]; exact h0)).2.2.2 n (by rw [hp]; exact hl)
  unfold bZ
  rw [Option.bind_some, if_pos ⟨(Tx.K hT hp h0).trans hk, ⟨hi.1, by rw [e]; exact Int.lt_of_le_of_lt hi.2 hm⟩, In01 h01⟩]
theorem r_bZone {β : Type} {T0 T : Nat → Nat} {w w' : List Nat} {S0 S : AS} {c s τ p : Nat} {x : Option Nat} {i : Int32} {F : AS → Option β} {Q : β → Prop} (hR : Rl T0 w S0 c s T S) (hx : Tx T τ x) (hτ : (τ = 135 ∧ p = 89) ∨ (τ = 151 ∧ p = 103)) (hi : In 0 59 i) (hw : ∀ x ∈ cl τ 0 :: w, x ∈ w') (h : ∀ S', Rl T0 w' S0 (c + 1) s T S' → S' = wI S p i.toNatClampNeg 1 → Ho (F S') Q) : Ho ((bZ S x i (1 : Int32)).bind F) Q := by
  have hn := nat_of hi (n := 60) (by decide)
  rcases hτ with ⟨rfl, rfl⟩ | ⟨rfl, rfl⟩
  · obtain ⟨h1, h2, rfl⟩ := sgp hR.1 hx (p := 89) rfl
    rw [bZ_s hR.1 h1 h2 rfl rfl hi (by decide) (by decide)]
    have hb := ph_live S hn 1
    rw [if_pos rfl] at hb
    refine h _ (RlwP (d := 1) (e := 0) hR (TIwI hR.1 h1 (fun _ _ q => by cases q) (fun _ _ _ q => by cases q; decide) (by omega)) h1 (by omega) (by rw [cl_a (by decide)]; exact hw) ?_ ?_ (by have := hR.2.2.2.1.1; omega) hR.2.2.2.1.2.1 (by omega) (by omega)) rfl
    · have := hb.1
      split at this <;> omega
    · have := hb.2
      omega
  · obtain ⟨h1, h2, rfl⟩ := sgp hR.1 hx (p := 103) rfl
    rw [bZ_s hR.1 h1 h2 rfl rfl hi (by decide) (by decide)]
    have hb := ph_good S hn 1
    rw [if_pos rfl] at hb
    refine h _ (RlwP (d := 1) (e := 0) hR (TIwI hR.1 h1 (fun _ _ q => by cases q) (fun _ _ _ q => by cases q; decide) (by omega)) h1 (by omega) (by rw [cl_a (by decide)]; exact hw) ?_ ?_ (by have := hR.2.2.2.1.1; omega) hR.2.2.2.1.2.1 (by omega) (by omega)) rfl
    · have := hb.1
      split at this <;> omega
    · have := hb.2
      omega
/-- a mark is taken back and the end is written down: the bound stays -/
theorem r_kill {β : Type} {T0 T : Nat → Nat} {w w' : List Nat} {S0 S : AS} {c s τ p : Nat} {x y : Option Nat} {i a b : Int32} {F : AS → Option β} {Q : β → Prop} (hR : Rl T0 w S0 c s T S) (hx : Tx T τ x) (hτ : (τ = 135 ∧ p = 89) ∨ (τ = 151 ∧ p = 103)) (hy : Tx T 100 y) (hi : In 0 59 i) (hl : In 1 1 (sI S p i.toNatClampNeg)) (hph : Ph S ≤ 1199) (hw : ∀ x ∈ cl τ 0 :: (kw_wr ++ w), x ∈ w') (h : ∀ S', Rl T0 w' S0 c s T S' → Ho (F S') Q) : Ho ((bZ S x i (0 : Int32)).bind fun S1 => (kr_rv S1 23 y).bind fun _ => (f_M_write S1 y a b).bind F) Q := by
  have hn := nat_of hi (n := 60) (by decide)
  have key : ∀ (hp : T p = τ) (h0 : τ ≠ 0) (hb : Ph (wI S p i.toNatClampNeg 0) + (if sI S p i.toNatClampNeg = 1 then 1 else 0) = Ph S + (if (0 : Int32) = 1 then 1 else 0) ∧ Gf (wI S p i.toNatClampNeg 0) = Gf S) (hti : TI T (wI S p i.toNatClampNeg 0)) (hkd : 40 ≤ kd τ) (h20 : ¬ (20 ≤ τ ∧ τ < 27 ∧ i.toNatClampNeg = 2)), Ho ((kr_rv (wI S p i.toNatClampNeg 0) 23 y).bind fun _ => (f_M_write (wI S p i.toNatClampNeg 0) y a b).bind F) Q := by
    intro hp h0 hb hti hkd h20
    have hl1 := In11 hl
    rw [if_pos hl1, if_neg (by decide)] at hb
    have g1 : Rl T0 (cl τ 0 :: w) S0 c s T (wI S p i.toNatClampNeg 0) := RlwP (d := -1) (e := 0) hR hti hp h20 (by rw [cl_a hkd]; exact fun _ z => z) (by omega) (by omega) hR.2.2.2.1.1 hR.2.2.2.1.2.1 (by omega) (by omega)
    have hC1 : sC (wI S p i.toNatClampNeg 0) = sC S := rfl
    generalize wI S p i.toNatClampNeg 0 = S1 at *
    refine r_rv g1.1 hy rfl ?_
    refine r_bind (t_M_write g1.1 hy (by omega)) (fun S' hh => ?_)
    obtain ⟨gw, cw⟩ := hh
    refine h S' (Rlph (c1 := c + 1) (Rltrans (ss := 0) g1 gw (fun z hz => hw z ?_)) ?_ ?_)
    · rcases List.mem_append.mp hz with hz | hz
      · rcases List.mem_cons.mp hz with hz | hz
        · rw [hz]; exact List.mem_cons_self
        · exact List.mem_cons_of_mem _ (List.mem_append_right _ hz)
      · exact List.mem_cons_of_mem _ (List.mem_append_left _ hz)
    · rw [cw, hC1]; exact hR.2.2.2.1.1
    · have h1 := gw.2.2.2.1.2.2.1
      have h2 := hR.2.2.2.1.2.2.1
      omega
  rcases hτ with ⟨rfl, rfl⟩ | ⟨rfl, rfl⟩
  · obtain ⟨h1, h2, rfl⟩ := sgp hR.1 hx (p := 89) rfl
    rw [bZ_s hR.1 h1 h2 rfl rfl hi (by decide) (by decide), Option.bind_some]
    exact key h1 h2 (ph_live S hn 0) (TIwI hR.1 h1 (fun _ _ q => by cases q) (fun _ _ _ q => by cases q; decide) (by omega)) (by decide) (by omega)
  · obtain ⟨h1, h2, rfl⟩ := sgp hR.1 hx (p := 103) rfl
    rw [bZ_s hR.1 h1 h2 rfl rfl hi (by decide) (by decide), Option.bind_some]
    exact key h1 h2 (ph_good S hn 0) (TIwI hR.1 h1 (fun _ _ q => by cases q) (fun _ _ _ q => by cases q; decide) (by omega)) (by decide) (by omega)
theorem fI57 (S : AS) (j : Nat) (v : Int32) : (∀ a, a ≠ j → sI (wI S 57 j v) 57 a = sI S 57 a) ∧ sI (wI S 57 j v) 57 j = v ∧ ∀ k, k ≠ 57 → sI (wI S 57 j v) k = sI S k :=
  ⟨fun a ha => ti_sI_ne (fun z => ha z.2), ti_sI_eq _ _ _ _, fun k hk => by funext b; exact ti_sI_ne (fun z => hk z.1)⟩
/-- one more session, written down -/
theorem r_sesw {β : Type} {T0 T : Nat → Nat} {w w' : List Nat} {S0 S : AS} {c s : Nat} {x y : Option Nat} {v a b : Int32} {F : AS → Option β} {Q : β → Prop} (hR : Rl T0 w S0 (c + 1) s T S) (hC : sC S ≤ sC S0 + c) (hx : Tx T 100 x) (hy : Tx T 100 y) (hv : In 0 59 v) (e : v = sI S 57 30) (hph : Ph S ≤ 1199) (hw : ∀ x ∈ cl 100 30 :: (kw_wr ++ w), x ∈ w') (h : ∀ S', Rl T0 w' S0 c s T S' → Ho (F S') Q) : Ho ((pI S 23 30 x (v + (1 : Int32))).bind fun S1 => (kr_rv S1 23 y).bind fun _ => (f_M_write S1 y a b).bind F) Q := by
  obtain ⟨h57, -, rfl⟩ := sgp hR.1 hx (p := 57) rfl
  rw [ti_pI (κ := 23) ((Tx.K hR.1 h57 (by decide)).trans rfl), Option.bind_some]
  have i12 : In 0 60 (v + 1) := In_w (In_add hv (by decide : In 1 1 (1 : Int32)) (by decide) (by decide)) (by decide) (by decide)
  have t12 := toInt_add1 hv (by decide) (by decide)
  have hti : TI T (wI S 57 30 (v + 1)) := TIwI hR.1 h57 (fun _ _ q => by cases q; exact i12) (fun _ _ _ q => by cases q) (by decide)
  obtain ⟨q1, q2, q3⟩ := fI57 S 30 (v + 1)
  have hP : Ph (wI S 57 30 (v + 1)) = Ph S - 2 := by
    unfold Ph
    rw [q2, q1 77 (by decide), q1 46 (by decide), q1 62 (by decide), q3 89 (by decide), q3 103 (by decide), t12, ← e]
    omega
  have hG : Gf (wI S 57 30 (v + 1)) = Gf S := by
    unfold Gf
    rw [q1 46 (by decide), q1 39 (by decide), q3 98 (by decide)]
  have g1 : Rl T0 (cl 100 30 :: w) S0 c s T (wI S 57 30 (v + 1)) := RlwP (d := -2) (e := 0) hR hti h57 (by decide) (fun _ z => z) (by omega) (by omega) hC hR.2.2.2.1.2.1 (by omega) (by omega)
  have hC1 : sC (wI S 57 30 (v + 1)) = sC S := rfl
  clear q1 q2 q3 hG
  generalize wI S 57 30 (v + 1) = S1 at *
  refine r_rv g1.1 hy rfl ?_
  refine r_bind (t_M_write g1.1 hy (by omega)) (fun S' hh => ?_)
  obtain ⟨gw, cw⟩ := hh
  refine h S' (Rlph (c1 := c + 1) (Rltrans (ss := 0) g1 gw (fun z hz => hw z ?_)) ?_ ?_)
  · rcases List.mem_append.mp hz with hz | hz
    · rcases List.mem_cons.mp hz with hz | hz
      · rw [hz]; exact List.mem_cons_self
      · exact List.mem_cons_of_mem _ (List.mem_append_right _ hz)
    · exact List.mem_cons_of_mem _ (List.mem_append_left _ hz)
  · rw [cw, hC1]; exact hC
  · have h1 := gw.2.2.2.1.2.2.1
    have h2 := hR.2.2.2.1.2.2.1
    omega
theorem gf_cod (S : AS) {i : Nat} (hi : i < 60) (v : Int32) : Gf (wI S 98 i v) + (if sI S 98 i = -1 then 1 else 0) = Gf S + (if v = -1 then 1 else 0) ∧ Ph (wI S 98 i v) = Ph S := by
  have q1 : ∀ j, sI (wI S 98 i v) 57 j = sI S 57 j := fun j => ti_sI_ne (by omega)
  have q2 : sI (wI S 98 i v) 89 = sI S 89 := by funext j; exact ti_sI_ne (by omega)
  have q3 : sI (wI S 98 i v) 103 = sI S 103 := by funext j; exact ti_sI_ne (by omega)
  have q4 := cnm_one (f := sI (wI S 98 i v) 98) (g := sI S 98) (i := i) (fun j hj => ti_sI_ne (fun z => hj z.2)) (n := 60) hi
  rw [ti_sI_eq] at q4
  unfold Ph Gf
  rw [q1, q1, q1, q1, q1, q2, q3]
  refine ⟨?_, rfl⟩
  split at q4 <;> split at q4 <;> simp_all <;> omega
theorem bI_t {T : Nat → Nat} {S : AS} {τ n : Nat} {m : Int} {p : Nat} {i v : Int32} (hT : TI T S) (hp : T p = τ) (h0 : τ ≠ 0) (hk : kd τ = 40) (hl : ln τ = some n) (hi : In 0 m i) (hm : m < n) : bI S (some p) i v = some (wI S p i.toNatClampNeg v) := by
  have e := (hT.t1 p (by rw [hp]; exact h0)).2.2.2 n (by rw [hp]; exact hl)
  unfold bI
  rw [Option.bind_some, if_pos ⟨(Tx.K hT hp h0).trans hk, hi.1, by rw [e]; exact Int.lt_of_le_of_lt hi.2 hm⟩]
/-- a code that waits is counted, then the codes -/
theorem r_codm {β : Type} {T0 T : Nat → Nat} {w w' : List Nat} {S0 S : AS} {c s : Nat} {x : Option Nat} {i : Int32} {F : AS → Option β} {Q : β → Prop} (hR : Rl T0 w S0 c s T S) (hx : Tx T 145 x) (hi : In 0 59 i) (hw : ∀ x ∈ cl 145 0 :: w, x ∈ w') (h : ∀ S', Rl T0 w' S0 c (s + 1) T S' → S' = wI S 98 i.toNatClampNeg (-1) → Ho (F S') Q) : Ho ((bI S x i (-1 : Int32)).bind F) Q := by
  have hn := nat_of hi (n := 60) (by decide)
  obtain ⟨h1, h2, rfl⟩ := sgp hR.1 hx (p := 98) rfl
  rw [bI_t hR.1 h1 h2 rfl rfl hi (by decide)]
  have hb := gf_cod S hn (-1)
  rw [if_pos rfl] at hb
  refine h _ (RlwP (d := 0) (e := 1) hR (TIwI hR.1 h1 (fun _ _ q => by cases q) (fun _ _ _ q => by cases q; decide) (by omega)) h1 (by omega) (by rw [cl_a (by decide)]; exact hw) ?_ ?_ hR.2.2.2.1.1 (by have := hR.2.2.2.1.2.1; omega) (by omega) (by omega)) rfl
  · have := hb.2
    omega
  · have := hb.1
    split at this <;> omega
theorem r_codp {β : Type} {T0 T : Nat → Nat} {w w' : List Nat} {S0 S : AS} {c s : Nat} {x : Option Nat} {v : Int32} {F : AS → Option β} {Q : β → Prop} (hR : Rl T0 w S0 c (s + 1) T S) (hS : sS S ≤ sS S0 + s) (hx : Tx T 100 x) (hv : In 0 59 v) (e : v = sI S 57 39) (hw : ∀ x ∈ cl 100 39 :: w, x ∈ w') (h : ∀ S', Rl T0 w' S0 c s T S' → Ho (F S') Q) : Ho ((pI S 23 39 x (v + (1 : Int32))).bind F) Q := by
  obtain ⟨h57, -, rfl⟩ := sgp hR.1 hx (p := 57) rfl
  rw [ti_pI (κ := 23) ((Tx.K hR.1 h57 (by decide)).trans rfl), Option.bind_some]
  have i12 : In 0 60 (v + 1) := In_w (In_add hv (by decide : In 1 1 (1 : Int32)) (by decide) (by decide)) (by decide) (by decide)
  have t12 := toInt_add1 hv (by decide) (by decide)
  have hti : TI T (wI S 57 39 (v + 1)) := TIwI hR.1 h57 (fun _ _ q => by cases q; exact i12) (fun _ _ _ q => by cases q) (by decide)
  obtain ⟨q1, q2, q3⟩ := fI57 S 39 (v + 1)
  refine h _ (RlwP (d := 0) (e := -1) hR hti h57 (by decide) hw ?_ ?_ hR.2.2.2.1.1 hS (by omega) (by omega))
  · unfold Ph
    rw [q1 30 (by decide), q1 77 (by decide), q1 46 (by decide), q1 62 (by decide), q3 89 (by decide), q3 103 (by decide)]
    omega
  · unfold Gf
    rw [q2, q1 46 (by decide), q3 98 (by decide), t12, ← e]
    omega
theorem nwr {j : Nat} (hj : j < 100 ∧ ¬ (j = 77 ∨ j = 81)) : ¬ cl 100 j ∈ kw_wr := by
  intro hm
  rw [show cl 100 j = 10000 + j from if_pos (by decide)] at hm
  simp only [kw_wr, List.mem_cons, List.not_mem_nil, or_false] at hm
  omega
/-- a family is made of a code that waits -/
theorem r_redw {β : Type} {T0 T : Nat → Nat} {w w' : List Nat} {S0 S : AS} {c s : Nat} {x y u : Option Nat} {i f a b : Int32} {F : AS → Option β} {Q : β → Prop} (hR : Rl T0 w S0 (c + 1) s T S) (hC : sC S ≤ sC S0 + c) (hx : Tx T 145 x) (hy : Tx T 100 y) (hu : Tx T 100 u) (hi : In 0 59 i) (hf : In 0 59 f) (hfe : f = sI S 57 46) (hold : In (-1) (-1) (sI S 98 i.toNatClampNeg)) (hph : Ph S ≤ 1190) (hw : ∀ x ∈ cl 145 0 :: cl 100 46 :: (kw_wr ++ w), x ∈ w') (h : ∀ S', Rl T0 w' S0 c s T S' → (∀ j, (j < 100 ∧ ¬ (j = 46 ∨ j = 77 ∨ j = 81)) → sI S' 57 j = sI S 57 j) → Ho (F S') Q) : Ho ((bI S x i f).bind fun S1 => (gI S1 23 46 y).bind fun v => (pI S1 23 46 y (v + (1 : Int32))).bind fun S2 => (kr_rv S2 23 u).bind fun _ => (f_M_write S2 u a b).bind F) Q := by
  have hn := nat_of hi (n := 60) (by decide)
  obtain ⟨h1, h2, rfl⟩ := sgp hR.1 hx (p := 98) rfl
  rw [bI_t hR.1 h1 h2 rfl rfl hi (by decide), Option.bind_some]
  have hb := gf_cod S hn f
  have ho : sI S 98 i.toNatClampNeg = -1 := by
    obtain ⟨z1, z2⟩ := hold
    exact Int32.toInt_inj.mp (by rw [show (-1 : Int32).toInt = -1 from by decide]; omega)
  have hfn : ¬ f = -1 := fun q => by
    have := hf.1
    rw [q, show (-1 : Int32).toInt = -1 from by decide] at this
    omega
  rw [if_pos ho, if_neg hfn] at hb
  have f1 : sI (wI S 98 i.toNatClampNeg f) 57 46 = f := (ti_sI_ne (by omega)).trans hfe.symm
  have g1 : Rl T0 (cl 145 0 :: w) S0 (c + 1) s T (wI S 98 i.toNatClampNeg f) := RlwP (d := 0) (e := -1) hR (TIwI hR.1 h1 (fun _ _ q => by cases q) (fun _ _ _ q => by cases q; exact In_w hf (by decide) (by decide)) (by omega)) h1 (by omega) (by rw [cl_a (by decide)]; exact fun _ z => z) (by omega) (by omega) (by have := hR.2.2.2.1.1; omega) hR.2.2.2.1.2.1 (by omega) (by omega)
  have hC1 : sC (wI S 98 i.toNatClampNeg f) = sC S := rfl
  have hF1 : ∀ j, sI (wI S 98 i.toNatClampNeg f) 57 j = sI S 57 j := fun j => ti_sI_ne (by omega)
  have hS1 : sS (wI S 98 i.toNatClampNeg f) = sS S := rfl
  generalize wI S 98 i.toNatClampNeg f = S1 at *
  refine r_gIs g1.1 hy rfl (p := 57) rfl (fun v _ ev => ?_)
  have evf : v = f := ev.trans f1
  subst evf
  obtain ⟨h57, -, rfl⟩ := sgp g1.1 hy (p := 57) rfl
  rw [ti_pI (κ := 23) ((Tx.K g1.1 h57 (by decide)).trans rfl), Option.bind_some]
  have i12 : In 0 60 (v + 1) := In_w (In_add hf (by decide : In 1 1 (1 : Int32)) (by decide) (by decide)) (by decide) (by decide)
  have t12 := toInt_add1 hf (by decide) (by decide)
  have hti : TI T (wI S1 57 46 (v + 1)) := TIwI g1.1 h57 (fun _ _ q => by cases q; exact i12) (fun _ _ _ q => by cases q) (by decide)
  obtain ⟨q1, q2, q3⟩ := fI57 S1 46 (v + 1)
  have hP : Ph (wI S1 57 46 (v + 1)) = Ph S1 - 2 := by
    unfold Ph
    rw [q2, q1 77 (by decide), q1 30 (by decide), q1 62 (by decide), q3 89 (by decide), q3 103 (by decide), t12, ← ev]
    omega
  have hG : Gf (wI S1 57 46 (v + 1)) = Gf S1 + 1 := by
    unfold Gf
    rw [q2, q1 39 (by decide), q3 98 (by decide), t12, ← ev]
    omega
  have hs := hR.2.2.2.1.2.2.2
  have hs2 := hR.2.2.2.1.2.2.1
  have g2 : Rl T0 (cl 100 46 :: cl 145 0 :: w) S0 c (s + 1) T (wI S1 57 46 (v + 1)) := RlwP (d := -2) (e := 1) g1 hti h57 (by decide) (fun _ z => z) (by omega) (by omega) (by omega) (by have := g1.2.2.2.1.2.1; omega) (by omega) (by omega)
  have hC2 : sC (wI S1 57 46 (v + 1)) = sC S1 := rfl
  have hS2 : sS (wI S1 57 46 (v + 1)) = sS S1 := rfl
  have hF2 : ∀ j, j ≠ 46 → sI (wI S1 57 46 (v + 1)) 57 j = sI S1 57 j := q1
  clear q1 q2 q3
  generalize wI S1 57 46 (v + 1) = S2 at *
  refine r_rv g2.1 hu rfl ?_
  refine r_bind (t_M_write g2.1 hu (by omega)) (fun S' hh => ?_)
  obtain ⟨gw, cw⟩ := hh
  refine h S' (Rlgf (s1 := s + 1) (Rlph (c1 := c + 1) (Rltrans (ss := 0) g2 gw (fun z hz => hw z ?_)) ?_ ?_) ?_ ?_) (fun j hj => ?_)
  · rcases List.mem_append.mp hz with hz | hz
    · rcases List.mem_cons.mp hz with hz | hz
      · rw [hz]; exact List.mem_cons_of_mem _ List.mem_cons_self
      · rcases List.mem_cons.mp hz with hz | hz
        · rw [hz]; exact List.mem_cons_self
        · exact List.mem_cons_of_mem _ (List.mem_cons_of_mem _ (List.mem_append_right _ hz))
    · exact List.mem_cons_of_mem _ (List.mem_cons_of_mem _ (List.mem_append_left _ hz))
  · rw [cw, hC2, hC1]; exact hC
  · have h1 := gw.2.2.2.1.2.2.1
    omega
  · have h1 := gw.2.2.2.1.2.1
    have h2 := hR.2.2.2.1.2.1
    omega
  · have h1 := gw.2.2.2.1.2.2.2
    omega
  · rw [gw.fI 57 j (by rw [h57]; decide) (by rw [h57]; exact nwr (by omega)), hF2 j (by omega), hF1]
theorem fam_lt {T : Nat → Nat} {S : AS} {i : Int32} (hT : TI T S) (hg : Gf S ≤ 0) (hi : In 0 59 i) (ho : In (-1) (-1) (sI S 98 i.toNatClampNeg)) : In 0 59 (sI S 57 46) := by
  obtain ⟨-, -, -, h3, h4⟩ := ent_le hT
  have hold : sI S 98 i.toNatClampNeg = -1 := by
    obtain ⟨z1, z2⟩ := ho
    exact Int32.toInt_inj.mp (by rw [show (-1 : Int32).toInt = -1 from by decide]; omega)
  have := cnm_pos (f := sI S 98) hold (n := 60) (nat_of hi (n := 60) (by decide))
  unfold Gf at hg
  have := h4.2
  have := h3.1
  exact ⟨by omega, by omega⟩
/-- the key that waits -/
theorem r_w62 {β : Type} {T0 T : Nat → Nat} {w w' : List Nat} {S0 S : AS} {c s : Nat} {x : Option Nat} {v : Int32} {F : AS → Option β} {Q : β → Prop} (hR : Rl T0 w S0 c s T S) (hx : Tx T 100 x) (hv : In (-1) 19 v) (hw : ∀ x ∈ cl 100 62 :: w, x ∈ w') (h : ∀ S', Rl T0 w' S0 (c + 1) s T S' → S' = wI S 57 62 v → Ho (F S') Q) : Ho ((pI S 23 62 x v).bind F) Q := by
  obtain ⟨h57, -, rfl⟩ := sgp hR.1 hx (p := 57) rfl
  rw [ti_pI (κ := 23) ((Tx.K hR.1 h57 (by decide)).trans rfl), Option.bind_some]
  have hti : TI T (wI S 57 62 v) := TIwI hR.1 h57 (fun _ _ q => by cases q; exact hv) (fun _ _ _ q => by cases q) (by decide)
  obtain ⟨q1, q2, q3⟩ := fI57 S 62 v
  refine h _ (RlwP (d := 1) (e := 0) hR hti h57 (by decide) hw ?_ ?_ (by have := hR.2.2.2.1.1; omega) hR.2.2.2.1.2.1 (by omega) (by omega)) rfl
  · unfold Ph
    rw [q1 30 (by decide), q1 77 (by decide), q1 46 (by decide), q2, q3 89 (by decide), q3 103 (by decide)]
    split <;> split <;> omega
  · unfold Gf
    rw [q1 46 (by decide), q1 39 (by decide), q3 98 (by decide)]
    omega
theorem r_sigw {β : Type} {T0 T : Nat → Nat} {w w' : List Nat} {S0 S : AS} {c s : Nat} {x y u : Option Nat} {a : Int32} {F : AS → Option β} {Q : β → Prop} (hR : Rl T0 w S0 c s T S) (hx : Tx T 100 x) (hy : Tx T 100 y) (hu : Tx T 100 u) (hold : In 0 19 (sI S 57 62)) (hph : Ph S ≤ 1190) (hw : ∀ x ∈ cl 100 62 :: (kw_wr ++ w), x ∈ w') (h : ∀ S', Rl T0 w' S0 c s T S' → Ho (F S') Q) : Ho ((pI S 23 62 x (-1 : Int32)).bind fun S1 => (gI S1 23 61 y).bind fun v => (kr_rv S1 23 u).bind fun _ => (f_M_write S1 u a v).bind F) Q := by
  obtain ⟨h57, -, rfl⟩ := sgp hR.1 hx (p := 57) rfl
  rw [ti_pI (κ := 23) ((Tx.K hR.1 h57 (by decide)).trans rfl), Option.bind_some]
  have hti : TI T (wI S 57 62 (-1)) := TIwI hR.1 h57 (fun _ _ q => by cases q; decide) (fun _ _ _ q => by cases q) (by decide)
  obtain ⟨q1, q2, q3⟩ := fI57 S 62 (-1)
  have ho : ¬ sI S 57 62 = -1 := fun q => by
    have := hold.1
    rw [q, show (-1 : Int32).toInt = -1 from by decide] at this
    omega
  have hP : Ph (wI S 57 62 (-1)) = Ph S - 1 := by
    unfold Ph
    rw [q1 30 (by decide), q1 77 (by decide), q1 46 (by decide), q2, q3 89 (by decide), q3 103 (by decide), if_pos rfl, if_neg ho]
    omega
  have hG : Gf (wI S 57 62 (-1)) = Gf S := by
    unfold Gf
    rw [q1 46 (by decide), q1 39 (by decide), q3 98 (by decide)]
  have g1 : Rl T0 (cl 100 62 :: w) S0 c s T (wI S 57 62 (-1)) := RlwP (d := -1) (e := 0) hR hti h57 (by decide) (fun _ z => z) (by omega) (by omega) hR.2.2.2.1.1 hR.2.2.2.1.2.1 (by omega) (by omega)
  have hC1 : sC (wI S 57 62 (-1)) = sC S := rfl
  clear q1 q2 q3 hG
  generalize wI S 57 62 (-1) = S1 at *
  refine r_gI g1.1 hy rfl (fun v _ => ?_)
  refine r_rv g1.1 hu rfl ?_
  refine r_bind (t_M_write g1.1 hu (by omega)) (fun S' hh => ?_)
  obtain ⟨gw, cw⟩ := hh
  refine h S' (Rlph (c1 := c + 1) (Rltrans (ss := 0) g1 gw (fun z hz => hw z ?_)) ?_ ?_)
  · rcases List.mem_append.mp hz with hz | hz
    · rcases List.mem_cons.mp hz with hz | hz
      · rw [hz]; exact List.mem_cons_self
      · exact List.mem_cons_of_mem _ (List.mem_append_right _ hz)
    · exact List.mem_cons_of_mem _ (List.mem_append_left _ hz)
  · rw [cw, hC1]; exact hR.2.2.2.1.1
  · have h1 := gw.2.2.2.1.2.2.1
    have h2 := hR.2.2.2.1.2.2.1
    omega
/-! plain writes on the only ones, with what they leave -/
theorem r_pIs {β : Type} {T0 T : Nat → Nat} {w w' : List Nat} {S0 S : AS} {c s j : Nat} {x : Option Nat} {v : Int32} {F : AS → Option β} {Q : β → Prop} (hR : Rl T0 w S0 c s T S) (hx : Tx T 100 x) (hv : ∀ lo hi, rf 100 j = some (lo, hi) → In lo hi v) (hw : ∀ x ∈ cl 100 j :: w, x ∈ w') (hp : ¬ phc 100 j) (h : ∀ S', Rl T0 w' S0 c s T S' → S' = wI S 57 j v → Ho (F S') Q) : Ho ((pI S 23 j x v).bind F) Q := by
  obtain ⟨h57, -, rfl⟩ := sgp hR.1 hx (p := 57) rfl
  rw [ti_pI (κ := 23) ((Tx.K hR.1 h57 (by decide)).trans rfl), Option.bind_some]
  exact h _ (RlwI hR (TIwI hR.1 h57 hv (fun _ _ _ q => by cases q) (by omega)) h57 (by omega) hw hp) rfl
theorem r_bIs {β : Type} {T0 T : Nat → Nat} {w w' : List Nat} {S0 S : AS} {c s τ n p : Nat} {m : Int} {x : Option Nat} {i v : Int32} {F : AS → Option β} {Q : β → Prop} (hR : Rl T0 w S0 c s T S) (hx : Tx T τ x) (hk : kd τ = 40) (hs : sg τ = some p) (hl : ln τ = some n) (hi : In 0 m i) (hm : m < n) (hv : ∀ n lo hi, ra τ = some (n, lo, hi) → In lo hi v) (hz : ∀ j, rf τ j = none) (hnl : ¬ (20 ≤ τ ∧ τ < 27)) (hw : ∀ x ∈ cl τ 0 :: w, x ∈ w') (hp : ∀ j, ¬ phc τ j) (h : ∀ S', Rl T0 w' S0 c s T S' → S' = wI S p i.toNatClampNeg v → Ho (F S') Q) : Ho ((bI S x i v).bind F) Q := by
  obtain ⟨h1, h2, rfl⟩ := sgp hR.1 hx hs
  rw [bI_t hR.1 h1 h2 hk hl hi hm, Option.bind_some]
  exact h _ (RlwI hR (TIwI hR.1 h1 (fun lo hi q => by rw [hz] at q; cases q) hv (fun q => hnl ⟨q.1, q.2.1⟩)) h1 (fun q => hnl ⟨q.1, q.2.1⟩) (by rw [cl_a (by omega)]; exact hw) (hp _)) rfl
theorem r_bZs {β : Type} {T0 T : Nat → Nat} {w w' : List Nat} {S0 S : AS} {c s τ n p : Nat} {m : Int} {x : Option Nat} {i v : Int32} {F : AS → Option β} {Q : β → Prop} (hR : Rl T0 w S0 c s T S) (hx : Tx T τ x) (hk : kd τ = 41) (hs : sg τ = some p) (hl : ln τ = some n) (hi : In 0 m i) (hm : m < n) (h01 : In 0 1 v) (hv : ∀ n lo hi, ra τ = some (n, lo, hi) → In lo hi v) (hz : ∀ j, rf τ j = none) (hnl : ¬ (20 ≤ τ ∧ τ < 27)) (hw : ∀ x ∈ cl τ 0 :: w, x ∈ w') (hp : ∀ j, ¬ phc τ j) (h : ∀ S', Rl T0 w' S0 c s T S' → S' = wI S p i.toNatClampNeg v → Ho (F S') Q) : Ho ((bZ S x i v).bind F) Q := by
  obtain ⟨h1, h2, rfl⟩ := sgp hR.1 hx hs
  rw [bZ_s hR.1 h1 h2 hk hl hi hm h01, Option.bind_some]
  exact h _ (RlwI hR (TIwI hR.1 h1 (fun lo hi q => by rw [hz] at q; cases q) hv (fun q => hnl ⟨q.1, q.2.1⟩)) h1 (fun q => hnl ⟨q.1, q.2.1⟩) (by rw [cl_a (by omega)]; exact hw) (hp _)) rfl
theorem In_ne {S S' : AS} {p i q j : Nat} {v : Int32} {lo hi : Int} (e : S' = wI S q j v) (h : ¬ (p = q ∧ i = j)) (g : In lo hi (sI S p i)) : In lo hi (sI S' p i) := by
  rw [e, ti_sI_ne h]
  exact g
theorem In_eqw {S S' : AS} {q j : Nat} {v : Int32} {lo hi : Int} (e : S' = wI S q j v) (g : In lo hi v) : In lo hi (sI S' q j) := by
  rw [e, ti_sI_eq]
  exact g
theorem In_fr {T : Nat → Nat} {w : List Nat} {S S' : AS} {c s τ p j i : Nat} {lo hi : Int} {x : Option Nat} (hR : Rl T w S c s T S') (hx : Tx T 100 x) (hf : ft 100 j = some τ) (hs : sg τ = some p) (hk : 40 ≤ kd τ) (hw : ¬ cl τ 0 ∈ w) (g : In lo hi (sI S p i)) : In lo hi (sI S' p i) := by
  obtain ⟨e1, e2⟩ := sg_p hR.1 hx hf hs
  rw [hR.fI p i (by rw [e1]; exact e2) (by rw [e1, cl_a hk]; exact hw)]
  exact g
theorem In_fr57 {T : Nat → Nat} {w : List Nat} {S S' : AS} {c s i : Nat} {lo hi : Int} {x : Option Nat} (hR : Rl T w S c s T S') (hx : Tx T 100 x) (hw : ¬ cl 100 i ∈ w) (g : In lo hi (sI S 57 i)) : In lo hi (sI S' 57 i) := by
  obtain ⟨e1, e2, -⟩ := sgp hR.1 hx (p := 57) rfl
  rw [hR.fI 57 i (by rw [e1]; exact e2) (by rw [e1]; exact hw)]
  exact g
theorem mod8 : ∀ n, n < 96 → In 0 7 (Int32.ofNat n - Int32.ofNat n / (8 : Int32) * (8 : Int32)) ∧ In 0 11 (Int32.ofNat n / (8 : Int32)) := by decide +kernel
theorem In_mod8 {v : Int32} (h : In 0 95 v) : In 0 7 (v - v / (8 : Int32) * (8 : Int32)) := by
  obtain ⟨a, ha, rfl⟩ := ofNat_In (n := 95) h
  exact (mod8 a ha).1
theorem In_div8 {v : Int32} (h : In 0 95 v) : In 0 11 (v / (8 : Int32)) := by
  obtain ⟨a, ha, rfl⟩ := ofNat_In (n := 95) h
  exact (mod8 a ha).2
theorem shl2 : ∀ n, n < 3 → In 1 4 ((1 : Int32) <<< (Int32.ofNat n &&& 31)) := by decide +kernel
theorem In_shl2 {v : Int32} (h : In 0 2 v) : In 1 4 ((1 : Int32) <<< (v &&& 31)) := by
  obtain ⟨a, ha, rfl⟩ := ofNat_In (n := 2) h
  exact shl2 a ha
end
