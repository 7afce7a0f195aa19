/-! ===== one rule for each operation: what is asked, what is left ===== -/
def Ho {β : Type} (x : Option β) (Q : β → Prop) : Prop := ∃ b, x = some b ∧ Q b
theorem r_some {β : Type} {b : β} {Q : β → Prop} (h : Q b) : Ho (some b) Q := ⟨b, rfl, h⟩
theorem r_val {α β : Type} {v : α} {F : α → Option β} {Q : β → Prop} (h : Ho (F v) Q) : Ho ((some v).bind F) Q := h
theorem r_if {β : Type} {c : Prop} [Decidable c] {a b : Option β} {Q : β → Prop} (h1 : c → Ho a Q) (h2 : ¬ c → Ho b Q) : Ho (if c then a else b) Q := by
  by_cases h : c
  · rw [if_pos h]; exact h1 h
  · rw [if_neg h]; exact h2 h
theorem r_ifT {β : Type} {c : Prop} [Decidable c] {a b : Option β} {Q : β → Prop} (h : c) (h1 : Ho a Q) : Ho (if c then a else b) Q := by rw [if_pos h]; exact h1
theorem r_ifF {β : Type} {c : Prop} [Decidable c] {a b : Option β} {Q : β → Prop} (h : ¬ c) (h1 : Ho b Q) : Ho (if c then a else b) Q := by rw [if_neg h]; exact h1
theorem r_bind {α β : Type} {x : Option α} {F : α → Option β} {P : α → Prop} {Q : β → Prop} (hc : Ho x P) (h : ∀ b, P b → Ho (F b) Q) : Ho (x.bind F) Q := by
  obtain ⟨b, rfl, hp⟩ := hc
  exact h b hp
theorem r_b2 {α β : Type} {x : Option (α × AS)} {F : α → AS → Option β} {P : α × AS → Prop} {Q : β → Prop} (hc : Ho x P) (h : ∀ v S', P (v, S') → Ho (F v S') Q) : Ho (kr_b2 x F) Q := by
  obtain ⟨⟨v, S'⟩, rfl, hp⟩ := hc
  exact h v S' hp
theorem r_P {α β : Type} {S : AS} {x : Option (α × AS)} {F : α → AS → Option β} {P : α → Prop} {Q : β → Prop} (hc : Ho x (fun q => q.2 = S ∧ P q.1)) (h : ∀ v, P v → Ho (F v S) Q) : Ho (kr_b2 x F) Q := by
  obtain ⟨⟨v, S'⟩, rfl, e, hp⟩ := hc
  cases e
  exact h v hp
theorem r_bx {α β : Type} {x : Option ((α ⊕ String) × AS)} {F : α → AS → Option ((β ⊕ String) × AS)} {P : (α ⊕ String) × AS → Prop} {Q : (β ⊕ String) × AS → Prop} (hc : Ho x P) (h : ∀ v S', P (.inl v, S') → Ho (F v S') Q) (he : ∀ e S', P (.inr e, S') → Q (.inr e, S')) : Ho (kr_bx x F) Q := by
  obtain ⟨⟨v, S'⟩, rfl, hp⟩ := hc
  cases v with
  | inl v => exact h v S' hp
  | inr e => exact ⟨_, rfl, he e S' hp⟩
/-- pure, or a throw -/
def PT {α : Type} (S : AS) (es : List String) (P : α → Prop) : (α ⊕ String) × AS → Prop := fun q => (∃ v, q.1 = .inl v ∧ q.2 = S ∧ P v) ∨ (∃ e, q.1 = .inr e ∧ q.2 = wX S ∧ e ∈ es)
theorem r_T {α β : Type} {S : AS} {es : List String} {x : Option ((α ⊕ String) × AS)} {F : α → AS → Option ((β ⊕ String) × AS)} {P : α → Prop} {Q : (β ⊕ String) × AS → Prop} (hc : Ho x (PT S es P)) (h : ∀ v, P v → Ho (F v S) Q) (he : ∀ e, e ∈ es → Q (.inr e, wX S)) : Ho (kr_bx x F) Q := by
  obtain ⟨⟨v, S'⟩, rfl, hp⟩ := hc
  rcases hp with ⟨v', e1, e2, e3⟩ | ⟨e, e1, e2, e3⟩
  · cases e1
    cases e2
    exact h v' e3
  · cases e1
    cases e2
    exact ⟨_, rfl, he e e3⟩
/-- changes, or a throw -/
def PX {α : Type} (T : Nat → Nat) (w : List Nat) (S : AS) (c s : Nat) (es : List String) (P : α → Prop) : (α ⊕ String) × AS → Prop := fun q => Rl T w S c s T q.2 ∧ ((∃ v, q.1 = .inl v ∧ P v) ∨ (∃ e, q.1 = .inr e ∧ e ∈ es))
def PY {α : Type} (T : Nat → Nat) (w : List Nat) (S : AS) (c s : Nat) (es : List String) (P : α → (Nat → Nat) → Prop) : (α ⊕ String) × AS → Prop := fun q => ∃ T', Rl T w S c s T' q.2 ∧ ((∃ v, q.1 = .inl v ∧ P v T') ∨ (∃ e, q.1 = .inr e ∧ e ∈ es))
theorem r_X {α β : Type} {T : Nat → Nat} {w : List Nat} {S : AS} {c s : Nat} {es : List String} {x : Option ((α ⊕ String) × AS)} {F : α → AS → Option ((β ⊕ String) × AS)} {P : α → Prop} {Q : (β ⊕ String) × AS → Prop} (hc : Ho x (PX T w S c s es P)) (h : ∀ v S', Rl T w S c s T S' → P v → Ho (F v S') Q) (he : ∀ e S', Rl T w S c s T S' → e ∈ es → Q (.inr e, S')) : Ho (kr_bx x F) Q := by
  obtain ⟨⟨v, S'⟩, rfl, h1, h2⟩ := hc
  rcases h2 with ⟨v', e1, e3⟩ | ⟨e, e1, e3⟩
  · cases e1
    exact h v' S' h1 e3
  · cases e1
    exact ⟨_, rfl, he e S' h1 e3⟩
theorem r_Y {α β : Type} {T : Nat → Nat} {w : List Nat} {S : AS} {c s : Nat} {es : List String} {x : Option ((α ⊕ String) × AS)} {F : α → AS → Option ((β ⊕ String) × AS)} {P : α → (Nat → Nat) → Prop} {Q : (β ⊕ String) × AS → Prop} (hc : Ho x (PY T w S c s es P)) (h : ∀ v T' S', Rl T w S c s T' S' → P v T' → Ho (F v S') Q) (he : ∀ e T' S', Rl T w S c s T' S' → e ∈ es → Q (.inr e, S')) : Ho (kr_bx x F) Q := by
  obtain ⟨⟨v, S'⟩, rfl, T', h1, h2⟩ := hc
  rcases h2 with ⟨v', e1, e3⟩ | ⟨e, e1, e3⟩
  · cases e1
    exact h v' T' S' h1 e3
  · cases e1
    exact ⟨_, rfl, he e T' S' h1 e3⟩
theorem Tx.K {T : Nat → Nat} {S : AS} {τ k : Nat} (h : TI T S) (hk : T k = τ) (h0 : τ ≠ 0) : sK S k = kd τ := by
  rw [← hk]
  exact (h.t1 k (by rw [hk]; exact h0)).2.1
theorem r_gI {β : Type} {T : Nat → Nat} {S : AS} {τ κ j : Nat} {x : Option Nat} {F : Int32 → Option β} {Q : β → Prop} (hT : TI T S) (hx : Tx T τ x) (hk : kd τ = κ) (h : ∀ v, (∀ lo hi, rf τ j = some (lo, hi) → In lo hi v) → Ho (F v) Q) : Ho ((gI S κ j x).bind F) Q := by
  obtain ⟨k, rfl, h1, h2⟩ := hx
  unfold gI
  rw [Option.bind_some, if_pos ((Tx.K hT h1 h2).trans hk)]
  exact h _ (fun lo hi e => hT.t4 k j lo hi (by rw [h1]; exact e))
theorem r_gR {β : Type} {T : Nat → Nat} {S : AS} {τ κ j τ' : Nat} {x : Option Nat} {F : Option Nat → Option β} {Q : β → Prop} (hT : TI T S) (hx : Tx T τ x) (hk : kd τ = κ) (hf : ft τ j = some τ') (h : ∀ v, Tx T τ' v → Ho (F v) Q) : Ho ((gR S κ j x).bind F) Q := by
  obtain ⟨k, rfl, h1, h2⟩ := hx
  unfold gR
  rw [Option.bind_some, if_pos ((Tx.K hT h1 h2).trans hk)]
  exact h _ (hT.t2 k j τ' (by rw [h1]; exact hf))
theorem r_gRn {β : Type} {T : Nat → Nat} {S : AS} {τ κ j τ' : Nat} {x : Option Nat} {F : Option Nat → Option β} {Q : β → Prop} (hT : TI T S) (hx : Tx T τ x) (hk : kd τ = κ) (hf : fn τ j = some τ') (h0 : Ho (F none) Q) (h : ∀ v, Tx T τ' v → Ho (F v) Q) : Ho ((gR S κ j x).bind F) Q := by
  obtain ⟨k, rfl, h1, h2⟩ := hx
  unfold gR
  rw [Option.bind_some, if_pos ((Tx.K hT h1 h2).trans hk)]
  rcases hT.t3 k j τ' (by rw [h1]; exact hf) with e | e
  · rw [Option.bind_some, e]; exact h0
  · exact h _ e
theorem r_rv {β : Type} {T : Nat → Nat} {S : AS} {τ κ : Nat} {x : Option Nat} {F : Unit → Option β} {Q : β → Prop} (hT : TI T S) (hx : Tx T τ x) (hk : kd τ = κ) (h : Ho (F ()) Q) : Ho ((kr_rv S κ x).bind F) Q := by
  obtain ⟨k, rfl, h1, h2⟩ := hx
  unfold kr_rv
  rw [Option.bind_some, if_pos ((Tx.K hT h1 h2).trans hk)]
  exact h
theorem r_cc {β : Type} {T : Nat → Nat} {S : AS} {τ κ : Nat} {x : Option Nat} {F : Unit → Option β} {Q : β → Prop} (hT : TI T S) (hx : Tx T τ x) (hk : kd τ = κ) (h : Ho (F ()) Q) : Ho ((kr_cc S κ x).bind F) Q := by
  obtain ⟨k, rfl, h1, h2⟩ := hx
  unfold kr_cc
  rw [if_pos (by rw [Option.all_some, (Tx.K hT h1 h2).trans hk]; exact beq_self_eq_true _)]
  exact h
theorem r_ac {β : Type} {T : Nat → Nat} {S : AS} {τ : Nat} {x : Option Nat} {F : Unit → Option β} {Q : β → Prop} (hT : TI T S) (hx : Tx T τ x) (hk : 10 ≤ kd τ) (h : Ho (F ()) Q) (hr : kd τ < 39 ∨ (40 ≤ kd τ ∧ kd τ < 46) := by decide) : Ho ((kr_ac S x).bind F) Q := by
  obtain ⟨k, rfl, h1, h2⟩ := hx
  have e := Tx.K hT h1 h2
  have h4 : 4 ≤ k := by
    obtain ⟨b0, b1, b2, b3, b4, -⟩ := hT.t8
    refine Nat.not_lt.mp (fun q => ?_)
    match k, q with
    | 0, _ => omega
    | 1, _ => omega
    | 2, _ => omega
    | 3, _ => omega
  unfold kr_ac
  rw [if_pos (by
    rw [Option.all_some, e]
    have a1 : (kd τ != 0) = true := by
      rw [bne_iff_ne]
      omega
    rw [a1, decide_eq_true h4, Bool.or_true, decide_eq_true hr]
    rfl)]
  exact h
theorem r_acN {β : Type} {S : AS} {F : Unit → Option β} {Q : β → Prop} (h : Ho (F ()) Q) : Ho ((kr_ac S none).bind F) Q := h
theorem In01 {v : Int32} (h : In 0 1 v) : v = 0 ∨ v = 1 := by
  obtain ⟨h1, h2⟩ := h
  have e : v.toInt = 0 ∨ v.toInt = 1 := by omega
  rcases e with e | e
  · exact Or.inl (Int32.toInt_inj.mp (by rw [e]; decide))
  · exact Or.inr (Int32.toInt_inj.mp (by rw [e]; decide))
theorem r_z {β : Type} {v : Int32} {F : Unit → Option β} {Q : β → Prop} (hv : In 0 1 v) (h : Ho (F ()) Q) : Ho ((kr_z v).bind F) Q := by
  unfold kr_z
  rw [if_pos (In01 hv)]
  exact h
theorem nat_of {i : Int32} {m : Int} {n : Nat} (hi : In 0 m i) (hm : m < n) : i.toNatClampNeg < n := by
  obtain ⟨h1, h2⟩ := hi
  have e : (i.toNatClampNeg : Int) = i.toInt := by
    rw [← Int32.toNat_toInt]
    omega
  omega
theorem r_aI {β : Type} {T : Nat → Nat} {S : AS} {τ κ n : Nat} {m : Int} {x : Option Nat} {i : Int32} {F : Int32 → Option β} {Q : β → Prop} (hT : TI T S) (hx : Tx T τ x) (hk : kd τ = κ) (hl : ln τ = some n) (hi : In 0 m i) (hm : m < n) (h : ∀ v, (∀ lo hi, ra τ = some (n, lo, hi) → In lo hi v) → Ho (F v) Q) : Ho ((aI S κ x i).bind F) Q := by
  obtain ⟨k, rfl, h1, h2⟩ := hx
  have e := (hT.t1 k (by rw [h1]; exact h2)).2.2.2 n (by rw [h1]; exact hl)
  unfold aI
  rw [Option.bind_some, if_pos ⟨(Tx.K hT h1 h2).trans hk, hi.1, by rw [e]; exact Int.lt_of_le_of_lt hi.2 hm⟩]
  exact h _ (fun lo hi' q => hT.t5 k _ n lo hi' (by rw [h1]; exact q) (nat_of hi hm))
theorem r_aR {β : Type} {T : Nat → Nat} {S : AS} {τ κ n τ' : Nat} {m : Int} {x : Option Nat} {i : Int32} {F : Option Nat → Option β} {Q : β → Prop} (hT : TI T S) (hx : Tx T τ x) (hk : kd τ = κ) (hl : ln τ = some n) (hi : In 0 m i) (hm : m < n) (hf : ∀ j, j < n → ft τ j = some τ') (h : ∀ v, Tx T τ' v → Ho (F v) Q) : Ho ((aR S κ x i).bind F) Q := by
  obtain ⟨k, rfl, h1, h2⟩ := hx
  have e := (hT.t1 k (by rw [h1]; exact h2)).2.2.2 n (by rw [h1]; exact hl)
  unfold aR
  rw [Option.bind_some, if_pos ⟨(Tx.K hT h1 h2).trans hk, hi.1, by rw [e]; exact Int.lt_of_le_of_lt hi.2 hm⟩]
  exact h _ (hT.t2 k _ τ' (by rw [h1]; exact hf _ (nat_of hi hm)))
theorem r_aN {β : Type} {T : Nat → Nat} {S : AS} {τ n : Nat} {x : Option Nat} {F : Int32 → Option β} {Q : β → Prop} (hT : TI T S) (hx : Tx T τ x) (hk : 40 ≤ kd τ) (hl : ln τ = some n) (hn : n < 100000) (h : ∀ v, In n n v → Ho (F v) Q) (hr : kd τ < 46 := by decide) : Ho ((aN S x).bind F) Q := by
  obtain ⟨k, rfl, h1, h2⟩ := hx
  have e := (hT.t1 k (by rw [h1]; exact h2)).2.2.2 n (by rw [h1]; exact hl)
  unfold aN
  rw [Option.bind_some, if_pos (Or.inl (by rw [Tx.K hT h1 h2]; exact ⟨hk, hr⟩)), e]
  have : (Int32.ofNat n).toInt = n := Int32.toInt_ofNat_of_lt (by omega)
  exact h _ (by show (n : Int) ≤ _ ∧ _ ≤ (n : Int); omega)
theorem cl_a {τ : Nat} (h : 40 ≤ kd τ) (j : Nat) : cl τ j = cl τ 0 := by
  unfold cl
  rw [if_neg (by omega), if_neg (by omega)]
theorem r_pI {β : Type} {T0 T : Nat → Nat} {w w' : List Nat} {S0 S : AS} {c s τ κ j : Nat} {x : Option Nat} {v : Int32} {F : AS → Option β} {Q : β → Prop} (hR : Rl T0 w S0 c s T S) (hx : Tx T τ x) (hk : kd τ = κ) (ho : kd τ < 40) (hv : ∀ lo hi, rf τ j = some (lo, hi) → In lo hi v) (hz : ra τ = none) (hl : ¬ (20 ≤ τ ∧ τ < 27 ∧ j = 2)) (hw : ∀ x ∈ cl τ j :: w, x ∈ w') (hp : ¬ phc τ j) (h : ∀ S', Rl T0 w' S0 c s T S' → Ho (F S') Q) : Ho ((pI S κ j x v).bind F) Q := by
  obtain ⟨k, rfl, h1, h2⟩ := hx
  unfold pI
  rw [Option.bind_some, if_pos ((Tx.K hR.1 h1 h2).trans hk)]
  exact h _ (RlwI hR (TIwI hR.1 h1 hv (fun n lo hi q => by rw [hz] at q; cases q) hl) h1 hl hw hp)
theorem r_pZ {β : Type} {T0 T : Nat → Nat} {w w' : List Nat} {S0 S : AS} {c s τ κ j : Nat} {x : Option Nat} {v : Int32} {F : AS → Option β} {Q : β → Prop} (hR : Rl T0 w S0 c s T S) (hx : Tx T τ x) (hk : kd τ = κ) (ho : kd τ < 40) (h01 : In 0 1 v) (hv : ∀ lo hi, rf τ j = some (lo, hi) → In lo hi v) (hz : ra τ = none) (hl : ¬ (20 ≤ τ ∧ τ < 27 ∧ j = 2)) (hw : ∀ x ∈ cl τ j :: w, x ∈ w') (hp : ¬ phc τ j) (h : ∀ S', Rl T0 w' S0 c s T S' → Ho (F S') Q) : Ho ((pZ S κ j x v).bind F) Q := by
  obtain ⟨k, rfl, h1, h2⟩ := hx
  unfold pZ
  rw [Option.bind_some, if_pos ⟨(Tx.K hR.1 h1 h2).trans hk, In01 h01⟩]
  exact h _ (RlwI hR (TIwI hR.1 h1 hv (fun n lo hi q => by rw [hz] at q; cases q) hl) h1 hl hw hp)
theorem r_bI {β : Type} {T0 T : Nat → Nat} {w w' : List Nat} {S0 S : AS} {c s τ n κ : Nat} {m : Int} {x : Option Nat} {i v : Int32} {F : AS → Option β} {Q : β → Prop} (hR : Rl T0 w S0 c s T S) (hx : Tx T τ x) (hk : kd τ = κ) (hl : ln τ = some n) (hi : In 0 m i) (hm : m < n) (hv : ∀ n lo hi, ra τ = some (n, lo, hi) → In lo hi v) (hz : ∀ j, rf τ j = none) (hnl : ¬ (20 ≤ τ ∧ τ < 27)) (hw : ∀ x ∈ cl τ 0 :: w, x ∈ w') (hp : ∀ j, ¬ phc τ j) (h : ∀ S', Rl T0 w' S0 c s T S' → Ho (F S') Q) (h40 : 40 ≤ kd τ := by decide) : Ho ((bI S x i v κ).bind F) Q := by
  obtain ⟨k, rfl, h1, h2⟩ := hx
  have e := (hR.1.t1 k (by rw [h1]; exact h2)).2.2.2 n (by rw [h1]; exact hl)
  unfold bI
  rw [Option.bind_some, if_pos ⟨(Tx.K hR.1 h1 h2).trans hk, hi.1, by rw [e]; exact Int.lt_of_le_of_lt hi.2 hm⟩]
  exact h _ (RlwI hR (TIwI hR.1 h1 (fun lo hi q => by rw [hz] at q; cases q) hv (fun q => hnl ⟨q.1, q.2.1⟩)) h1 (fun q => hnl ⟨q.1, q.2.1⟩) (by rw [cl_a h40]; exact hw) (hp _))
theorem r_bZ {β : Type} {T0 T : Nat → Nat} {w w' : List Nat} {S0 S : AS} {c s τ n κ : Nat} {m : Int} {x : Option Nat} {i v : Int32} {F : AS → Option β} {Q : β → Prop} (hR : Rl T0 w S0 c s T S) (hx : Tx T τ x) (hk : kd τ = κ) (hl : ln τ = some n) (hi : In 0 m i) (hm : m < n) (h01 : In 0 1 v) (hv : ∀ n lo hi, ra τ = some (n, lo, hi) → In lo hi v) (hz : ∀ j, rf τ j = none) (hnl : ¬ (20 ≤ τ ∧ τ < 27)) (hw : ∀ x ∈ cl τ 0 :: w, x ∈ w') (hp : ∀ j, ¬ phc τ j) (h : ∀ S', Rl T0 w' S0 c s T S' → Ho (F S') Q) (h40 : 40 ≤ kd τ := by decide) : Ho ((bZ S x i v κ).bind F) Q := by
  obtain ⟨k, rfl, h1, h2⟩ := hx
  have e := (hR.1.t1 k (by rw [h1]; exact h2)).2.2.2 n (by rw [h1]; exact hl)
  unfold bZ
  rw [Option.bind_some, if_pos ⟨(Tx.K hR.1 h1 h2).trans hk, ⟨hi.1, by rw [e]; exact Int.lt_of_le_of_lt hi.2 hm⟩, In01 h01⟩]
  exact h _ (RlwI hR (TIwI hR.1 h1 (fun lo hi q => by rw [hz] at q; cases q) hv (fun q => hnl ⟨q.1, q.2.1⟩)) h1 (fun q => hnl ⟨q.1, q.2.1⟩) (by rw [cl_a h40]; exact hw) (hp _))
theorem r_pR {β : Type} {T0 T : Nat → Nat} {w w' : List Nat} {S0 S : AS} {c s τ κ j τ' : Nat} {x v : Option Nat} {F : AS → Option β} {Q : β → Prop} (hR : Rl T0 w S0 c s T S) (hx : Tx T τ x) (hk : kd τ = κ) (hv : Tx T τ' v) (hf : ft τ j = some τ') (hn : fn τ j = none) (h3 : ¬ (20 ≤ τ ∧ τ < 27)) (h4 : ¬ (30 ≤ τ ∧ τ < 37)) (h10 : 10 ≤ kd τ) (hw : ∀ x ∈ cr τ j :: w, x ∈ w') (h : ∀ S', Rl T0 w' S0 c s T S' → Ho (F S') Q) : Ho ((pR S κ j x v).bind F) Q := by
  obtain ⟨k, rfl, h1, h2⟩ := hx
  have hp : kr_pb S v = true := by
    obtain ⟨a, rfl, g1, g2⟩ := hv
    have := hR.1.t1 a (by rw [g1]; exact g2)
    unfold kr_pb
    rw [Option.all_some, this.2.1, bne_iff_ne]
    exact this.2.2.1
  have e := Tx.K hR.1 h1 h2
  have h0 : k ≠ 0 := by
    rintro rfl
    have := hR.1.t8.2.1
    omega
  unfold pR
  rw [Option.bind_some, if_pos ⟨e.trans hk, hp⟩]
  exact h _ (RlwR hR (TIwR hR.1 h1 (fun t q => by rw [hf] at q; cases q; exact hv) (fun t q => by rw [hn] at q; cases q) h3 h4 h0) h1 hw)
/-! ===== ranges ===== -/
theorem In_top (v : Int32) : In (-2147483648) 2147483647 v := ⟨Int32.le_toInt v, by have := Int32.toInt_lt v; omega⟩
theorem In_w {a b c d : Int} {v : Int32} (h : In a b v) (h1 : c ≤ a) (h2 : b ≤ d) : In c d v := ⟨Int.le_trans h1 h.1, Int.le_trans h.2 h2⟩
theorem bm {z : Int} (h1 : -2147483648 ≤ z) (h2 : z ≤ 2147483647) : z.bmod (2 ^ 32) = z := by
  rw [Int.bmod_def]
  split <;> omega
theorem In_add {a b c d : Int} {x y : Int32} (h : In a b x) (g : In c d y) (h1 : -2147483648 ≤ a + c) (h2 : b + d ≤ 2147483647) : In (a + c) (b + d) (x + y) := by
  obtain ⟨p1, p2⟩ := h
  obtain ⟨q1, q2⟩ := g
  have e : (x + y).toInt = x.toInt + y.toInt := by
    rw [Int32.toInt_add]
    exact bm (by omega) (by omega)
  show _ ≤ (x + y).toInt ∧ (x + y).toInt ≤ _
  omega
theorem In_sub {a b c d : Int} {x y : Int32} (h : In a b x) (g : In c d y) (h1 : -2147483648 ≤ a - d) (h2 : b - c ≤ 2147483647) : In (a - d) (b - c) (x - y) := by
  obtain ⟨p1, p2⟩ := h
  obtain ⟨q1, q2⟩ := g
  have e : (x - y).toInt = x.toInt - y.toInt := by
    rw [Int32.toInt_sub]
    exact bm (by omega) (by omega)
  show _ ≤ (x - y).toInt ∧ (x - y).toInt ≤ _
  omega
theorem toInt_add1 {a b : Int} {x : Int32} (h : In a b x) (h1 : -2147483648 ≤ a) (h2 : b < 2147483647) : (x + (1 : Int32)).toInt = x.toInt + 1 := by
  obtain ⟨p1, p2⟩ := h
  rw [Int32.toInt_add]
  exact bm (by rw [show (1 : Int32).toInt = 1 from by decide]; omega) (by rw [show (1 : Int32).toInt = 1 from by decide]; omega)
theorem In_mulc {a b k : Int} {x y : Int32} (h : In a b x) (hk : y.toInt = k) (h0 : 0 ≤ k) (h1 : -2147483648 ≤ k * a) (h2 : k * b ≤ 2147483647) : In (k * a) (k * b) (y * x) := by
  obtain ⟨p1, p2⟩ := h
  have m1 : k * a ≤ k * x.toInt := Int.mul_le_mul_of_nonneg_left p1 h0
  have m2 : k * x.toInt ≤ k * b := Int.mul_le_mul_of_nonneg_left p2 h0
  have e : (y * x).toInt = k * x.toInt := by
    rw [Int32.toInt_mul, hk]
    exact bm (by omega) (by omega)
  show _ ≤ (y * x).toInt ∧ (y * x).toInt ≤ _
  omega
theorem In_lt1 {a b c d : Int} {x y : Int32} (q : x < y) (h : In a b x) (g : In c d y) : In a (d - 1) x := by
  have := Int32.lt_iff_toInt_lt.mp q
  exact ⟨h.1, by have := g.2; omega⟩
theorem In_lt2 {a b c d : Int} {x y : Int32} (q : x < y) (h : In a b x) (g : In c d y) : In (a + 1) d y := by
  have := Int32.lt_iff_toInt_lt.mp q
  exact ⟨by have := h.1; omega, g.2⟩
theorem In_le1 {a b c d : Int} {x y : Int32} (q : x ≤ y) (h : In a b x) (g : In c d y) : In a d x := by
  have := Int32.le_iff_toInt_le.mp q
  exact ⟨h.1, by have := g.2; omega⟩
theorem In_le2 {a b c d : Int} {x y : Int32} (q : x ≤ y) (h : In a b x) (g : In c d y) : In a d y := by
  have := Int32.le_iff_toInt_le.mp q
  exact ⟨by have := h.1; omega, g.2⟩
theorem In_eq {c d : Int} {x y : Int32} (q : x = y) (g : In c d y) : In c d x := by rw [q]; exact g
theorem In_neL {a b : Int} {x y : Int32} (q : ¬ x = y) (h : In a b x) (g : y.toInt = a) : In (a + 1) b x := by
  have : ¬ x.toInt = y.toInt := fun z => q (Int32.toInt_inj.mp z)
  exact ⟨by have := h.1; omega, h.2⟩
theorem In_neR {a b : Int} {x y : Int32} (q : ¬ x = y) (h : In a b x) (g : y.toInt = b) : In a (b - 1) x := by
  have : ¬ x.toInt = y.toInt := fun z => q (Int32.toInt_inj.mp z)
  exact ⟨h.1, by have := h.2; omega⟩
theorem In_glb {a b c d : Int} {x : Int32} (h : In a b x) (g : In c d x) : In (max a c) (min b d) x := by
  obtain ⟨p1, p2⟩ := h
  obtain ⟨q1, q2⟩ := g
  exact ⟨by omega, by omega⟩
