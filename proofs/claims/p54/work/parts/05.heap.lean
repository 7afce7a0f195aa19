/-! ===== reads and writes of the state: none where the machine would throw ===== -/
def gI (S : AS) (κ j : Nat) (x : Option Nat) : Option Int32 := x.bind fun k => if sK S k = κ then some (sI S k j) else none
def gR (S : AS) (κ j : Nat) (x : Option Nat) : Option (Option Nat) := x.bind fun k => if sK S k = κ then some (sR S k j) else none
def pI (S : AS) (κ j : Nat) (x : Option Nat) (v : Int32) : Option AS := x.bind fun k => if sK S k = κ then some (wI S k j v) else none
def pZ (S : AS) (κ j : Nat) (x : Option Nat) (v : Int32) : Option AS := x.bind fun k => if sK S k = κ ∧ (v = 0 ∨ v = 1) then some (wI S k j v) else none
/-- a place that is there, or none -/
def kr_pb (S : AS) (v : Option Nat) : Bool := v.all fun a => sK S a != 0
def pR (S : AS) (κ j : Nat) (x : Option Nat) (v : Option Nat) : Option AS := x.bind fun k => if sK S k = κ ∧ kr_pb S v = true then some (wR S k j v) else none
/-- arrays: 40 of ints, 41 of booleans (2 the weights), 42 of longs, 43 to 45 of references -/
def aI (S : AS) (κ : Nat) (x : Option Nat) (i : Int32) : Option Int32 := x.bind fun k => if sK S k = κ ∧ 0 ≤ i.toInt ∧ i.toInt < (sL S k : Int) then some (sI S k i.toNatClampNeg) else none
def aR (S : AS) (κ : Nat) (x : Option Nat) (i : Int32) : Option (Option Nat) := x.bind fun k => if sK S k = κ ∧ 0 ≤ i.toInt ∧ i.toInt < (sL S k : Int) then some (sR S k i.toNatClampNeg) else none
def aJ (S : AS) (x : Option Nat) (i : Int32) : Option Int64 := x.bind fun k => if sK S k = 42 ∧ 0 ≤ i.toInt ∧ i.toInt < (sL S k : Int) then some (sJ S k i.toNatClampNeg) else none
def bI (S : AS) (x : Option Nat) (i : Int32) (v : Int32) (κ : Nat := 40) : Option AS := x.bind fun k => if sK S k = κ ∧ 0 ≤ i.toInt ∧ i.toInt < (sL S k : Int) then some (wI S k i.toNatClampNeg v) else none
def bZ (S : AS) (x : Option Nat) (i : Int32) (v : Int32) (κ : Nat := 41) : Option AS := x.bind fun k => if sK S k = κ ∧ (0 ≤ i.toInt ∧ i.toInt < (sL S k : Int)) ∧ (v = 0 ∨ v = 1) then some (wI S k i.toNatClampNeg v) else none
def bJ (S : AS) (x : Option Nat) (i : Int32) (v : Int64) : Option AS := x.bind fun k => if sK S k = 42 ∧ 0 ≤ i.toInt ∧ i.toInt < (sL S k : Int) then some (wJ S k i.toNatClampNeg v) else none
/-- an array of references of kind κ takes an object of a kind from lo to hi -/
def bR (S : AS) (κ lo hi : Nat) (x : Option Nat) (i : Int32) (v : Option Nat) : Option AS := x.bind fun k => v.bind fun a => if sK S k = κ ∧ (0 ≤ i.toInt ∧ i.toInt < (sL S k : Int)) ∧ (lo ≤ sK S a ∧ sK S a ≤ hi) then some (wR S k i.toNatClampNeg (some a)) else none
def aN (S : AS) (x : Option Nat) : Option Int32 := x.bind fun k => if (40 ≤ sK S k ∧ sK S k < 46) ∨ sK S k = 1 then some (Int32.ofNat (sL S k)) else none
/-- the script is read -/
def kr_sx (X : Nat → Int32) (L : Nat) (i : Int32) : Option Int32 := if 0 ≤ i.toInt ∧ i.toInt < (L : Int) then some (X i.toNatClampNeg) else none
/-- a new array of n places -/
def nA (S : AS) (κ : Nat) (n : Int32) : Option AS := if 0 ≤ n.toInt ∧ n.toInt ≤ 100000 then some (wN S κ n.toNatClampNeg n.toNatClampNeg) else none
/-- two references are compared: each is none, a place of the run's own, or the JDK's empty array -/
def kr_ac (S : AS) (x : Option Nat) : Option Unit := if (x.all fun a => (sK S a != 0 && (a == 0 || decide (4 ≤ a))) && decide ((sK S a < 39 ∨ (40 ≤ sK S a ∧ sK S a < 46)))) = true then some () else none
def kr_z (v : Int32) : Option Unit := if v = 0 ∨ v = 1 then some () else none
def kr_cc (S : AS) (κ : Nat) (x : Option Nat) : Option Unit := if (x.all fun a => sK S a == κ) = true then some () else none
/-! ===== links of fields ===== -/
def kr_lk (own : String) (i : Nat) (ref n d : String) : Prop := Cond.fieldLink own i ref n d ∈ kr_TB ∨ ∃ host, Cond.fieldLinkNest own i ref n d host ∈ kr_NB
def kr_sm (ref decl n d : String) : Prop := ref = decl ∨ Cond.sameField ref decl n d ∈ kr_TB
def kr_fk (own : String) (i κ j : Nat) : Prop := (10 ≤ κ ∧ κ < 10 + kr_nC) ∧ j < kr_cN (κ - 10) ∧ ∃ ref, kr_lk own i ref (kr_cF (κ - 10) j).2.1 (kr_cF (κ - 10) j).2.2.1 ∧ kr_sm ref (kr_cF (κ - 10) j).1 (kr_cF (κ - 10) j).2.1 (kr_cF (κ - 10) j).2.2.1
theorem kr_same {args : Array Value} {s : State} {ref decl n d : String} (ht : ∀ w ∈ kr_TB, w.before args s = true) (h : kr_sm ref decl n d) : ∀ x, s.fieldFound? decl n d = some x → s.fieldFound? ref n d = some x := by
  rcases h with rfl | h
  · exact fun _ h => h
  · exact u_same (ht _ h)
/-! ===== places ===== -/
theorem kr_ok.ge {g : GG} {S : AS} (h : kr_ok g S) {k : Nat} (hk : 10 ≤ sK S k) : 4 ≤ k ∧ k < sN S := by
  obtain ⟨h1, h2, h3, ⟨e0, e1, e2, e3⟩, -⟩ := h
  refine ⟨?_, ?_⟩
  · rcases Nat.lt_or_ge k 4 with q | q
    · rcases (show k = 0 ∨ k = 1 ∨ k = 2 ∨ k = 3 by omega) with rfl | rfl | rfl | rfl <;> omega
    · exact q
  · rcases Nat.lt_or_ge k (sN S) with q | q
    · exact q
    · have := h2 k q
      omega
theorem kr_ok.lt {g : GG} {S : AS} (h : kr_ok g S) {k : Nat} (hk : sK S k ≠ 0) : k < sN S := by
  rcases Nat.lt_or_ge k (sN S) with q | q
  · exact q
  · exact absurd (h.2.1 k q) hk
theorem kr_cE_eq {g : GG} {ad : Nat → Nat} {S S' : AS} {k : Nat} (h1 : sK S' k = sK S k) (h2 : sL S' k = sL S k) (h3 : sI S' k = sI S k) (h4 : sR S' k = sR S k) (h5 : sJ S' k = sJ S k) : kr_cE g ad S' k = kr_cE g ad S k := by
  simp only [kr_cE, kr_oL, kr_oV, h1, h2, h3, h4, h5]
theorem kr_ws_set {g : GG} {ad : Nat → Nat} {S S' : AS} {k : Nat} (hn : sN S' = sN S) (hK : sK S' = sK S) (hr : (sK S k < 39 ∨ (40 ≤ sK S k ∧ sK S k < 46))) (h4 : 4 ≤ k) (hk : k < sN S) (h : ∀ k', k' ≠ k → kr_cE g ad S' k' = kr_cE g ad S k') : kr_ws g ad S' = (kr_ws g ad S).set (ix S k) (ad k, kr_cE g ad S' k) := by
  have hl : kr_rl S' = kr_rl S := by
    funext i
    unfold kr_rl
    rw [hK]
  unfold kr_ws
  rw [hn, hl]
  have := map_set (f := fun i => (ad (i + 4), kr_cE g ad S (i + 4))) (f' := fun i => (ad (i + 4), kr_cE g ad S' (i + 4))) (l := (List.range (sN S - 4)).filter (kr_rl S)) (List.Pairwise.filter _ List.nodup_range) (flt_at (p := kr_rl S) (i := k - 4) (kr_rl_at h4 hr) (n := sN S - 4) (by omega)) (fun x hx => by
    show (ad (x + 4), kr_cE g ad S' (x + 4)) = (ad (x + 4), kr_cE g ad S (x + 4))
    rw [h (x + 4) (by omega)])
  rw [this]
  show List.set _ _ (ad (k - 4 + 4), kr_cE g ad S' (k - 4 + 4)) = _
  rw [show k - 4 + 4 = k by omega]
  rfl
theorem kr_oL_at {ad : Nat → Nat} {S : AS} {k c j : Nat} (h : j < kr_cN c) : (kr_oL ad S k c)[j]? = some (kr_oV ad S k j (kr_cY c j)) := by
  simp [kr_oL, h]
theorem kr_oL_set {ad : Nat → Nat} {S S' : AS} {k c j : Nat} {v : Value} (h : j < kr_cN c) (h1 : ∀ i, i ≠ j → sI S' k i = sI S k i) (h2 : ∀ i, i ≠ j → sR S' k i = sR S k i) (h3 : kr_oV ad S' k j (kr_cY c j) = v) : kr_oL ad S' k c = (kr_oL ad S k c).set j v := by
  apply List.ext_getElem?
  intro i
  by_cases hi : i = j
  · subst hi
    rw [List.getElem?_set_self (by simp [kr_oL]; exact h), kr_oL_at h, h3]
  · rw [List.getElem?_set_ne (Ne.symm hi)]
    simp only [kr_oL, List.getElem?_map]
    cases hr : (List.range (kr_cN c))[i]? with
    | none => rfl
    | some a =>
      have e : a = i := by
        have := (List.getElem?_eq_some_iff.mp hr).2
        simpa using this.symm
      subst e
      simp only [Option.map_some, kr_oV, h1 a hi, h2 a hi]
theorem kr_u_ne {α : Type} {f : Nat → Nat → α} {k j : Nat} {v : α} {a : Nat} (h : a ≠ k) : kr_u f k j v a = f a := by
  funext b
  simp [kr_u, h]
theorem kr_u_nj {α : Type} {f : Nat → Nat → α} {k j : Nat} {v : α} {b : Nat} (h : b ≠ j) : kr_u f k j v k b = f k b := by simp [kr_u, h]
theorem kr_u_eq {α : Type} {f : Nat → Nat → α} {k j : Nat} {v : α} : kr_u f k j v k j = v := by simp [kr_u]
theorem kr_obj {g : GG} {ad : Nat → Nat} {S : AS} {k κ : Nat} (hk : sK S k = κ) (h : 10 ≤ κ ∧ κ < 10 + kr_nC) : kr_cE g ad S k = .inr (κ - 10, kr_oL ad S k (κ - 10)) := by
  have h2 : κ < 40 := Nat.lt_of_lt_of_le h.2 (by decide)
  simp only [kr_cE, hk, if_pos h2]
theorem kr_wI_ok {g : GG} {S : AS} {k j : Nat} {v : Int32} (h : kr_ok g S) (h4 : 4 ≤ k) : kr_ok g (wI S k j v) := by
  obtain ⟨h1, h2, h3, he, hl, hw, hr⟩ := h
  exact ⟨h1, h2, h3, he, hl, fun b hb => by show kr_u (sI S) k j v 1 b = _; rw [kr_u_ne (by omega)]; exact hw b hb, hr⟩
theorem kr_wJ_ok {g : GG} {S : AS} {k j : Nat} {v : Int64} (h : kr_ok g S) : kr_ok g (wJ S k j v) := h
theorem kr_wR_ok {g : GG} {S : AS} {k j : Nat} {v : Option Nat} (h : kr_ok g S) (hv : ∀ a, v = some a → a < sN S) : kr_ok g (wR S k j v) := by
  obtain ⟨h1, h2, h3, he, hl, hw, hr⟩ := h
  refine ⟨h1, h2, h3, he, hl, hw, fun k2 j2 a h => ?_⟩
  have h' : kr_u (sR S) k j v k2 j2 = some a := h
  unfold kr_u at h'
  split at h'
  · exact hv a h'
  · exact hr k2 j2 a h'
theorem kr_wI_cE {g : GG} {ad : Nat → Nat} {S : AS} {k j : Nat} {v : Int32} {k' : Nat} (h : k' ≠ k) : kr_cE g ad (wI S k j v) k' = kr_cE g ad S k' := kr_cE_eq rfl rfl (kr_u_ne h) rfl rfl
theorem kr_wR_cE {g : GG} {ad : Nat → Nat} {S : AS} {k j : Nat} {v : Option Nat} {k' : Nat} (h : k' ≠ k) : kr_cE g ad (wR S k j v) k' = kr_cE g ad S k' := kr_cE_eq rfl rfl rfl (kr_u_ne h) rfl
theorem kr_wJ_cE {g : GG} {ad : Nat → Nat} {S : AS} {k j : Nat} {v : Int64} {k' : Nat} (h : k' ≠ k) : kr_cE g ad (wJ S k j v) k' = kr_cE g ad S k' := kr_cE_eq rfl rfl rfl rfl (kr_u_ne h)
