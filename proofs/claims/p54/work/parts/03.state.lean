/-! ===== the state: places 0, 1, 2, .. in the order of their making; what each is, how long, what it holds. The first four are not the run's own: 0 the JDK's empty array of an ArrayList, 1 the weights, 2 the script, 3 the class object of Object[] ===== -/
abbrev AS : Type := Nat × (Nat → Nat) × (Nat → Nat) × (Nat → Nat → Int32) × (Nat → Nat → Option Nat) × (Nat → Nat → Int64) × Nat × Nat
def sN (S : AS) : Nat := S.1
def sK (S : AS) : Nat → Nat := S.2.1
def sL (S : AS) : Nat → Nat := S.2.2.1
def sI (S : AS) : Nat → Nat → Int32 := S.2.2.2.1
def sR (S : AS) : Nat → Nat → Option Nat := S.2.2.2.2.1
def sJ (S : AS) : Nat → Nat → Int64 := S.2.2.2.2.2.1
def sC (S : AS) : Nat := S.2.2.2.2.2.2.1
def sS (S : AS) : Nat := S.2.2.2.2.2.2.2
def kr_u {α : Type} (f : Nat → Nat → α) (k j : Nat) (v : α) : Nat → Nat → α := fun a b => if a = k ∧ b = j then v else f a b
def kr_w {α : Type} (f : Nat → α) (k : Nat) (v : α) : Nat → α := fun a => if a = k then v else f a
/-- an int, a reference, a long is written -/
def wI (S : AS) (k j : Nat) (v : Int32) : AS := (sN S, sK S, sL S, kr_u (sI S) k j v, sR S, sJ S, sC S, sS S)
def wR (S : AS) (k j : Nat) (v : Option Nat) : AS := (sN S, sK S, sL S, sI S, kr_u (sR S) k j v, sJ S, sC S, sS S)
def wJ (S : AS) (k j : Nat) (v : Int64) : AS := (sN S, sK S, sL S, sI S, sR S, kr_u (sJ S) k j v, sC S, sS S)
/-- a new cell of a kind, of a length, of so many slots -/
def wN (S : AS) (kd len sl : Nat) : AS := (sN S + 1, kr_w (sK S) (sN S) kd, kr_w (sL S) (sN S) len, kr_w (sI S) (sN S) (fun _ => 0), kr_w (sR S) (sN S) (fun _ => none), kr_w (sJ S) (sN S) (fun _ => 0), sC S + 1, sS S + sl)
/-- an exception is made: a cell that no place of the state is -/
def wX (S : AS) : AS := (sN S, sK S, sL S, sI S, sR S, sJ S, sC S + 1, sS S + 6)
/-! ghosts: the classes' ids and slots, the arrays' class ids, where the run's own cells begin, the first four places' cells, the script -/
abbrev GG : Type := (Nat → ClassId) × (Nat → Nat → Nat) × (Nat → ClassId) × Nat × (Nat → Nat) × (Nat → Int32) × Nat
def gD (g : GG) : va_G := (g.1, g.2.1)
def gA (g : GG) : Nat → ClassId := g.2.2.1
def gB (g : GG) : Nat := g.2.2.2.1
def gP (g : GG) : Nat → Nat := g.2.2.2.2.1
def gX (g : GG) : Nat → Int32 := g.2.2.2.2.2.1
def gL (g : GG) : Nat := g.2.2.2.2.2.2
def kr_aT : Nat → FieldType := fun t => match t with
  | 0 => .int
  | 1 => .int
  | 2 => .int
  | 3 => .object "java/lang/Object"
  | 4 => .object "KeyringCourt$Person"
  | _ => .object "KeyringCourt$Service"
def kr_tys (g : GG) : List (ClassId × FieldType) := (List.range 6).map (fun t => (gA g t, kr_aT t))
theorem kr_tys_at {g : GG} {t : Nat} (h : t < 6) : (kr_tys g)[t]? = some (gA g t, kr_aT t) := by simp [kr_tys, h]
def kr_isR : FieldType → Bool
  | .object _ => true
  | .array _ => true
  | _ => false
/-- what an object holds, what a cell is -/
def kr_oV (ad : Nat → Nat) (S : AS) (k j : Nat) (ty : FieldType) : Value := if kr_isR ty = true then va_rf ((sR S k j).map ad) else .int (sI S k j)
def kr_oL (ad : Nat → Nat) (S : AS) (k c : Nat) : List Value := (List.range (kr_cN c)).map (fun j => kr_oV ad S k j (kr_cY c j))
def kr_cE (g : GG) (ad : Nat → Nat) (S : AS) (k : Nat) : va_E :=
  if sK S k < 40 then .inr (sK S k - 10, kr_oL ad S k (sK S k - 10))
  else if sK S k < 42 then .inl (gA g (sK S k - 40), sL S k, .inl (sI S k))
  else if sK S k = 42 then .inl (gA g 2, sL S k, .inr (.inl (sJ S k)))
  else .inl (gA g (sK S k - 40), sL S k, .inr (.inr (.inr (.inr (fun j => (sR S k j).map ad)))))
def kr_rl (S : AS) (i : Nat) : Bool := decide (sK S (i + 4) < 39 ∨ (40 ≤ sK S (i + 4) ∧ sK S (i + 4) < 46))
def kr_ws (g : GG) (ad : Nat → Nat) (S : AS) : va_W := ((List.range (sN S - 4)).filter (kr_rl S)).map (fun i => (ad (i + 4), kr_cE g ad S (i + 4)))
/-- where a place stands among those that are cells of the run -/
def ix (S : AS) (k : Nat) : Nat := ((List.range (k - 4)).filter (kr_rl S)).length
theorem flt_at {p : Nat → Bool} {i : Nat} (hp : p i = true) : ∀ {n : Nat}, i < n → ((List.range n).filter p)[((List.range i).filter p).length]? = some i
  | 0, h => absurd h (Nat.not_lt_zero _)
  | n + 1, h => by
    rw [List.range_succ, List.filter_append]
    by_cases e : i = n
    · subst e
      rw [List.getElem?_append_right (Nat.le_refl _), Nat.sub_self, List.filter_cons_of_pos hp]
      rfl
    · have := flt_at hp (n := n) (by omega)
      rw [List.getElem?_append_left (List.getElem?_eq_some_iff.mp this).1]
      exact this
theorem kr_rl_at {S : AS} {k : Nat} (h4 : 4 ≤ k) (hr : (sK S k < 39 ∨ (40 ≤ sK S k ∧ sK S k < 46))) : kr_rl S (k - 4) = true := by
  unfold kr_rl
  rw [show k - 4 + 4 = k by omega]
  exact decide_eq_true hr
theorem kr_ws_at {g : GG} {ad : Nat → Nat} {S : AS} {k : Nat} (h4 : 4 ≤ k) (h : k < sN S) (hr : (sK S k < 39 ∨ (40 ≤ sK S k ∧ sK S k < 46))) : (kr_ws g ad S)[ix S k]? = some (ad k, kr_cE g ad S k) := by
  have := flt_at (p := kr_rl S) (i := k - 4) (kr_rl_at h4 hr) (n := sN S - 4) (by omega)
  unfold kr_ws ix
  rw [List.getElem?_map, this, Option.map_some, show k - 4 + 4 = k by omega]
theorem ix_inj {S : AS} {a b : Nat} (ha : 4 ≤ a) (la : a < sN S) (ra : (sK S a < 39 ∨ (40 ≤ sK S a ∧ sK S a < 46))) (hb : 4 ≤ b) (lb : b < sN S) (rb : (sK S b < 39 ∨ (40 ≤ sK S b ∧ sK S b < 46))) (e : ix S a = ix S b) : a = b := by
  have h1 := flt_at (p := kr_rl S) (i := a - 4) (kr_rl_at ha ra) (n := sN S - 4) (by omega)
  have h2 := flt_at (p := kr_rl S) (i := b - 4) (kr_rl_at hb rb) (n := sN S - 4) (by omega)
  unfold ix at e
  rw [e, h2] at h1
  have := Option.some.inj h1
  omega
theorem map_set {α : Type} {l : List Nat} {f f' : Nat → α} {i a : Nat} (hl : l.Nodup) (hi : l[i]? = some a) (h : ∀ x, x ≠ a → f' x = f x) : l.map f' = (l.map f).set i (f' a) := by
  apply List.ext_getElem?
  intro j
  have il := (List.getElem?_eq_some_iff.mp hi).1
  by_cases e : j = i
  · subst e
    rw [List.getElem?_set_self (by rw [List.length_map]; exact il), List.getElem?_map, hi]
    rfl
  · rw [List.getElem?_set_ne (Ne.symm e), List.getElem?_map, List.getElem?_map]
    cases hj : l[j]? with
    | none => rfl
    | some b =>
      rw [Option.map_some, Option.map_some, h b (fun z => ?_)]
      subst z
      have jl := (List.getElem?_eq_some_iff.mp hj).1
      exact e ((List.getElem?_inj jl hl).mp (hj.trans hi.symm))
def kr_wt : Nat → Int32 := fun j => match j with
  | 0 => 1
  | 1 => 2
  | _ => 3
/-- which kinds the run's own cells have -/
def kr_own (κ : Nat) : Prop := (10 ≤ κ ∧ κ < 10 + kr_nC) ∨ (40 ≤ κ ∧ κ < 46)
/-- a state as it must be, whatever the machine -/
def kr_ok (g : GG) (S : AS) : Prop := 4 ≤ sN S ∧ (∀ k, sN S ≤ k → sK S k = 0) ∧ (∀ k, 4 ≤ k → k < sN S → kr_own (sK S k) ∨ (sK S k = 39 ∨ 46 ≤ sK S k)) ∧ (sK S 0 = 1 ∧ sK S 1 = 2 ∧ sK S 2 = 3 ∧ sK S 3 = 4) ∧ (sL S 0 = 0 ∧ sL S 1 = 3) ∧ (∀ j, j < 3 → sI S 1 j = kr_wt j) ∧ (∀ k j a, sR S k j = some a → a < sN S)
/-- the heap holds the state, its places at the addresses ad -/
def kr_fr (g : GG) : Nat → Prop := fun q => gB g ≤ q
def Wd (g : GG) (ad : Nat → Nat) (S : AS) (H : Heap) : Prop := kr_ok g S ∧ (∀ i, i < 4 → ad i = gP g i) ∧ va_P (gD g) kr_cl (kr_ws g ad S) H ∧ va_D (kr_fr g) (kr_ws g ad S)
theorem kr_nb_warm {w : Cond} (hw : kr_nb w = true) {s U : State} (hW : s.WarmedH U.vm) (h : va_Nw w s) : va_Nw w U := by
  cases w <;> first
    | exact va_Nw.warmF hW h
    | exact va_Nw.warmM hW h
    | exact va_Nw.warmC hW h
    | exact va_Nw.warmD hW h
    | (simp [kr_nb] at hw)
def kr_ncs : List (String × String) := [("java/lang/IllegalStateException", "java/lang/IllegalArgumentException"), ("java/lang/IllegalArgumentException", "java/lang/IndexOutOfBoundsException"), ("java/lang/IllegalStateException", "java/lang/IndexOutOfBoundsException"), ("java/lang/IndexOutOfBoundsException", "java/lang/IllegalArgumentException"), ("java/lang/IndexOutOfBoundsException", "java/lang/IllegalStateException"), ("java/lang/IllegalArgumentException", "java/lang/IllegalStateException")]
def kr_ddC : String := "java/util/ArrayList"
def kr_ddF : String := "DEFAULTCAPACITY_EMPTY_ELEMENTDATA"
def kr_ddT : String := "[Ljava/lang/Object;"
/-- what the machine's tables and the cells ahead of the run's own say, in the state s -/
def Bs (g : GG) (U : State) (H : Heap) : Prop :=
  gB g ≤ H.size ∧ va_K (gD g) kr_cl (kr_tys g) U ∧ (∀ w ∈ kr_NB, va_Nw w U) ∧ (∀ q ∈ kr_ncs, va_Nc q.1 q.2 U) ∧
  va_Z kr_ddC kr_ddF kr_ddT (.ref (gP g 0)) (kr_fr g) U H ∧ va_T (.object "java/lang/Object") (gP g 0) 0 (fun _ => .null) (kr_fr g) U H ∧
  va_Z "KeyringCourt$Shown" "WEIGHTS" "[I" (.ref (gP g 1)) (kr_fr g) U H ∧ va_T .int (gP g 1) 3 (fun j => .int (kr_wt j)) (kr_fr g) U H ∧
  va_X (gP g 2) (gL g) (gX g) U H ∧ gP g 2 < gB g ∧ va_Mi "[Ljava/lang/Object;" (gP g 3) U ∧ va_AO "java/lang/Object" U ∧ va_AO "KeyringCourt$Person" U ∧ va_AO "KeyringCourt$Service" U ∧
  vx_Zq Bundle.tN "UNASSIGNED_STACK" Bundle.steD (kr_fr g) U H ∧ vx_Zq Bundle.tN "SUPPRESSED_SENTINEL" Bundle.listD (kr_fr g) U H
theorem Bs.moved {g : GG} {u U : State} {H H1 : Heap} (hW : u.WarmedH U.vm) (h : Bs g u H) (hz : H.size ≤ H1.size) (hq : ∀ a : Nat, a < H.size → ¬ kr_fr g a → H1[a]? = H[a]?) : Bs g U H1 := by
  obtain ⟨h0, h1, h2, h3, h4, h5, h6, h7, h8, h9, h10, h11, h12, h13, h14, h15⟩ := h
  have hvm := hW.alike
  have hb : H1[gP g 2]? = H[gP g 2]? := hq _ (Nat.lt_of_lt_of_le h9 h0) (Nat.not_le.mpr h9)
  exact ⟨Nat.le_trans h0 hz, h1.moved hvm, fun w hw => kr_nb_warm (List.mem_filter.mp hw).2 hW (h2 w hw), fun q hq => (h3 q hq).moved hvm, (h4.kept hq).moved hvm, (h5.kept hq).moved hvm, (h6.kept hq).moved hvm, (h7.kept hq).moved hvm, (h8.kept hb).moved hvm, h9, h10.moved hvm, h11.moved hvm, h12.moved hvm, h13.moved hvm, (h14.kept hq).moved hvm, (h15.kept hq).moved hvm⟩
theorem Bs.call {g : GG} {U : State} {H : Heap} {f : JFrame} {mk : MethodId} {a : Array Value} (h : Bs g U H) : Bs g (U.calling f mk a) H := Bs.moved (u := U) (U := U.calling f mk a) (State.WarmedH.refl U) h (Nat.le_refl _) (fun _ _ _ => rfl)
