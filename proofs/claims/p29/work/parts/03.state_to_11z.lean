section
/-! ===== the state: places 0, 1, 2, .. in the order of their making; what each is, how long, what it holds. The first four are not the run's own: 0 the JDK's empty array of an ArrayList, 1 the weights, 2 the script, 3 the class object of Object[] ===== -/
abbrev AS : Type := Nat × (Nat → Nat) × (Nat → Nat) × (Nat → Nat → Int32) × (Nat → Nat → Option Nat) × (Nat → Nat → Int64) × Nat × Nat
def sN (S : AS) : Nat := S.1
def sK (S : AS) : Nat → Nat := S.2.1
def sL (S : AS) : Nat → Nat := S.2.2.1
def sI (S : AS) : Nat → Nat → Int32 := S.2.2.2.1
def sR (S : AS) : Nat → Nat → Option Nat := S.2.2.2.2.1
def sJ (S : AS) : Nat → Nat → Int64 := S.2.2.2.2.2.1
def sC (S : AS) : Nat := S.2.2.2.2.2.2.1
def sS (S : AS) : Nat := S.2.2.2.2.2.2.2
def kr_u {α : Type} (f : Nat → Nat → α) (k j : Nat) (v : α) : Nat → Nat → α := fun a b => if a = k ∧ b = j then v else f a b
def kr_w {α : Type} (f : Nat → α) (k : Nat) (v : α) : Nat → α := fun a => if a = k then v else f a
/-- an int, a reference, a long is written -/
def wI (S : AS) (k j : Nat) (v : Int32) : AS := (sN S, sK S, sL S, kr_u (sI S) k j v, sR S, sJ S, sC S, sS S)
def wR (S : AS) (k j : Nat) (v : Option Nat) : AS := (sN S, sK S, sL S, sI S, kr_u (sR S) k j v, sJ S, sC S, sS S)
def wJ (S : AS) (k j : Nat) (v : Int64) : AS := (sN S, sK S, sL S, sI S, sR S, kr_u (sJ S) k j v, sC S, sS S)
/-- a new cell of a kind, of a length, of so many slots -/
def wN (S : AS) (kd len sl : Nat) : AS := (sN S + 1, kr_w (sK S) (sN S) kd, kr_w (sL S) (sN S) len, kr_w (sI S) (sN S) (fun _ => 0), kr_w (sR S) (sN S) (fun _ => none), kr_w (sJ S) (sN S) (fun _ => 0), sC S + 1, sS S + sl)
/-- an exception is made: a cell that no place of the state is -/
def wX (S : AS) : AS := (sN S, sK S, sL S, sI S, sR S, sJ S, sC S + 1, sS S + 6)
/-! ghosts: the classes' ids and slots, the arrays' class ids, where the run's own cells begin, the first four places' cells, the script -/
abbrev GG : Type := (Nat → ClassId) × (Nat → Nat → Nat) × (Nat → ClassId) × Nat × (Nat → Nat) × (Nat → Int32) × Nat
def gD (g : GG) : va_G := (g.1, g.2.1)
def gA (g : GG) : Nat → ClassId := g.2.2.1
def gB (g : GG) : Nat := g.2.2.2.1
def gP (g : GG) : Nat → Nat := g.2.2.2.2.1
def gX (g : GG) : Nat → Int32 := g.2.2.2.2.2.1
def gL (g : GG) : Nat := g.2.2.2.2.2.2
def kr_aT : Nat → FieldType := fun t => match t with
  | 0 => .int
  | 1 => .boolean
  | 2 => .long
  | 3 => .object "java/lang/Object"
  | 4 => .object "KeyringCourt$Person"
  | _ => .object "KeyringCourt$Service"
def kr_tys (g : GG) : List (ClassId × FieldType) := (List.range 6).map (fun t => (gA g t, kr_aT t))
theorem kr_tys_at {g : GG} {t : Nat} (h : t < 6) : (kr_tys g)[t]? = some (gA g t, kr_aT t) := by simp [kr_tys, h]
def kr_isR : FieldType → Bool
  | .object _ => true
  | .array _ => true
  | _ => false
/-- what an object holds, what a cell is -/
def kr_oV (ad : Nat → Nat) (S : AS) (k j : Nat) (ty : FieldType) : Value := if kr_isR ty = true then va_rf ((sR S k j).map ad) else .int (sI S k j)
def kr_oL (ad : Nat → Nat) (S : AS) (k c : Nat) : List Value := (List.range (kr_cN c)).map (fun j => kr_oV ad S k j (kr_cY c j))
def kr_cE (g : GG) (ad : Nat → Nat) (S : AS) (k : Nat) : va_E :=
  if sK S k < 40 then .inr (sK S k - 10, kr_oL ad S k (sK S k - 10))
  else if sK S k < 42 then .inl (gA g (sK S k - 40), sL S k, .inl (sI S k))
  else if sK S k = 42 then .inl (gA g 2, sL S k, .inr (.inl (sJ S k)))
  else .inl (gA g (sK S k - 40), sL S k, .inr (.inr (.inr (.inr (fun j => (sR S k j).map ad)))))
def kr_ws (g : GG) (ad : Nat → Nat) (S : AS) : va_W := (List.range (sN S - 4)).map (fun i => (ad (i + 4), kr_cE g ad S (i + 4)))
theorem kr_ws_at {g : GG} {ad : Nat → Nat} {S : AS} {k : Nat} (h4 : 4 ≤ k) (h : k < sN S) : (kr_ws g ad S)[k - 4]? = some (ad k, kr_cE g ad S k) := by
  have e : k - 4 + 4 = k := by omega
  have hl : k - 4 < sN S - 4 := by omega
  simp [kr_ws, hl, e]
theorem kr_ws_of {g : GG} {ad : Nat → Nat} {S : AS} {i : Nat} {q : Nat × va_E} (h : (kr_ws g ad S)[i]? = some q) : i + 4 < sN S ∧ q = (ad (i + 4), kr_cE g ad S (i + 4)) := by
  simp only [kr_ws, List.getElem?_map, Option.map_eq_some_iff] at h
  obtain ⟨a, h1, h2⟩ := h
  have hl := (List.getElem?_eq_some_iff.mp h1).1
  simp only [List.length_range] at hl
  have ha : a = i := by
    have := (List.getElem?_eq_some_iff.mp h1).2
    simpa using this.symm
  subst ha
  exact ⟨by omega, h2.symm⟩
def kr_wt : Nat → Int32 := fun j => match j with
  | 0 => 1
  | 1 => 2
  | _ => 3
/-- which kinds the run's own cells have -/
def kr_own (κ : Nat) : Prop := (10 ≤ κ ∧ κ < 10 + kr_nC) ∨ (40 ≤ κ ∧ κ < 46)
/-- a state as it must be, whatever the machine -/
def kr_ok (g : GG) (S : AS) : Prop := 4 ≤ sN S ∧ (∀ k, sN S ≤ k → sK S k = 0) ∧ (∀ k, 4 ≤ k → k < sN S → kr_own (sK S k)) ∧ (sK S 0 = 1 ∧ sK S 1 = 2 ∧ sK S 2 = 3 ∧ sK S 3 = 4) ∧ (sL S 0 = 0 ∧ sL S 1 = 3) ∧ (∀ j, j < 3 → sI S 1 j = kr_wt j) ∧ (∀ k j a, sR S k j = some a → a < sN S)
/-- the heap holds the state, its places at the addresses ad -/
def kr_fr (g : GG) : Nat → Prop := fun q => gB g ≤ q
def Wd (g : GG) (ad : Nat → Nat) (S : AS) (H : Heap) : Prop := kr_ok g S ∧ (∀ i, i < 4 → ad i = gP g i) ∧ va_P (gD g) kr_cl (kr_ws g ad S) H ∧ va_D (kr_fr g) (kr_ws g ad S)
theorem kr_nb_warm {w : Cond} (hw : kr_nb w = true) {s U : State} (hW : s.WarmedH U.vm) (h : va_Nw w s) : va_Nw w U := by
  cases w <;> first
    | exact va_Nw.warmF hW h
    | exact va_Nw.warmM hW h
    | exact va_Nw.warmC hW h
    | exact va_Nw.warmD hW h
    | (simp [kr_nb] at hw)
def kr_ncs : List (String × String) := [("java/lang/IllegalStateException", "java/lang/IllegalArgumentException"), ("java/lang/IllegalArgumentException", "java/lang/IndexOutOfBoundsException"), ("java/lang/IllegalStateException", "java/lang/IndexOutOfBoundsException"), ("java/lang/IndexOutOfBoundsException", "java/lang/IllegalArgumentException"), ("java/lang/IndexOutOfBoundsException", "java/lang/IllegalStateException"), ("java/lang/IllegalArgumentException", "java/lang/IllegalStateException")]
def kr_ddC : String := "java/util/ArrayList"
def kr_ddF : String := "DEFAULTCAPACITY_EMPTY_ELEMENTDATA"
def kr_ddT : String := "[Ljava/lang/Object;"
/-- what the machine's tables and the cells ahead of the run's own say, in the state s -/
def Bs (g : GG) (U : State) (H : Heap) : Prop :=
  gB g ≤ H.size ∧ va_K (gD g) kr_cl (kr_tys g) U ∧ (∀ w ∈ kr_NB, va_Nw w U) ∧ (∀ q ∈ kr_ncs, va_Nc q.1 q.2 U) ∧
  va_Z kr_ddC kr_ddF kr_ddT (.ref (gP g 0)) (kr_fr g) U H ∧ va_T (.object "java/lang/Object") (gP g 0) 0 (fun _ => .null) (kr_fr g) U H ∧
  va_Z "KeyringCourt$Shown" "WEIGHTS" "[I" (.ref (gP g 1)) (kr_fr g) U H ∧ va_T .int (gP g 1) 3 (fun j => .int (kr_wt j)) (kr_fr g) U H ∧
  va_X (gP g 2) (gL g) (gX g) U H ∧ gP g 2 < gB g ∧ va_Mi "[Ljava/lang/Object;" (gP g 3) U ∧ va_AO "java/lang/Object" U ∧ va_AO "KeyringCourt$Person" U ∧ va_AO "KeyringCourt$Service" U ∧
  vx_Zq Bundle.tN "UNASSIGNED_STACK" Bundle.steD (kr_fr g) U H ∧ vx_Zq Bundle.tN "SUPPRESSED_SENTINEL" Bundle.listD (kr_fr g) U H
theorem Bs.moved {g : GG} {u U : State} {H H1 : Heap} (hW : u.WarmedH U.vm) (h : Bs g u H) (hz : H.size ≤ H1.size) (hq : ∀ a : Nat, a < H.size → ¬ kr_fr g a → H1[a]? = H[a]?) : Bs g U H1 := by
  obtain ⟨h0, h1, h2, h3, h4, h5, h6, h7, h8, h9, h10, h11, h12, h13, h14, h15⟩ := h
  have hvm := hW.alike
  have hb : H1[gP g 2]? = H[gP g 2]? := hq _ (Nat.lt_of_lt_of_le h9 h0) (Nat.not_le.mpr h9)
  exact ⟨Nat.le_trans h0 hz, h1.moved hvm, fun w hw => kr_nb_warm (List.mem_filter.mp hw).2 hW (h2 w hw), fun q hq => (h3 q hq).moved hvm, (h4.kept hq).moved hvm, (h5.kept hq).moved hvm, (h6.kept hq).moved hvm, (h7.kept hq).moved hvm, (h8.kept hb).moved hvm, h9, h10.moved hvm, h11.moved hvm, h12.moved hvm, h13.moved hvm, (h14.kept hq).moved hvm, (h15.kept hq).moved hvm⟩
theorem Bs.call {g : GG} {U : State} {H : Heap} {f : JFrame} {mk : MethodId} {a : Array Value} (h : Bs g U H) : Bs g (U.calling f mk a) H := Bs.moved (u := U) (U := U.calling f mk a) (State.WarmedH.refl U) h (Nat.le_refl _) (fun _ _ _ => rfl)
end
section
def kr_room (d mc ms : Nat) : Room := { frames := d, cells := mc, slots := ms, locals := 31 * d + 133 }
/-- an end: an answer, or an exception by its class; and the state then -/
abbrev AR : Type := (Option Value ⊕ String) × AS
def cv (ad : Nat → Nat) : Value → Value
  | .ref a => .ref (ad a)
  | v => v
/-- a value whose reference is a place that is there -/
def kr_vl (n : Nat) : Value → Prop
  | .ref a => a < n
  | _ => True
def kr_va (n : Nat) (lv : List (Nat × Value)) (st : List Value) : Prop := (∀ q ∈ lv, kr_vl n q.2) ∧ ∀ v ∈ st, kr_vl n v
theorem kr_vl_mono {n m : Nat} (h : n ≤ m) {v : Value} (hv : kr_vl n v) : kr_vl m v := by
  cases v <;> first | trivial | exact Nat.lt_of_lt_of_le hv h
theorem kr_va_mono {n m : Nat} (h : n ≤ m) {lv : List (Nat × Value)} {st : List Value} (hv : kr_va n lv st) : kr_va m lv st := ⟨fun q hq => kr_vl_mono h (hv.1 q hq), fun v q => kr_vl_mono h (hv.2 v q)⟩
theorem kr_va_tl {n : Nat} {lv : List (Nat × Value)} {v : Value} {st : List Value} (h : kr_va n lv (v :: st)) : kr_va n lv st := ⟨h.1, fun w hw => h.2 w (List.mem_cons_of_mem _ hw)⟩
theorem kr_va_hd {n : Nat} {lv : List (Nat × Value)} {v : Value} {st : List Value} (h : kr_va n lv (v :: st)) : kr_vl n v := h.2 v List.mem_cons_self
theorem kr_va_cons {n : Nat} {lv : List (Nat × Value)} {v : Value} {st : List Value} (hv : kr_vl n v) (h : kr_va n lv st) : kr_va n lv (v :: st) := ⟨h.1, fun w hw => (List.mem_cons.mp hw).elim (fun e => e ▸ hv) (h.2 w)⟩
theorem kr_va_at {n : Nat} {lv : List (Nat × Value)} {st : List Value} (h : kr_va n lv st) {k i : Nat} {v : Value} (hk : lv[k]? = some (i, v)) : kr_vl n v := h.1 _ (List.mem_of_getElem? hk)
def kr_ext (n0 : Nat) (ad0 ad : Nat → Nat) : Prop := ∀ k, k < n0 → ad k = ad0 k
theorem kr_ext_rf {n0 : Nat} {ad : Nat → Nat} : kr_ext n0 ad ad := fun _ _ => rfl
theorem kr_ext_tr {n0 n1 : Nat} {a b c : Nat → Nat} (hn : n0 ≤ n1) (h1 : kr_ext n0 a b) (h2 : kr_ext n1 b c) : kr_ext n0 a c := fun k hk => (h2 k (Nat.lt_of_lt_of_le hk hn)).trans (h1 k hk)
def kr_Q (g : GG) (ad0 : Nat → Nat) (n0 : Nat) (r : AR) : Array Value → State → Outcome → State → Prop := fun _ st o t => (∃ (v : Option Value) (ad : Nat → Nat), r.1 = .inl v ∧ o = .returned (v.map (cv ad)) ∧ kr_ext n0 ad0 ad ∧ Wd g ad r.2 t.heap ∧ ∀ w, v = some w → kr_vl (sN r.2) w) ∧ va_F (kr_fr g) st t
def kr_XC (g : GG) (ad0 : Nat → Nat) (n0 : Nat) (r : AR) : String → State → State → Prop := fun E st t => (∃ (ad : Nat → Nat), r.1 = .inr E ∧ kr_ext n0 ad0 ad ∧ Wd g ad r.2 t.heap) ∧ va_F (kr_fr g) st t
/-- what holds all through a method's run -/
def kr_Ctx (g : GG) (M : MM) (p : Program) (l : Launch) (s : State) (m : MethodId) (args : Array Value) (meth : Method) (c : Code) : Prop :=
  p.tables.exec = Jvm.exec ∧ c.code = mC M ∧ c.maxLocals = mL M ∧ meth.sig.returnType = mR M ∧ s.vm.findClass (mO M) = some m.cls ∧ (∀ w ∈ kr_TB, w.before args s = true) ∧ meth.locks = false ∧ l.stackTraces = false ∧ c.exceptionTable.toList = tableOf (mH M) ∧ (meth.name = mN M ∧ ∀ X L, mX M = some (X, L) → gX g = X ∧ gL g = L) ∧ Bs g s s.heap
/-- what holds where the method stands -/
def kr_At (g : GG) (M : MM) (s : State) (S : AS) (r : AR) (ad0 : Nat → Nat) (n0 c0 s0 mc ms : Nat) (lv : List (Nat × Value)) (st : List Value) (ad : Nat → Nat) (H : Heap) (locs : List Loc) (ls : Array Slot) (cells slots : Nat) : Prop :=
  c0 + cells = sC S ∧ s0 + slots = sS S ∧ sC r.2 ≤ c0 + mc ∧ sS r.2 ≤ s0 + ms ∧ n0 ≤ sN S ∧ kr_ext n0 ad0 ad ∧ Wd g ad S H ∧ va_S (kr_fr g) s.heap H locs ∧ lv_has ls (mL M) (lv.map (fun q => (q.1, cv ad q.2))) ∧ kr_va (sN S) lv st
/-- THE JUDGEMENT: the method M, at pc with these locals and this stack, in the state S, comes to the end r -/
def kr_AW (M : MM) (d pc : Nat) (lv : List (Nat × Value)) (st : List Value) (S : AS) (r : AR) : Prop :=
  (sC S ≤ sC r.2 ∧ sS S ≤ sS r.2 ∧ sN S ≤ sN r.2) ∧ ∀ (g : GG) (p : Program) (l : Launch) (e : Env) (s : State) (m : MethodId) (args : Array Value) (below : List Frame) (meth : Method) (c : Code) (ad0 : Nat → Nat) (n0 c0 s0 mc ms : Nat),
    kr_Ctx g M p l s m args meth c → ∀ (ad : Nat → Nat) (H : Heap) (locs : List Loc) (ls : Array Slot) (cells slots : Nat), kr_At g M s S r ad0 n0 c0 s0 mc ms lv st ad H locs ls cells slots →
    W p l e (kr_room d mc ms) s m args below meth c H locs cells slots (vx_MQ below (kr_Q g ad0 n0 r) (kr_XC g ad0 n0 r) args s mc ms (kr_fr g)) (F0 m pc ls (st.map (cv ad)))
/-- a step that leaves the state -/
theorem kr_go {M : MM} {d pc pc' : Nat} {lv lv' : List (Nat × Value)} {st st' : List Value} {S : AS} {r : AR} (K : kr_AW M d pc' lv' st' S r) (V : ∀ n, kr_va n lv st → kr_va n lv' st')
    (f : ∀ (p : Program) (l : Launch) (e : Env) (R : Room) (s : State) (m : MethodId) (args : Array Value) (below : List Frame) (meth : Method) (c : Code) (H : Heap) (locs : List Loc) (cells slots : Nat) (Q : State → Prop) (ls : Array Slot) (ad : Nat → Nat),
      p.tables.exec = Jvm.exec → c.code = mC M → s.vm.findClass (mO M) = some m.cls → (∀ w ∈ kr_TB, w.before args s = true) → lv_has ls (mL M) (lv.map (fun q => (q.1, cv ad q.2))) →
      (∀ ls', lv_has ls' (mL M) (lv'.map (fun q => (q.1, cv ad q.2))) → W p l e R s m args below meth c H locs cells slots Q (F0 m pc' ls' (st'.map (cv ad)))) → W p l e R s m args below meth c H locs cells slots Q (F0 m pc ls (st.map (cv ad)))) : kr_AW M d pc lv st S r := by
  refine ⟨K.1, ?_⟩
  intro g p l e s m args below meth c ad0 n0 c0 s0 mc ms C ad H locs ls cells slots A
  obtain ⟨a1, a2, a3, a4, a5, a6, a7, a8, a9, a10⟩ := A
  exact f p l e _ s m args below meth c H locs cells slots _ ls ad C.1 C.2.1 C.2.2.2.2.1 C.2.2.2.2.2.1 a9 (fun ls' h9 => K.2 g p l e s m args below meth c ad0 n0 c0 s0 mc ms C ad H locs ls' cells slots ⟨a1, a2, a3, a4, a5, a6, a7, a8, h9, V _ a10⟩)
/-- the same, with two ways -/
theorem kr_go2 {M : MM} {d pc p1 p2 : Nat} {P : Prop} {lv : List (Nat × Value)} {st st' : List Value} {S : AS} {r : AR} [Decidable P] (K1 : P → kr_AW M d p1 lv st' S r) (K2 : ¬ P → kr_AW M d p2 lv st' S r) (V : ∀ n, kr_va n lv st → kr_va n lv st')
    (f : ∀ (p : Program) (l : Launch) (e : Env) (R : Room) (s : State) (m : MethodId) (args : Array Value) (below : List Frame) (meth : Method) (c : Code) (H : Heap) (locs : List Loc) (cells slots : Nat) (Q : State → Prop) (ls : Array Slot) (ad : Nat → Nat),
      p.tables.exec = Jvm.exec → c.code = mC M → (P → W p l e R s m args below meth c H locs cells slots Q (F0 m p1 ls (st'.map (cv ad)))) → (¬ P → W p l e R s m args below meth c H locs cells slots Q (F0 m p2 ls (st'.map (cv ad)))) → W p l e R s m args below meth c H locs cells slots Q (F0 m pc ls (st.map (cv ad)))) : kr_AW M d pc lv st S r := by
  refine ⟨if h : P then (K1 h).1 else (K2 h).1, ?_⟩
  intro g p l e s m args below meth c ad0 n0 c0 s0 mc ms C ad H locs ls cells slots A
  obtain ⟨a1, a2, a3, a4, a5, a6, a7, a8, a9, a10⟩ := A
  exact f p l e _ s m args below meth c H locs cells slots _ ls ad C.1 C.2.1 (fun h => (K1 h).2 g p l e s m args below meth c ad0 n0 c0 s0 mc ms C ad H locs ls cells slots ⟨a1, a2, a3, a4, a5, a6, a7, a8, a9, V _ a10⟩) (fun h => (K2 h).2 g p l e s m args below meth c ad0 n0 c0 s0 mc ms C ad H locs ls cells slots ⟨a1, a2, a3, a4, a5, a6, a7, a8, a9, V _ a10⟩)
theorem kr_lv {ls : Array Slot} {nL : Nat} {lv : List (Nat × Value)} {ad : Nat → Nat} (h : lv_has ls nL (lv.map (fun q => (q.1, cv ad q.2)))) (k : Nat) {i : Nat} {v : Value} (hk : lv[k]? = some (i, v)) : ls[i]? = some (.val (cv ad v)) :=
  h.2.2 (i, cv ad v) (List.mem_map.mpr ⟨(i, v), List.mem_of_getElem? hk, rfl⟩)
theorem kr_cat (ad : Nat → Nat) (v : Value) : (cv ad v).category = v.category := by cases v <;> rfl
theorem kr_catm (ad : Nat → Nat) (l : List Value) : ((l.map (cv ad)).map fun v => v.category).sum = (l.map fun v => v.category).sum := by
  rw [List.map_map]
  exact congrArg List.sum (List.map_congr_left fun v _ => kr_cat ad v)
/-- the locals behind a store -/
def kr_st (lv : List (Nat × Value)) (i : Nat) (v : Value) : List (Nat × Value) := (i, v) :: lv.filter (fun q => !(q.1 == i) && !(q.1 + 1 == i && q.2.category == 2))
theorem kr_st_map (ad : Nat → Nat) (lv : List (Nat × Value)) (i : Nat) (v : Value) : (kr_st lv i v).map (fun q => (q.1, cv ad q.2)) = (i, cv ad v) :: (lv.map (fun q => (q.1, cv ad q.2))).filter (fun q => !(q.1 == i) && !(q.1 + 1 == i && q.2.category == 2)) := by
  unfold kr_st
  rw [List.map_cons]
  refine congrArg _ ?_
  induction lv with
  | nil => rfl
  | cons q lv ih =>
    simp only [List.filter_cons, List.map_cons, kr_cat]
    split
    · rw [List.map_cons, ih]
    · exact ih
theorem kr_st_va {n : Nat} {lv : List (Nat × Value)} {i : Nat} {v : Value} {st : List Value} (hv : kr_vl n v) (h : kr_va n lv st) : kr_va n (kr_st lv i v) st := ⟨fun q hq => (List.mem_cons.mp hq).elim (fun e => e ▸ hv) (fun hq => h.1 q (List.mem_filter.mp hq).1), h.2⟩
theorem kr_rf (r : Option Nat) (ad : Nat → Nat) : cv ad (va_rf r) = va_rf (r.map ad) := by cases r <;> rfl
theorem kr_rfcat (r : Option Nat) : (va_rf r).category = 1 := by cases r <;> rfl
/-- fewer locals -/
theorem kr_sub {M : MM} {d pc : Nat} {lv lv' : List (Nat × Value)} {st : List Value} {S : AS} {r : AR} (ks : List Nat) (h : ks.filterMap (fun k => lv[k]?) = lv') (K : kr_AW M d pc lv' st S r) : kr_AW M d pc lv st S r :=
  kr_go K (fun n hv => ⟨fun q hq => by
    rw [← h] at hq
    obtain ⟨i, -, hi⟩ := List.mem_filterMap.mp hq
    exact hv.1 q (List.mem_of_getElem? hi), hv.2⟩) (fun p l e R s m args below meth c H locs cells slots Q ls ad hx hb ho ht hl k => k ls ⟨hl.1, hl.2.1, fun q hq => by
    obtain ⟨q0, h1, rfl⟩ := List.mem_map.mp hq
    rw [← h] at h1
    obtain ⟨i, -, hi⟩ := List.mem_filterMap.mp h1
    exact hl.2.2 _ (List.mem_map.mpr ⟨q0, List.mem_of_getElem? hi, rfl⟩)⟩)
section KR
variable {M : MM} {d pc : Nat} {lv : List (Nat × Value)} {st : List Value} {S : AS} {r : AR}
theorem r_iconst {n : Int} {v : Int32} (hv : Int32.ofInt n = v) (hd : decode (mC M) pc = .ok (.iconst n, 1)) (K : kr_AW M d (pc + 1) lv (.int v :: st) S r) : kr_AW M d pc lv (st) S r :=
  kr_go K (fun n h => kr_va_cons trivial h) (fun p l e R s m args below meth c H locs cells slots Q ls ad hx hb ho ht hl k => lv_iconst hx hb hd hv (k ls hl))
theorem r_bipush {n : Int} {v : Int32} (hv : (Int8.ofInt n).toInt32 = v) (hd : decode (mC M) pc = .ok (.bipush n, 2)) (K : kr_AW M d (pc + 2) lv (.int v :: st) S r) : kr_AW M d pc lv (st) S r :=
  kr_go K (fun n h => kr_va_cons trivial h) (fun p l e R s m args below meth c H locs cells slots Q ls ad hx hb ho ht hl k => lv_bipush hx hb hd hv (k ls hl))
theorem r_sipush {n : Int} {v : Int32} (hv : (Int16.ofInt n).toInt32 = v) (hd : decode (mC M) pc = .ok (.sipush n, 3)) (K : kr_AW M d (pc + 3) lv (.int v :: st) S r) : kr_AW M d pc lv (st) S r :=
  kr_go K (fun n h => kr_va_cons trivial h) (fun p l e R s m args below meth c H locs cells slots Q ls ad hx hb ho ht hl k => lv_sipush hx hb hd hv (k ls hl))
theorem r_lconst {n : Fin 2} {v : Int64} (hv : Int64.ofNat (n : Nat) = v) (hd : decode (mC M) pc = .ok (.lconst n, 1)) (K : kr_AW M d (pc + 1) lv (.long v :: st) S r) : kr_AW M d pc lv (st) S r :=
  kr_go K (fun n h => kr_va_cons trivial h) (fun p l e R s m args below meth c H locs cells slots Q ls ad hx hb ho ht hl k => lv_lconst hx hb hd hv (k ls hl))
theorem r_ldc {i : Nat} {v : Int32} (hw : Cond.constant (mO M) i v ∈ kr_TB) (hd : decode (mC M) pc = .ok (.ldc i, 2)) (K : kr_AW M d (pc + 2) lv (.int v :: st) S r) : kr_AW M d pc lv (st) S r :=
  kr_go K (fun n h => kr_va_cons trivial h) (fun p l e R s m args below meth c H locs cells slots Q ls ad hx hb ho ht hl k => lv_ldc hx hb ho (ht _ hw) hd (k ls hl))
theorem r_ldcw {i : Nat} {v : Int32} (hw : Cond.constant (mO M) i v ∈ kr_TB) (hd : decode (mC M) pc = .ok (.ldc_w i, 3)) (K : kr_AW M d (pc + 3) lv (.int v :: st) S r) : kr_AW M d pc lv (st) S r :=
  kr_go K (fun n h => kr_va_cons trivial h) (fun p l e R s m args below meth c H locs cells slots Q ls ad hx hb ho ht hl k => lv_ldcw hx hb ho (ht _ hw) hd (k ls hl))
theorem r_iload_n {i : Fin 4} {x : Int32} (q : Nat) (hi : lv[q]? = some ((i : Nat), .int x)) (hd : decode (mC M) pc = .ok (.iload_n i, 1)) (K : kr_AW M d (pc + 1) lv (.int x :: st) S r) : kr_AW M d pc lv (st) S r :=
  kr_go K (fun n h => kr_va_cons trivial h) (fun p l e R s m args below meth c H locs cells slots Q ls ad hx hb ho ht hl k => lv_iload_n hx hb hd rfl (kr_lv hl q hi) (k ls hl))
theorem r_iload {i : Nat} {x : Int32} (q : Nat) (hi : lv[q]? = some ((i : Nat), .int x)) (hd : decode (mC M) pc = .ok (.iload i, 2)) (K : kr_AW M d (pc + 2) lv (.int x :: st) S r) : kr_AW M d pc lv (st) S r :=
  kr_go K (fun n h => kr_va_cons trivial h) (fun p l e R s m args below meth c H locs cells slots Q ls ad hx hb ho ht hl k => lv_iload hx hb hd (kr_lv hl q hi) (k ls hl))
theorem r_aload_n {i : Fin 4} {x : Option Nat} (q : Nat) (hi : lv[q]? = some ((i : Nat), va_rf x)) (hd : decode (mC M) pc = .ok (.aload_n i, 1)) (K : kr_AW M d (pc + 1) lv (va_rf x :: st) S r) : kr_AW M d pc lv st S r := by
  refine kr_go K (fun n h => kr_va_cons (kr_va_at h hi) h) (fun p l e R s m args below meth c H locs cells slots Q ls ad hx hb ho ht hl k => ?_)
  have h1 := kr_lv hl q hi
  have h2 := k ls hl
  cases x with
  | none => exact lv_aload_nN hx hb hd rfl h1 h2
  | some a => exact lv_aload_n hx hb hd rfl h1 h2
theorem r_aload {i : Nat} {x : Option Nat} (q : Nat) (hi : lv[q]? = some ((i : Nat), va_rf x)) (hd : decode (mC M) pc = .ok (.aload i, 2)) (K : kr_AW M d (pc + 2) lv (va_rf x :: st) S r) : kr_AW M d pc lv st S r := by
  refine kr_go K (fun n h => kr_va_cons (kr_va_at h hi) h) (fun p l e R s m args below meth c H locs cells slots Q ls ad hx hb ho ht hl k => ?_)
  have h1 := kr_lv hl q hi
  have h2 := k ls hl
  cases x with
  | none => exact lv_aloadN hx hb hd h1 h2
  | some a => exact lv_aload hx hb hd h1 h2
theorem r_istore_n {i : Fin 4} {x : Int32} {lv' : List (Nat × Value)} (hn : (i : Nat) < mL M) (hl' : kr_st lv i (.int x) = lv') (hd : decode (mC M) pc = .ok (.istore_n i, 1)) (K : kr_AW M d (pc + 1) lv' st S r) : kr_AW M d pc lv (.int x :: st) S r := by
  subst hl'
  exact kr_go K (fun n h => kr_st_va trivial (kr_va_tl h)) (fun p l e R s m args below meth c H locs cells slots Q ls ad hx hb ho ht hl k => lv_istore_n hx hb hd rfl hl hn (kr_st_map ad lv i (.int x)).symm k)
theorem r_istore {i : Nat} {x : Int32} {lv' : List (Nat × Value)} (hn : (i : Nat) < mL M) (hl' : kr_st lv i (.int x) = lv') (hd : decode (mC M) pc = .ok (.istore i, 2)) (K : kr_AW M d (pc + 2) lv' st S r) : kr_AW M d pc lv (.int x :: st) S r := by
  subst hl'
  exact kr_go K (fun n h => kr_st_va trivial (kr_va_tl h)) (fun p l e R s m args below meth c H locs cells slots Q ls ad hx hb ho ht hl k => lv_istore hx hb hd hl hn (kr_st_map ad lv i (.int x)).symm k)
theorem r_astore_n {i : Fin 4} {x : Option Nat} {lv' : List (Nat × Value)} (hn : (i : Nat) < mL M) (hl' : kr_st lv i (va_rf x) = lv') (hd : decode (mC M) pc = .ok (.astore_n i, 1)) (K : kr_AW M d (pc + 1) lv' st S r) : kr_AW M d pc lv (va_rf x :: st) S r := by
  subst hl'
  refine kr_go K (fun n h => kr_st_va (kr_va_hd h) (kr_va_tl h)) (fun p l e R s m args below meth c H locs cells slots Q ls ad hx hb ho ht hl k => ?_)
  cases x with
  | none => exact lv_astore_nN hx hb hd rfl hl hn (kr_st_map ad lv i .null).symm k
  | some a => exact lv_astore_n hx hb hd rfl hl hn (kr_st_map ad lv i (.ref a)).symm k
theorem r_astore {i : Nat} {x : Option Nat} {lv' : List (Nat × Value)} (hn : (i : Nat) < mL M) (hl' : kr_st lv i (va_rf x) = lv') (hd : decode (mC M) pc = .ok (.astore i, 2)) (K : kr_AW M d (pc + 2) lv' st S r) : kr_AW M d pc lv (va_rf x :: st) S r := by
  subst hl'
  refine kr_go K (fun n h => kr_st_va (kr_va_hd h) (kr_va_tl h)) (fun p l e R s m args below meth c H locs cells slots Q ls ad hx hb ho ht hl k => ?_)
  cases x with
  | none => exact lv_astoreN hx hb hd hl hn (kr_st_map ad lv i .null).symm k
  | some a => exact lv_astore hx hb hd hl hn (kr_st_map ad lv i (.ref a)).symm k
theorem r_iinc {i : Nat} {n : Int} {x v : Int32} {lv' : List (Nat × Value)} (q : Nat) (hi : lv[q]? = some (i, .int x)) (hv : x + Int32.ofInt n = v) (hn : i < mL M) (hl' : kr_st lv i (.int v) = lv') (hd : decode (mC M) pc = .ok (.iinc i n, 3)) (K : kr_AW M d (pc + 3) lv' st S r) : kr_AW M d pc lv st S r := by
  subst hl'
  exact kr_go K (fun n h => kr_st_va trivial h) (fun p l e R s m args below meth c H locs cells slots Q ls ad hx hb ho ht hl k => lv_iinc hx hb hd hl (k := q) (by rw [List.getElem?_map, hi]; rfl) hv hn (kr_st_map ad lv i (.int v)).symm k)
theorem r_iadd {x y : Int32} (hd : decode (mC M) pc = .ok (.iadd, 1)) (K : kr_AW M d (pc + 1) lv (.int (x + y) :: st) S r) : kr_AW M d pc lv (.int y :: .int x :: st) S r :=
  kr_go K (fun n h => kr_va_cons trivial (kr_va_tl (kr_va_tl h))) (fun p l e R s m args below meth c H locs cells slots Q ls ad hx hb ho ht hl k => lv_iadd hx hb hd (k ls hl))
theorem r_isub {x y : Int32} (hd : decode (mC M) pc = .ok (.isub, 1)) (K : kr_AW M d (pc + 1) lv (.int (x - y) :: st) S r) : kr_AW M d pc lv (.int y :: .int x :: st) S r :=
  kr_go K (fun n h => kr_va_cons trivial (kr_va_tl (kr_va_tl h))) (fun p l e R s m args below meth c H locs cells slots Q ls ad hx hb ho ht hl k => lv_isub hx hb hd (k ls hl))
theorem r_imul {x y : Int32} (hd : decode (mC M) pc = .ok (.imul, 1)) (K : kr_AW M d (pc + 1) lv (.int (x * y) :: st) S r) : kr_AW M d pc lv (.int y :: .int x :: st) S r :=
  kr_go K (fun n h => kr_va_cons trivial (kr_va_tl (kr_va_tl h))) (fun p l e R s m args below meth c H locs cells slots Q ls ad hx hb ho ht hl k => lv_imul hx hb hd (k ls hl))
theorem r_iand {x y : Int32} (hd : decode (mC M) pc = .ok (.iand, 1)) (K : kr_AW M d (pc + 1) lv (.int (x &&& y) :: st) S r) : kr_AW M d pc lv (.int y :: .int x :: st) S r :=
  kr_go K (fun n h => kr_va_cons trivial (kr_va_tl (kr_va_tl h))) (fun p l e R s m args below meth c H locs cells slots Q ls ad hx hb ho ht hl k => lv_iand hx hb hd (k ls hl))
theorem r_ior {x y : Int32} (hd : decode (mC M) pc = .ok (.ior, 1)) (K : kr_AW M d (pc + 1) lv (.int (x ||| y) :: st) S r) : kr_AW M d pc lv (.int y :: .int x :: st) S r :=
  kr_go K (fun n h => kr_va_cons trivial (kr_va_tl (kr_va_tl h))) (fun p l e R s m args below meth c H locs cells slots Q ls ad hx hb ho ht hl k => lv_ior hx hb hd (k ls hl))
theorem r_ixor {x y : Int32} (hd : decode (mC M) pc = .ok (.ixor, 1)) (K : kr_AW M d (pc + 1) lv (.int (x ^^^ y) :: st) S r) : kr_AW M d pc lv (.int y :: .int x :: st) S r :=
  kr_go K (fun n h => kr_va_cons trivial (kr_va_tl (kr_va_tl h))) (fun p l e R s m args below meth c H locs cells slots Q ls ad hx hb ho ht hl k => lv_ixor hx hb hd (k ls hl))
theorem r_idiv {x y : Int32} (h0 : ¬ y = 0) (hd : decode (mC M) pc = .ok (.idiv, 1)) (K : kr_AW M d (pc + 1) lv (.int (x / y) :: st) S r) : kr_AW M d pc lv (.int y :: .int x :: st) S r :=
  kr_go K (fun n h => kr_va_cons trivial (kr_va_tl (kr_va_tl h))) (fun p l e R s m args below meth c H locs cells slots Q ls ad hx hb ho ht hl k => lv_idiv hx hb hd h0 (k ls hl))
theorem r_irem {x y : Int32} (h0 : ¬ y = 0) (hd : decode (mC M) pc = .ok (.irem, 1)) (K : kr_AW M d (pc + 1) lv (.int (x - x / y * y) :: st) S r) : kr_AW M d pc lv (.int y :: .int x :: st) S r :=
  kr_go K (fun n h => kr_va_cons trivial (kr_va_tl (kr_va_tl h))) (fun p l e R s m args below meth c H locs cells slots Q ls ad hx hb ho ht hl k => lv_irem hx hb hd h0 (k ls hl))
theorem r_ishl {x y : Int32} (hd : decode (mC M) pc = .ok (.ishl, 1)) (K : kr_AW M d (pc + 1) lv (.int (x <<< (y &&& 31)) :: st) S r) : kr_AW M d pc lv (.int y :: .int x :: st) S r :=
  kr_go K (fun n h => kr_va_cons trivial (kr_va_tl (kr_va_tl h))) (fun p l e R s m args below meth c H locs cells slots Q ls ad hx hb ho ht hl k => lv_ishl hx hb hd (k ls hl))
theorem r_ishr {x y : Int32} (hd : decode (mC M) pc = .ok (.ishr, 1)) (K : kr_AW M d (pc + 1) lv (.int (x >>> (y &&& 31)) :: st) S r) : kr_AW M d pc lv (.int y :: .int x :: st) S r :=
  kr_go K (fun n h => kr_va_cons trivial (kr_va_tl (kr_va_tl h))) (fun p l e R s m args below meth c H locs cells slots Q ls ad hx hb ho ht hl k => lv_ishr hx hb hd (k ls hl))
theorem r_iushr {x y : Int32} (hd : decode (mC M) pc = .ok (.iushr, 1)) (K : kr_AW M d (pc + 1) lv (.int (x.toUInt32 >>> (y.toUInt32 &&& Int32.toUInt32 31)).toInt32 :: st) S r) : kr_AW M d pc lv (.int y :: .int x :: st) S r :=
  kr_go K (fun n h => kr_va_cons trivial (kr_va_tl (kr_va_tl h))) (fun p l e R s m args below meth c H locs cells slots Q ls ad hx hb ho ht hl k => lv_iushr hx hb hd rfl (k ls hl))
theorem r_i2l {x : Int32} (hd : decode (mC M) pc = .ok (.i2l, 1)) (K : kr_AW M d (pc + 1) lv (.long x.toInt64 :: st) S r) : kr_AW M d pc lv (.int x :: st) S r :=
  kr_go K (fun n h => kr_va_cons trivial (kr_va_tl h)) (fun p l e R s m args below meth c H locs cells slots Q ls ad hx hb ho ht hl k => lv_i2l hx hb hd rfl (k ls hl))
theorem r_lcmp {x y : Int64} (hd : decode (mC M) pc = .ok (.lcmp, 1)) (K : kr_AW M d (pc + 1) lv (.int (lg_cmp x y) :: st) S r) : kr_AW M d pc lv (.long y :: .long x :: st) S r :=
  kr_go K (fun n h => kr_va_cons trivial (kr_va_tl (kr_va_tl h))) (fun p l e R s m args below meth c H locs cells slots Q ls ad hx hb ho ht hl k => W.lcmp hx hb hd (k ls hl))
theorem r_dup {v : Value} (hv : v.category = 1) (hd : decode (mC M) pc = .ok (.dup, 1)) (K : kr_AW M d (pc + 1) lv (v :: v :: st) S r) : kr_AW M d pc lv (v :: st) S r :=
  kr_go K (fun n h => kr_va_cons (kr_va_hd h) h) (fun p l e R s m args below meth c H locs cells slots Q ls ad hx hb ho ht hl k => lv_dup hx hb hd ((kr_cat ad v).trans hv) (k ls hl))
theorem r_pop {v : Value} (hv : v.category = 1) (hd : decode (mC M) pc = .ok (.pop, 1)) (K : kr_AW M d (pc + 1) lv (st) S r) : kr_AW M d pc lv (v :: st) S r :=
  kr_go K (fun n h => kr_va_tl h) (fun p l e R s m args below meth c H locs cells slots Q ls ad hx hb ho ht hl k => lv_pop hx hb hd ((kr_cat ad v).trans hv) (k ls hl))
theorem r_dup_x1 {v w : Value} (hv : v.category = 1) (hw : w.category = 1) (hd : decode (mC M) pc = .ok (.dup_x1, 1)) (K : kr_AW M d (pc + 1) lv (v :: w :: v :: st) S r) : kr_AW M d pc lv (v :: w :: st) S r :=
  kr_go K (fun n h => kr_va_cons (kr_va_hd h) (kr_va_cons (kr_va_hd (kr_va_tl h)) (kr_va_cons (kr_va_hd h) (kr_va_tl (kr_va_tl h))))) (fun p l e R s m args below meth c H locs cells slots Q ls ad hx hb ho ht hl k => lv_dup_x1 hx hb hd ((kr_cat ad v).trans hv) ((kr_cat ad w).trans hw) (k ls hl))
theorem r_dup2 {v w : Value} (hv : v.category = 1) (hw : w.category = 1) (hd : decode (mC M) pc = .ok (.dup2, 1)) (K : kr_AW M d (pc + 1) lv (v :: w :: v :: w :: st) S r) : kr_AW M d pc lv (v :: w :: st) S r :=
  kr_go K (fun n h => kr_va_cons (kr_va_hd h) (kr_va_cons (kr_va_hd (kr_va_tl h)) h)) (fun p l e R s m args below meth c H locs cells slots Q ls ad hx hb ho ht hl k => lv_dup2_11 hx hb hd ((kr_cat ad v).trans hv) ((kr_cat ad w).trans hw) (k ls hl))
theorem r_null  (hd : decode (mC M) pc = .ok (.aconst_null, 1)) (K : kr_AW M d (pc + 1) lv (va_rf none :: st) S r) : kr_AW M d pc lv (st) S r :=
  kr_go K (fun n h => kr_va_cons trivial h) (fun p l e R s m args below meth c H locs cells slots Q ls ad hx hb ho ht hl k => lv_null hx hb hd (k ls hl))
theorem r_goto {off : Int} {tgt : Nat} (hd : decode (mC M) pc = .ok (.goto off, 3)) (ht : (pc : Int) + off = (tgt : Int)) (K : kr_AW M d tgt lv st S r) : kr_AW M d pc lv st S r :=
  kr_go K (fun n h => h) (fun p l e R s m args below meth c H locs cells slots Q ls ad hx hb ho hts hl k => lv_goto hx hb hd ht (k ls hl))
theorem r_if_eq {x : Int32} {off : Int} {tgt : Nat} (hd : decode (mC M) pc = .ok (.ifCond .eq off, 3)) (ht : (pc : Int) + off = (tgt : Int)) (K1 : x = 0 → kr_AW M d tgt lv st S r) (K2 : ¬ (x = 0) → kr_AW M d (pc + 3) lv st S r) : kr_AW M d pc lv (.int x :: st) S r :=
  kr_go2 K1 K2 (fun n h => kr_va_tl h) (fun p l e R s m args below meth c H locs cells slots Q ls ad hx hb k1 k2 => lv_if_eq hx hb hd ht k1 k2)
theorem r_icmp_eq {x y : Int32} {off : Int} {tgt : Nat} (hd : decode (mC M) pc = .ok (.if_icmp .eq off, 3)) (ht : (pc : Int) + off = (tgt : Int)) (K1 : x = y → kr_AW M d tgt lv st S r) (K2 : ¬ (x = y) → kr_AW M d (pc + 3) lv st S r) : kr_AW M d pc lv (.int y :: .int x :: st) S r :=
  kr_go2 K1 K2 (fun n h => kr_va_tl (kr_va_tl h)) (fun p l e R s m args below meth c H locs cells slots Q ls ad hx hb k1 k2 => lv_icmp_eq hx hb hd ht k1 k2)
theorem r_if_ne {x : Int32} {off : Int} {tgt : Nat} (hd : decode (mC M) pc = .ok (.ifCond .ne off, 3)) (ht : (pc : Int) + off = (tgt : Int)) (K1 : x = 0 → kr_AW M d (pc + 3) lv st S r) (K2 : ¬ x = 0 → kr_AW M d tgt lv st S r) : kr_AW M d pc lv (.int x :: st) S r :=
  kr_go2 K1 K2 (fun n h => kr_va_tl h) (fun p l e R s m args below meth c H locs cells slots Q ls ad hx hb k1 k2 => lv_if_ne hx hb hd ht k2 k1)
theorem r_icmp_ne {x y : Int32} {off : Int} {tgt : Nat} (hd : decode (mC M) pc = .ok (.if_icmp .ne off, 3)) (ht : (pc : Int) + off = (tgt : Int)) (K1 : x = y → kr_AW M d (pc + 3) lv st S r) (K2 : ¬ x = y → kr_AW M d tgt lv st S r) : kr_AW M d pc lv (.int y :: .int x :: st) S r :=
  kr_go2 K1 K2 (fun n h => kr_va_tl (kr_va_tl h)) (fun p l e R s m args below meth c H locs cells slots Q ls ad hx hb k1 k2 => lv_icmp_ne hx hb hd ht k2 k1)
theorem r_if_lt {x : Int32} {off : Int} {tgt : Nat} (hd : decode (mC M) pc = .ok (.ifCond .lt off, 3)) (ht : (pc : Int) + off = (tgt : Int)) (K1 : x < 0 → kr_AW M d tgt lv st S r) (K2 : ¬ (x < 0) → kr_AW M d (pc + 3) lv st S r) : kr_AW M d pc lv (.int x :: st) S r :=
  kr_go2 K1 K2 (fun n h => kr_va_tl h) (fun p l e R s m args below meth c H locs cells slots Q ls ad hx hb k1 k2 => lv_if_lt hx hb hd ht k1 k2)
theorem r_icmp_lt {x y : Int32} {off : Int} {tgt : Nat} (hd : decode (mC M) pc = .ok (.if_icmp .lt off, 3)) (ht : (pc : Int) + off = (tgt : Int)) (K1 : x < y → kr_AW M d tgt lv st S r) (K2 : ¬ (x < y) → kr_AW M d (pc + 3) lv st S r) : kr_AW M d pc lv (.int y :: .int x :: st) S r :=
  kr_go2 K1 K2 (fun n h => kr_va_tl (kr_va_tl h)) (fun p l e R s m args below meth c H locs cells slots Q ls ad hx hb k1 k2 => lv_icmp_lt hx hb hd ht k1 k2)
theorem r_if_ge {x : Int32} {off : Int} {tgt : Nat} (hd : decode (mC M) pc = .ok (.ifCond .ge off, 3)) (ht : (pc : Int) + off = (tgt : Int)) (K1 : 0 ≤ x → kr_AW M d tgt lv st S r) (K2 : ¬ (0 ≤ x) → kr_AW M d (pc + 3) lv st S r) : kr_AW M d pc lv (.int x :: st) S r :=
  kr_go2 K1 K2 (fun n h => kr_va_tl h) (fun p l e R s m args below meth c H locs cells slots Q ls ad hx hb k1 k2 => lv_if_ge hx hb hd ht k1 k2)
theorem r_icmp_ge {x y : Int32} {off : Int} {tgt : Nat} (hd : decode (mC M) pc = .ok (.if_icmp .ge off, 3)) (ht : (pc : Int) + off = (tgt : Int)) (K1 : y ≤ x → kr_AW M d tgt lv st S r) (K2 : ¬ (y ≤ x) → kr_AW M d (pc + 3) lv st S r) : kr_AW M d pc lv (.int y :: .int x :: st) S r :=
  kr_go2 K1 K2 (fun n h => kr_va_tl (kr_va_tl h)) (fun p l e R s m args below meth c H locs cells slots Q ls ad hx hb k1 k2 => lv_icmp_ge hx hb hd ht k1 k2)
theorem r_if_gt {x : Int32} {off : Int} {tgt : Nat} (hd : decode (mC M) pc = .ok (.ifCond .gt off, 3)) (ht : (pc : Int) + off = (tgt : Int)) (K1 : 0 < x → kr_AW M d tgt lv st S r) (K2 : ¬ (0 < x) → kr_AW M d (pc + 3) lv st S r) : kr_AW M d pc lv (.int x :: st) S r :=
  kr_go2 K1 K2 (fun n h => kr_va_tl h) (fun p l e R s m args below meth c H locs cells slots Q ls ad hx hb k1 k2 => lv_if_gt hx hb hd ht k1 k2)
theorem r_icmp_gt {x y : Int32} {off : Int} {tgt : Nat} (hd : decode (mC M) pc = .ok (.if_icmp .gt off, 3)) (ht : (pc : Int) + off = (tgt : Int)) (K1 : y < x → kr_AW M d tgt lv st S r) (K2 : ¬ (y < x) → kr_AW M d (pc + 3) lv st S r) : kr_AW M d pc lv (.int y :: .int x :: st) S r :=
  kr_go2 K1 K2 (fun n h => kr_va_tl (kr_va_tl h)) (fun p l e R s m args below meth c H locs cells slots Q ls ad hx hb k1 k2 => lv_icmp_gt hx hb hd ht k1 k2)
theorem r_if_le {x : Int32} {off : Int} {tgt : Nat} (hd : decode (mC M) pc = .ok (.ifCond .le off, 3)) (ht : (pc : Int) + off = (tgt : Int)) (K1 : x ≤ 0 → kr_AW M d tgt lv st S r) (K2 : ¬ (x ≤ 0) → kr_AW M d (pc + 3) lv st S r) : kr_AW M d pc lv (.int x :: st) S r :=
  kr_go2 K1 K2 (fun n h => kr_va_tl h) (fun p l e R s m args below meth c H locs cells slots Q ls ad hx hb k1 k2 => lv_if_le hx hb hd ht k1 k2)
theorem r_icmp_le {x y : Int32} {off : Int} {tgt : Nat} (hd : decode (mC M) pc = .ok (.if_icmp .le off, 3)) (ht : (pc : Int) + off = (tgt : Int)) (K1 : x ≤ y → kr_AW M d tgt lv st S r) (K2 : ¬ (x ≤ y) → kr_AW M d (pc + 3) lv st S r) : kr_AW M d pc lv (.int y :: .int x :: st) S r :=
  kr_go2 K1 K2 (fun n h => kr_va_tl (kr_va_tl h)) (fun p l e R s m args below meth c H locs cells slots Q ls ad hx hb k1 k2 => lv_icmp_le hx hb hd ht k1 k2)
theorem r_ifnull {x : Option Nat} {off : Int} {tgt : Nat} (hd : decode (mC M) pc = .ok (.ifnull off, 3)) (ht : (pc : Int) + off = (tgt : Int)) (K1 : x = none → kr_AW M d tgt lv st S r) (K2 : ¬ x = none → kr_AW M d (pc + 3) lv st S r) : kr_AW M d pc lv (va_rf x :: st) S r := by
  refine kr_go2 K1 K2 (fun n h => kr_va_tl h) (fun p l e R s m args below meth c H locs cells slots Q ls ad hx hb k1 k2 => ?_)
  cases x with
  | none => exact lv_ifnullN hx hb hd ht (k1 rfl)
  | some a => exact lv_ifnull hx hb hd (k2 (fun z => by cases z))
theorem r_ifnonnull {x : Option Nat} {off : Int} {tgt : Nat} (hd : decode (mC M) pc = .ok (.ifnonnull off, 3)) (ht : (pc : Int) + off = (tgt : Int)) (K1 : x = none → kr_AW M d (pc + 3) lv st S r) (K2 : ¬ x = none → kr_AW M d tgt lv st S r) : kr_AW M d pc lv (va_rf x :: st) S r := by
  refine kr_go2 K1 K2 (fun n h => kr_va_tl h) (fun p l e R s m args below meth c H locs cells slots Q ls ad hx hb k1 k2 => ?_)
  cases x with
  | none => exact lv_ifnonnullN hx hb hd (k1 rfl)
  | some a => exact lv_ifnonnull hx hb hd ht (k2 (fun z => by cases z))
theorem r_tableIn {dflt lo hi : Int} {offs : Array Int} {len : Nat} {x : Int32} {off : Int} {tgt : Nat} (hd : decode (mC M) pc = .ok (.tableswitch dflt lo hi offs, len)) (h1 : ¬ x.toInt < lo) (h2 : ¬ hi < x.toInt) (ho : offs[(x.toInt - lo).toNat]? = some off) (ht : (pc : Int) + off = (tgt : Int)) (K : kr_AW M d tgt lv st S r) : kr_AW M d pc lv (.int x :: st) S r :=
  kr_go K (fun n h => kr_va_tl h) (fun p l e R s m args below meth c H locs cells slots Q ls ad hx hb _ hts hl k => lv_tableIn hx hb hd h1 h2 ho ht (k ls hl))
theorem r_tableOut {dflt lo hi : Int} {offs : Array Int} {len : Nat} {x : Int32} {tgt : Nat} (hd : decode (mC M) pc = .ok (.tableswitch dflt lo hi offs, len)) (h : x.toInt < lo ∨ hi < x.toInt) (ht : (pc : Int) + dflt = (tgt : Int)) (K : kr_AW M d tgt lv st S r) : kr_AW M d pc lv (.int x :: st) S r :=
  kr_go K (fun n h => kr_va_tl h) (fun p l e R s m args below meth c H locs cells slots Q ls ad hx hb _ hts hl k => lv_tableOut hx hb hd h ht (k ls hl))
end KR
end
section
/-! ===== reads and writes of the state: none where the machine would throw ===== -/
def gI (S : AS) (κ j : Nat) (x : Option Nat) : Option Int32 := x.bind fun k => if sK S k = κ then some (sI S k j) else none
def gR (S : AS) (κ j : Nat) (x : Option Nat) : Option (Option Nat) := x.bind fun k => if sK S k = κ then some (sR S k j) else none
def pI (S : AS) (κ j : Nat) (x : Option Nat) (v : Int32) : Option AS := x.bind fun k => if sK S k = κ then some (wI S k j v) else none
def pZ (S : AS) (κ j : Nat) (x : Option Nat) (v : Int32) : Option AS := x.bind fun k => if sK S k = κ ∧ (v = 0 ∨ v = 1) then some (wI S k j v) else none
/-- a place that is there, or none -/
def kr_pb (S : AS) (v : Option Nat) : Bool := v.all fun a => sK S a != 0
def pR (S : AS) (κ j : Nat) (x : Option Nat) (v : Option Nat) : Option AS := x.bind fun k => if sK S k = κ ∧ kr_pb S v = true then some (wR S k j v) else none
/-- arrays: 40 of ints, 41 of booleans (2 the weights), 42 of longs, 43 to 45 of references -/
def aI (S : AS) (κ : Nat) (x : Option Nat) (i : Int32) : Option Int32 := x.bind fun k => if sK S k = κ ∧ 0 ≤ i.toInt ∧ i.toInt < (sL S k : Int) then some (sI S k i.toNatClampNeg) else none
def aR (S : AS) (κ : Nat) (x : Option Nat) (i : Int32) : Option (Option Nat) := x.bind fun k => if sK S k = κ ∧ 0 ≤ i.toInt ∧ i.toInt < (sL S k : Int) then some (sR S k i.toNatClampNeg) else none
def aJ (S : AS) (x : Option Nat) (i : Int32) : Option Int64 := x.bind fun k => if sK S k = 42 ∧ 0 ≤ i.toInt ∧ i.toInt < (sL S k : Int) then some (sJ S k i.toNatClampNeg) else none
def bI (S : AS) (x : Option Nat) (i : Int32) (v : Int32) : Option AS := x.bind fun k => if sK S k = 40 ∧ 0 ≤ i.toInt ∧ i.toInt < (sL S k : Int) then some (wI S k i.toNatClampNeg v) else none
def bZ (S : AS) (x : Option Nat) (i : Int32) (v : Int32) : Option AS := x.bind fun k => if sK S k = 41 ∧ (0 ≤ i.toInt ∧ i.toInt < (sL S k : Int)) ∧ (v = 0 ∨ v = 1) then some (wI S k i.toNatClampNeg v) else none
def bJ (S : AS) (x : Option Nat) (i : Int32) (v : Int64) : Option AS := x.bind fun k => if sK S k = 42 ∧ 0 ≤ i.toInt ∧ i.toInt < (sL S k : Int) then some (wJ S k i.toNatClampNeg v) else none
/-- an array of references of kind κ takes an object of a kind from lo to hi -/
def bR (S : AS) (κ lo hi : Nat) (x : Option Nat) (i : Int32) (v : Option Nat) : Option AS := x.bind fun k => v.bind fun a => if sK S k = κ ∧ (0 ≤ i.toInt ∧ i.toInt < (sL S k : Int)) ∧ (lo ≤ sK S a ∧ sK S a ≤ hi) then some (wR S k i.toNatClampNeg (some a)) else none
def aN (S : AS) (x : Option Nat) : Option Int32 := x.bind fun k => if 40 ≤ sK S k ∨ sK S k = 1 then some (Int32.ofNat (sL S k)) else none
/-- the script is read -/
def kr_sx (X : Nat → Int32) (L : Nat) (i : Int32) : Option Int32 := if 0 ≤ i.toInt ∧ i.toInt < (L : Int) then some (X i.toNatClampNeg) else none
/-- a new array of n places -/
def nA (S : AS) (κ : Nat) (n : Int32) : Option AS := if 0 ≤ n.toInt ∧ n.toInt ≤ 100000 then some (wN S κ n.toNatClampNeg n.toNatClampNeg) else none
/-- two references are compared: each is none, a place of the run's own, or the JDK's empty array -/
def kr_ac (S : AS) (x : Option Nat) : Option Unit := if (x.all fun a => sK S a != 0 && (a == 0 || decide (4 ≤ a))) = true then some () else none
def kr_z (v : Int32) : Option Unit := if v = 0 ∨ v = 1 then some () else none
def kr_cc (S : AS) (κ : Nat) (x : Option Nat) : Option Unit := if (x.all fun a => sK S a == κ) = true then some () else none
/-! ===== links of fields ===== -/
def kr_lk (own : String) (i : Nat) (ref n d : String) : Prop := Cond.fieldLink own i ref n d ∈ kr_TB ∨ ∃ host, Cond.fieldLinkNest own i ref n d host ∈ kr_NB
def kr_sm (ref decl n d : String) : Prop := ref = decl ∨ Cond.sameField ref decl n d ∈ kr_TB
def kr_fk (own : String) (i κ j : Nat) : Prop := (10 ≤ κ ∧ κ < 10 + kr_nC) ∧ j < kr_cN (κ - 10) ∧ ∃ ref, kr_lk own i ref (kr_cF (κ - 10) j).2.1 (kr_cF (κ - 10) j).2.2.1 ∧ kr_sm ref (kr_cF (κ - 10) j).1 (kr_cF (κ - 10) j).2.1 (kr_cF (κ - 10) j).2.2.1
theorem kr_same {args : Array Value} {s : State} {ref decl n d : String} (ht : ∀ w ∈ kr_TB, w.before args s = true) (h : kr_sm ref decl n d) : ∀ x, s.fieldFound? decl n d = some x → s.fieldFound? ref n d = some x := by
  rcases h with rfl | h
  · exact fun _ h => h
  · exact u_same (ht _ h)
/-! ===== places ===== -/
theorem kr_ok.ge {g : GG} {S : AS} (h : kr_ok g S) {k : Nat} (hk : 10 ≤ sK S k) : 4 ≤ k ∧ k < sN S := by
  obtain ⟨h1, h2, h3, ⟨e0, e1, e2, e3⟩, -⟩ := h
  refine ⟨?_, ?_⟩
  · rcases Nat.lt_or_ge k 4 with q | q
    · rcases (show k = 0 ∨ k = 1 ∨ k = 2 ∨ k = 3 by omega) with rfl | rfl | rfl | rfl <;> omega
    · exact q
  · rcases Nat.lt_or_ge k (sN S) with q | q
    · exact q
    · have := h2 k q
      omega
theorem kr_ok.lt {g : GG} {S : AS} (h : kr_ok g S) {k : Nat} (hk : sK S k ≠ 0) : k < sN S := by
  rcases Nat.lt_or_ge k (sN S) with q | q
  · exact q
  · exact absurd (h.2.1 k q) hk
theorem kr_cE_eq {g : GG} {ad : Nat → Nat} {S S' : AS} {k : Nat} (h1 : sK S' k = sK S k) (h2 : sL S' k = sL S k) (h3 : sI S' k = sI S k) (h4 : sR S' k = sR S k) (h5 : sJ S' k = sJ S k) : kr_cE g ad S' k = kr_cE g ad S k := by
  simp only [kr_cE, kr_oL, kr_oV, h1, h2, h3, h4, h5]
theorem kr_ws_set {g : GG} {ad : Nat → Nat} {S S' : AS} {k : Nat} (hn : sN S' = sN S) (h4 : 4 ≤ k) (hk : k < sN S) (h : ∀ k', k' ≠ k → kr_cE g ad S' k' = kr_cE g ad S k') : kr_ws g ad S' = (kr_ws g ad S).set (k - 4) (ad k, kr_cE g ad S' k) := by
  apply List.ext_getElem?
  intro i
  by_cases hi : i = k - 4
  · subst hi
    rw [List.getElem?_set_self (by simp [kr_ws]; omega)]
    exact kr_ws_at h4 (by omega)
  · rw [List.getElem?_set_ne (Ne.symm hi)]
    simp only [kr_ws, hn, List.getElem?_map]
    cases hr : (List.range (sN S - 4))[i]? with
    | none => rfl
    | some a =>
      have e : a = i := by
        have := (List.getElem?_eq_some_iff.mp hr).2
        simpa using this.symm
      subst e
      simp only [Option.map_some]
      rw [h (a + 4) (by omega)]
theorem kr_oL_at {ad : Nat → Nat} {S : AS} {k c j : Nat} (h : j < kr_cN c) : (kr_oL ad S k c)[j]? = some (kr_oV ad S k j (kr_cY c j)) := by
  simp [kr_oL, h]
theorem kr_oL_set {ad : Nat → Nat} {S S' : AS} {k c j : Nat} {v : Value} (h : j < kr_cN c) (h1 : ∀ i, i ≠ j → sI S' k i = sI S k i) (h2 : ∀ i, i ≠ j → sR S' k i = sR S k i) (h3 : kr_oV ad S' k j (kr_cY c j) = v) : kr_oL ad S' k c = (kr_oL ad S k c).set j v := by
  apply List.ext_getElem?
  intro i
  by_cases hi : i = j
  · subst hi
    rw [List.getElem?_set_self (by simp [kr_oL]; exact h), kr_oL_at h, h3]
  · rw [List.getElem?_set_ne (Ne.symm hi)]
    simp only [kr_oL, List.getElem?_map]
    cases hr : (List.range (kr_cN c))[i]? with
    | none => rfl
    | some a =>
      have e : a = i := by
        have := (List.getElem?_eq_some_iff.mp hr).2
        simpa using this.symm
      subst e
      simp only [Option.map_some, kr_oV, h1 a hi, h2 a hi]
theorem kr_u_ne {α : Type} {f : Nat → Nat → α} {k j : Nat} {v : α} {a : Nat} (h : a ≠ k) : kr_u f k j v a = f a := by
  funext b
  simp [kr_u, h]
theorem kr_u_nj {α : Type} {f : Nat → Nat → α} {k j : Nat} {v : α} {b : Nat} (h : b ≠ j) : kr_u f k j v k b = f k b := by simp [kr_u, h]
theorem kr_u_eq {α : Type} {f : Nat → Nat → α} {k j : Nat} {v : α} : kr_u f k j v k j = v := by simp [kr_u]
theorem kr_obj {g : GG} {ad : Nat → Nat} {S : AS} {k κ : Nat} (hk : sK S k = κ) (h : 10 ≤ κ ∧ κ < 10 + kr_nC) : kr_cE g ad S k = .inr (κ - 10, kr_oL ad S k (κ - 10)) := by
  have h2 : κ < 40 := Nat.lt_of_lt_of_le h.2 (by decide)
  simp only [kr_cE, hk, if_pos h2]
theorem kr_wI_ok {g : GG} {S : AS} {k j : Nat} {v : Int32} (h : kr_ok g S) (h4 : 4 ≤ k) : kr_ok g (wI S k j v) := by
  obtain ⟨h1, h2, h3, he, hl, hw, hr⟩ := h
  exact ⟨h1, h2, h3, he, hl, fun b hb => by show kr_u (sI S) k j v 1 b = _; rw [kr_u_ne (by omega)]; exact hw b hb, hr⟩
theorem kr_wJ_ok {g : GG} {S : AS} {k j : Nat} {v : Int64} (h : kr_ok g S) : kr_ok g (wJ S k j v) := h
theorem kr_wR_ok {g : GG} {S : AS} {k j : Nat} {v : Option Nat} (h : kr_ok g S) (hv : ∀ a, v = some a → a < sN S) : kr_ok g (wR S k j v) := by
  obtain ⟨h1, h2, h3, he, hl, hw, hr⟩ := h
  refine ⟨h1, h2, h3, he, hl, hw, fun k2 j2 a h => ?_⟩
  have h' : kr_u (sR S) k j v k2 j2 = some a := h
  unfold kr_u at h'
  split at h'
  · exact hv a h'
  · exact hr k2 j2 a h'
theorem kr_wI_cE {g : GG} {ad : Nat → Nat} {S : AS} {k j : Nat} {v : Int32} {k' : Nat} (h : k' ≠ k) : kr_cE g ad (wI S k j v) k' = kr_cE g ad S k' := kr_cE_eq rfl rfl (kr_u_ne h) rfl rfl
theorem kr_wR_cE {g : GG} {ad : Nat → Nat} {S : AS} {k j : Nat} {v : Option Nat} {k' : Nat} (h : k' ≠ k) : kr_cE g ad (wR S k j v) k' = kr_cE g ad S k' := kr_cE_eq rfl rfl rfl (kr_u_ne h) rfl
theorem kr_wJ_cE {g : GG} {ad : Nat → Nat} {S : AS} {k j : Nat} {v : Int64} {k' : Nat} (h : k' ≠ k) : kr_cE g ad (wJ S k j v) k' = kr_cE g ad S k' := kr_cE_eq rfl rfl rfl rfl (kr_u_ne h)
end
section
section KR
variable {M : MM} {d pc : Nat} {lv : List (Nat × Value)} {st : List Value} {S : AS} {r : AR}
/-- a field is read -/
theorem kr_getC {κ j i k : Nat} {v : Value} (hk : sK S k = κ) (hf : kr_fk (mO M) i κ j) (hv : ∀ ad, kr_oV ad S k j (kr_cY (κ - 10) j) = cv ad v) (hl : ∀ g, kr_ok g S → kr_vl (sN S) v) (hd : decode (mC M) pc = .ok (.getfield i, 3)) (K : kr_AW M d (pc + 3) lv (v :: st) S r) : kr_AW M d pc lv (.ref k :: st) S r := by
  obtain ⟨hκ, hj, ref, hlk, hsm⟩ := hf
  refine ⟨K.1, ?_⟩
  intro g p l e s m args below meth c ad0 n0 c0 s0 mc ms C ad H locs ls cells slots A
  obtain ⟨a1, a2, a3, a4, a5, a6, a7, a8, a9, a10⟩ := A
  have C' := C
  obtain ⟨hx, hb, hml, hrt, ho, ht, hlocks, hst, htab, hnm, hB⟩ := C
  obtain ⟨hok, hsp, hP, hD⟩ := id a7
  obtain ⟨h4, hkn⟩ := hok.ge (k := k) (by rw [hk]; exact hκ.1)
  have he : (kr_ws g ad S)[k - 4]? = some (ad k, .inr (κ - 10, kr_oL ad S k (κ - 10))) := by rw [kr_ws_at h4 hkn, kr_obj hk hκ]
  have hc : κ - 10 < kr_nC := by omega
  have kk := K.2 g p l e s m args below meth c ad0 n0 c0 s0 mc ms C' ad H locs ls cells slots ⟨a1, a2, a3, a4, a5, a6, a7, a8, a9, kr_va_cons (hl g hok) (kr_va_tl a10)⟩
  have hvv : (kr_oL ad S k (κ - 10))[j]? = some (cv ad v) := by rw [kr_oL_at hj, hv]
  rcases hlk with hlk | ⟨host, hlk⟩
  · exact va_get hx hb ht (kr_in _ hc) ho hB.2.1 hP (k - 4) he (kr_cl_at hc) j hj (ht _ hlk) (kr_same ht hsm) hvv hd kk
  · exact va_getN hx hb ht (kr_in _ hc) ho hB.2.1 hP (k - 4) he (kr_cl_at hc) j hj (va_Nw.use rfl (hB.2.2.1 _ hlk)) (kr_same ht hsm) hvv hd kk
theorem r_getI {κ j i : Nat} {x : Option Nat} {v : Int32} (h : gI S κ j x = some v) (hf : kr_fk (mO M) i κ j) (hy : kr_isR (kr_cY (κ - 10) j) = false) (hd : decode (mC M) pc = .ok (.getfield i, 3)) (K : kr_AW M d (pc + 3) lv (.int v :: st) S r) : kr_AW M d pc lv (va_rf x :: st) S r := by
  cases x with
  | none => cases h
  | some k =>
    simp only [gI, Option.bind_some] at h
    split at h
    · next hk =>
      cases h
      exact kr_getC (v := .int (sI S k j)) hk hf (fun ad => by simp only [kr_oV, hy]; rfl) (fun _ _ => trivial) hd K
    · cases h
theorem r_getR {κ j i : Nat} {x v : Option Nat} (h : gR S κ j x = some v) (hf : kr_fk (mO M) i κ j) (hy : kr_isR (kr_cY (κ - 10) j) = true) (hd : decode (mC M) pc = .ok (.getfield i, 3)) (K : kr_AW M d (pc + 3) lv (va_rf v :: st) S r) : kr_AW M d pc lv (va_rf x :: st) S r := by
  cases x with
  | none => cases h
  | some k =>
    simp only [gR, Option.bind_some] at h
    split at h
    · next hk =>
      cases h
      refine kr_getC (v := va_rf (sR S k j)) hk hf (fun ad => by simp only [kr_oV, hy, if_true, kr_rf]) (fun g hok => ?_) hd K
      cases hv : sR S k j with
      | none => trivial
      | some a => exact hok.2.2.2.2.2.2 k j a hv
    · cases h
/-- a field is written: the state S1 holds at k, j the value w, and is S elsewhere -/
theorem kr_putC {κ j i k : Nat} {w : Value} {S1 : AS} {ty : FieldType} (hk : sK S k = κ) (hf : kr_fk (mO M) i κ j) (hfin : (kr_cF (κ - 10) j).2.2.2 = false ∨ ((kr_cF (κ - 10) j).2.2.2 = true ∧ mN M = "<init>" ∧ (kr_cF (κ - 10) j).1 = mO M ∧ ∃ ref, Cond.fieldLink (mO M) i ref (kr_cF (κ - 10) j).2.1 (kr_cF (κ - 10) j).2.2.1 ∈ kr_TB ∧ ref = (kr_cF (κ - 10) j).1)) (hty : kr_cY (κ - 10) j = ty) (hn : ∀ ad, narrow ty (cv ad w) = cv ad w) (hfit : ∀ ad, fits ty (cv ad w) = true)
    (e1 : sN S1 = sN S) (e2 : sC S1 = sC S) (e3 : sS S1 = sS S) (e4 : sK S1 = sK S) (e5 : ∀ g ad k', k' ≠ k → kr_cE g ad S1 k' = kr_cE g ad S k') (e6 : ∀ ad, kr_oL ad S1 k (κ - 10) = (kr_oL ad S k (κ - 10)).set j (cv ad w)) (e7 : ∀ g, kr_ok g S → 4 ≤ k → kr_ok g S1)
    (hd : decode (mC M) pc = .ok (.putfield i, 3)) (K : kr_AW M d (pc + 3) lv st S1 r) : kr_AW M d pc lv (w :: .ref k :: st) S r := by
  obtain ⟨hκ, hj, ref, hlk, hsm⟩ := hf
  refine ⟨by rw [← e2, ← e3, ← e1]; exact K.1, ?_⟩
  intro g p l e s m args below meth c ad0 n0 c0 s0 mc ms C ad H locs ls cells slots A
  obtain ⟨a1, a2, a3, a4, a5, a6, a7, a8, a9, a10⟩ := A
  have C' := C
  obtain ⟨hx, hb, hml, hrt, ho, ht, hlocks, hst, htab, hnm, hB⟩ := C
  obtain ⟨hok, hsp, hP, hD⟩ := id a7
  obtain ⟨h4, hkn⟩ := hok.ge (k := k) (by rw [hk]; exact hκ.1)
  have he : (kr_ws g ad S)[k - 4]? = some (ad k, .inr (κ - 10, kr_oL ad S k (κ - 10))) := by rw [kr_ws_at h4 hkn, kr_obj hk hκ]
  have hc : κ - 10 < kr_nC := by omega
  have hset : kr_ws g ad S1 = (kr_ws g ad S).set (k - 4) (ad k, .inr (κ - 10, (kr_oL ad S k (κ - 10)).set j (cv ad w))) := by
    rw [kr_ws_set e1 h4 hkn (e5 g ad), kr_obj (by rw [e4]; exact hk) hκ, e6]
  have hd' : parseFieldDescriptor (kr_cF (κ - 10) j).2.2.1 = some ty := by rw [← hty]; exact kr_ty _ hc j hj
  have hlen : j < (kr_oL ad S k (κ - 10)).length := by simp [kr_oL]; exact hj
  have kk : ∀ (H1 : Heap) (locs1 : List Loc), va_P (gD g) kr_cl ((kr_ws g ad S).set (k - 4) (ad k, .inr (κ - 10, (kr_oL ad S k (κ - 10)).set j (cv ad w)))) H1 → va_D (kr_fr g) ((kr_ws g ad S).set (k - 4) (ad k, .inr (κ - 10, (kr_oL ad S k (κ - 10)).set j (cv ad w)))) → va_S (kr_fr g) s.heap H1 locs1 → W p l e (kr_room d mc ms) s m args below meth c H1 locs1 cells slots (vx_MQ below (kr_Q g ad0 n0 r) (kr_XC g ad0 n0 r) args s mc ms (kr_fr g)) (F0 m (pc + 3) ls (st.map (cv ad))) := by
    intro H1 locs1 hP1 hD1 hS1
    rw [← hset] at hP1 hD1
    exact K.2 g p l e s m args below meth c ad0 n0 c0 s0 mc ms C' ad H1 locs1 ls cells slots ⟨a1.trans e2.symm, a2.trans e3.symm, a3, a4, by rw [e1]; exact a5, a6, ⟨e7 g hok h4, hsp, hP1, hD1⟩, hS1, a9, by rw [e1]; exact kr_va_tl (kr_va_tl a10)⟩
  rcases hfin with hfin | ⟨hfin, hini, hdecl, ref2, hlk2, rfl⟩
  · rcases hlk with hlk | ⟨host, hlk⟩
    · exact va_put hx hb ht (kr_in _ hc) _ (kr_ty _ hc) (kr_nm _ hc) ho hB.2.1 hP hD a8 (k - 4) he (kr_cl_at hc) j hj (ht _ hlk) (kr_same ht hsm) hfin hd' (hn ad) (hfit ad) hlen hd kk
    · exact va_putN hx hb ht (kr_in _ hc) _ (kr_ty _ hc) (kr_nm _ hc) ho hB.2.1 hP hD a8 (k - 4) he (kr_cl_at hc) j hj (va_Nw.use rfl (hB.2.2.1 _ hlk)) (kr_same ht hsm) hfin hd' (hn ad) (hfit ad) hlen hd kk
  · exact va_putF hx hb ht (kr_in _ hc) _ (kr_ty _ hc) (kr_nm _ hc) ho hB.2.1 hP hD a8 (k - 4) he (kr_cl_at hc) j hj (ht _ hlk2) (fun _ h => h) hfin (hnm.1.trans hini) hdecl hd' (hn ad) (hfit ad) hlen hd kk
/-- a field that may be written here: not final, or in its own class's constructor -/
def kr_fw (M : MM) (i κ j : Nat) : Prop := (kr_cF (κ - 10) j).2.2.2 = false ∨ ((kr_cF (κ - 10) j).2.2.2 = true ∧ mN M = "<init>" ∧ (kr_cF (κ - 10) j).1 = mO M ∧ ∃ ref, Cond.fieldLink (mO M) i ref (kr_cF (κ - 10) j).2.1 (kr_cF (κ - 10) j).2.2.1 ∈ kr_TB ∧ ref = (kr_cF (κ - 10) j).1)
theorem r_putI {κ j i : Nat} {x : Option Nat} {v : Int32} {S1 : AS} (h : pI S κ j x v = some S1) (hf : kr_fk (mO M) i κ j) (hw : kr_fw M i κ j) (hy : kr_cY (κ - 10) j = .int) (hd : decode (mC M) pc = .ok (.putfield i, 3)) (K : kr_AW M d (pc + 3) lv st S1 r) : kr_AW M d pc lv (.int v :: va_rf x :: st) S r := by
  cases x with
  | none => cases h
  | some k =>
    simp only [pI, Option.bind_some] at h
    split at h
    · next hk =>
      cases h
      exact kr_putC (w := .int v) (S1 := wI S k j v) hk hf hw hy (fun _ => rfl) (fun _ => rfl) rfl rfl rfl rfl (fun g ad k' h => kr_wI_cE h) (fun ad => kr_oL_set hf.2.1 (fun i hi => kr_u_nj hi) (fun i hi => rfl) (by rw [hy]; exact congrArg Value.int kr_u_eq)) (fun g hok h4 => kr_wI_ok hok h4) hd K
    · cases h
theorem r_putZ {κ j i : Nat} {x : Option Nat} {v : Int32} {S1 : AS} (h : pZ S κ j x v = some S1) (hf : kr_fk (mO M) i κ j) (hw : kr_fw M i κ j) (hy : kr_cY (κ - 10) j = .boolean) (hd : decode (mC M) pc = .ok (.putfield i, 3)) (K : kr_AW M d (pc + 3) lv st S1 r) : kr_AW M d pc lv (.int v :: va_rf x :: st) S r := by
  cases x with
  | none => cases h
  | some k =>
    simp only [pZ, Option.bind_some] at h
    split at h
    · next hk =>
      cases h
      exact kr_putC (w := .int v) (S1 := wI S k j v) hk.1 hf hw hy (fun _ => by rcases hk.2 with rfl | rfl <;> rfl) (fun _ => by rcases hk.2 with rfl | rfl <;> rfl) rfl rfl rfl rfl (fun g ad k' h => kr_wI_cE h) (fun ad => kr_oL_set hf.2.1 (fun i hi => kr_u_nj hi) (fun i hi => rfl) (by rw [hy]; exact congrArg Value.int kr_u_eq)) (fun g hok h4 => kr_wI_ok hok h4) hd K
    · cases h
theorem r_putR {κ j i : Nat} {x v : Option Nat} {S1 : AS} (h : pR S κ j x v = some S1) (hf : kr_fk (mO M) i κ j) (hw : kr_fw M i κ j) (hy : kr_isR (kr_cY (κ - 10) j) = true) (hd : decode (mC M) pc = .ok (.putfield i, 3)) (K : kr_AW M d (pc + 3) lv st S1 r) : kr_AW M d pc lv (va_rf v :: va_rf x :: st) S r := by
  cases x with
  | none => cases h
  | some k =>
    simp only [pR, Option.bind_some] at h
    split at h
    · next hk =>
      cases h
      obtain ⟨ty, hty⟩ : ∃ ty, kr_cY (κ - 10) j = ty := ⟨_, rfl⟩
      have hR : kr_isR ty = true := by rw [← hty]; exact hy
      refine kr_putC (w := va_rf v) (S1 := wR S k j v) hk.1 hf hw hty (fun ad => ?_) (fun ad => ?_) rfl rfl rfl rfl (fun g ad k' h => kr_wR_cE h) (fun ad => kr_oL_set hf.2.1 (fun i hi => rfl) (fun i hi => kr_u_nj hi) ?_) (fun g hok h4 => kr_wR_ok hok (fun a ha => ?_)) hd K
      · cases ty <;> first | (cases hR; done) | (cases v <;> rfl)
      · cases ty <;> first | (cases hR; done) | (cases v <;> rfl)
      · simp only [kr_oV, hy, if_true, kr_rf]
        exact congrArg (fun z => va_rf (Option.map ad z)) kr_u_eq
      · have h2 := hk.2
        rw [ha] at h2
        exact hok.lt (by simpa [kr_pb] using h2)
    · cases h
end KR
end
section
theorem kr_in_vp {i : Int32} {n : Nat} (h : 0 ≤ i.toInt ∧ i.toInt < (n : Int)) : vp_in i n := vp_in_iff.mpr h
theorem kr_ai {g : GG} {ad : Nat → Nat} {S : AS} {k κ : Nat} (hk : sK S k = κ) (h : κ = 40 ∨ κ = 41) : kr_cE g ad S k = .inl (gA g (κ - 40), sL S k, .inl (sI S k)) := by
  rcases h with rfl | rfl <;> simp [kr_cE, hk]
theorem kr_aj {g : GG} {ad : Nat → Nat} {S : AS} {k : Nat} (hk : sK S k = 42) : kr_cE g ad S k = .inl (gA g 2, sL S k, .inr (.inl (sJ S k))) := by simp [kr_cE, hk]
theorem kr_ar {g : GG} {ad : Nat → Nat} {S : AS} {k κ : Nat} (hk : sK S k = κ) (h : 43 ≤ κ ∧ κ < 46) : kr_cE g ad S k = .inl (gA g (κ - 40), sL S k, .inr (.inr (.inr (.inr (fun j => (sR S k j).map ad))))) := by
  have h1 : ¬ κ < 40 := by omega
  have h2 : ¬ κ < 42 := by omega
  have h3 : ¬ κ = 42 := by omega
  simp [kr_cE, hk, h1, h2, h3]
theorem kr_obC : ∀ c, c < kr_nC → Cond.castable (kr_cC c) "java/lang/Object" ∈ kr_NB := by decide +kernel
section KR
variable {M : MM} {d pc : Nat} {lv : List (Nat × Value)} {st : List Value} {S : AS} {r : AR}
/-- a step that reads the heap: what is pushed is a value of the state -/
theorem kr_rd {pc' : Nat} {st' : List Value} (K : kr_AW M d pc' lv st' S r) (V : ∀ g, kr_ok g S → kr_va (sN S) lv st → kr_va (sN S) lv st')
    (f : ∀ (g : GG) (p : Program) (l : Launch) (e : Env) (R : Room) (s : State) (m : MethodId) (args : Array Value) (below : List Frame) (meth : Method) (c : Code) (H : Heap) (locs : List Loc) (cells slots : Nat) (Q : State → Prop) (ls : Array Slot) (ad : Nat → Nat),
      p.tables.exec = Jvm.exec → c.code = mC M → s.vm.findClass (mO M) = some m.cls → (∀ w ∈ kr_TB, w.before args s = true) → Bs g s s.heap → Wd g ad S H → va_S (kr_fr g) s.heap H locs →
      W p l e R s m args below meth c H locs cells slots Q (F0 m pc' ls (st'.map (cv ad))) → W p l e R s m args below meth c H locs cells slots Q (F0 m pc ls (st.map (cv ad)))) : kr_AW M d pc lv st S r := by
  refine ⟨K.1, ?_⟩
  intro g p l e s m args below meth c ad0 n0 c0 s0 mc ms C ad H locs ls cells slots A
  obtain ⟨a1, a2, a3, a4, a5, a6, a7, a8, a9, a10⟩ := A
  exact f g p l e _ s m args below meth c H locs cells slots _ ls ad C.1 C.2.1 C.2.2.2.2.1 C.2.2.2.2.2.1 C.2.2.2.2.2.2.2.2.2.2 a7 a8 (K.2 g p l e s m args below meth c ad0 n0 c0 s0 mc ms C ad H locs ls cells slots ⟨a1, a2, a3, a4, a5, a6, a7, a8, a9, V g a7.1 a10⟩)
/-- a step that changes one place -/
theorem kr_wr {pc' k : Nat} {st' : List Value} {S1 : AS} (K : kr_AW M d pc' lv st' S1 r) (h4 : 4 ≤ k → k < sN S → True) (e1 : sN S1 = sN S) (e2 : sC S1 = sC S) (e3 : sS S1 = sS S) (e5 : ∀ g ad k', k' ≠ k → kr_cE g ad S1 k' = kr_cE g ad S k') (e7 : ∀ g, kr_ok g S → kr_ok g S1) (hk : 10 ≤ sK S k) (V : kr_va (sN S) lv st → kr_va (sN S) lv st')
    (f : ∀ (g : GG) (p : Program) (l : Launch) (e : Env) (R : Room) (s : State) (m : MethodId) (args : Array Value) (below : List Frame) (meth : Method) (c : Code) (H : Heap) (locs : List Loc) (cells slots : Nat) (Q : State → Prop) (ls : Array Slot) (ad : Nat → Nat),
      p.tables.exec = Jvm.exec → c.code = mC M → s.vm.findClass (mO M) = some m.cls → (∀ w ∈ kr_TB, w.before args s = true) → Bs g s s.heap → Wd g ad S H → va_S (kr_fr g) s.heap H locs → (kr_ws g ad S)[k - 4]? = some (ad k, kr_cE g ad S k) →
      (∀ (H1 : Heap) (locs1 : List Loc), va_P (gD g) kr_cl ((kr_ws g ad S).set (k - 4) (ad k, kr_cE g ad S1 k)) H1 → va_D (kr_fr g) ((kr_ws g ad S).set (k - 4) (ad k, kr_cE g ad S1 k)) → va_S (kr_fr g) s.heap H1 locs1 → W p l e R s m args below meth c H1 locs1 cells slots Q (F0 m pc' ls (st'.map (cv ad)))) →
      W p l e R s m args below meth c H locs cells slots Q (F0 m pc ls (st.map (cv ad)))) : kr_AW M d pc lv st S r := by
  refine ⟨by rw [← e2, ← e3, ← e1]; exact K.1, ?_⟩
  intro g p l e s m args below meth c ad0 n0 c0 s0 mc ms C ad H locs ls cells slots A
  obtain ⟨a1, a2, a3, a4, a5, a6, a7, a8, a9, a10⟩ := A
  obtain ⟨h4, hkn⟩ := a7.1.ge hk
  have hset := kr_ws_set (g := g) (ad := ad) e1 h4 hkn (e5 g ad)
  refine f g p l e _ s m args below meth c H locs cells slots _ ls ad C.1 C.2.1 C.2.2.2.2.1 C.2.2.2.2.2.1 C.2.2.2.2.2.2.2.2.2.2 a7 a8 (kr_ws_at h4 hkn) (fun H1 locs1 hP1 hD1 hS1 => ?_)
  rw [← hset] at hP1 hD1
  exact K.2 g p l e s m args below meth c ad0 n0 c0 s0 mc ms C ad H1 locs1 ls cells slots ⟨a1.trans e2.symm, a2.trans e3.symm, a3, a4, by rw [e1]; exact a5, a6, ⟨e7 g a7.1, a7.2.1, hP1, hD1⟩, hS1, a9, by rw [e1]; exact V a10⟩
theorem r_iaload {x : Option Nat} {i v : Int32} (h : aI S 40 x i = some v) (hd : decode (mC M) pc = .ok (.iaload, 1)) (K : kr_AW M d (pc + 1) lv (.int v :: st) S r) : kr_AW M d pc lv (.int i :: va_rf x :: st) S r := by
  cases x with
  | none => cases h
  | some k =>
    simp only [aI, Option.bind_some] at h
    split at h
    · next hk =>
      cases h
      refine kr_rd K (fun g hok hv => kr_va_cons trivial (kr_va_tl (kr_va_tl hv))) (fun g p l e R s m args below meth c H locs cells slots Q ls ad hx hb ho ht hB hW hS kk => ?_)
      obtain ⟨h4, hkn⟩ := hW.1.ge (k := k) (by omega)
      exact va_iald hx hb hB.2.1 hW.2.2.1 (k - 4) 0 (by rw [kr_ws_at h4 hkn, kr_ai hk.1 (Or.inl rfl)]) (kr_tys_at (by decide)) (kr_in_vp hk.2) hd kk
    · cases h
theorem r_baload {x : Option Nat} {i v : Int32} (h : aI S 41 x i = some v) (hd : decode (mC M) pc = .ok (.baload, 1)) (K : kr_AW M d (pc + 1) lv (.int v :: st) S r) : kr_AW M d pc lv (.int i :: va_rf x :: st) S r := by
  cases x with
  | none => cases h
  | some k =>
    simp only [aI, Option.bind_some] at h
    split at h
    · next hk =>
      cases h
      refine kr_rd K (fun g hok hv => kr_va_cons trivial (kr_va_tl (kr_va_tl hv))) (fun g p l e R s m args below meth c H locs cells slots Q ls ad hx hb ho ht hB hW hS kk => ?_)
      obtain ⟨h4, hkn⟩ := hW.1.ge (k := k) (by omega)
      exact va_zald hx hb hB.2.1 hW.2.2.1 (k - 4) 1 (by rw [kr_ws_at h4 hkn, kr_ai hk.1 (Or.inr rfl)]) (kr_tys_at (by decide)) (kr_in_vp hk.2) hd kk
    · cases h
theorem r_laload {x : Option Nat} {i : Int32} {v : Int64} (h : aJ S x i = some v) (hd : decode (mC M) pc = .ok (.laload, 1)) (K : kr_AW M d (pc + 1) lv (.long v :: st) S r) : kr_AW M d pc lv (.int i :: va_rf x :: st) S r := by
  cases x with
  | none => cases h
  | some k =>
    simp only [aJ, Option.bind_some] at h
    split at h
    · next hk =>
      cases h
      refine kr_rd K (fun g hok hv => kr_va_cons trivial (kr_va_tl (kr_va_tl hv))) (fun g p l e R s m args below meth c H locs cells slots Q ls ad hx hb ho ht hB hW hS kk => ?_)
      obtain ⟨h4, hkn⟩ := hW.1.ge (k := k) (by omega)
      exact va_lald hx hb hB.2.1 hW.2.2.1 (k - 4) 2 (by rw [kr_ws_at h4 hkn, kr_aj hk.1]) (kr_tys_at (by decide)) (kr_in_vp hk.2) hd kk
    · cases h
theorem kr_aaC {κ : Nat} {C : String} {x : Option Nat} {i : Int32} {v : Option Nat} (hκ : 43 ≤ κ ∧ κ < 46) (hC : kr_aT (κ - 40) = .object C) (h : aR S κ x i = some v) (hd : decode (mC M) pc = .ok (.aaload, 1)) (K : kr_AW M d (pc + 1) lv (va_rf v :: st) S r) : kr_AW M d pc lv (.int i :: va_rf x :: st) S r := by
  cases x with
  | none => cases h
  | some k =>
    simp only [aR, Option.bind_some] at h
    split at h
    · next hk =>
      cases h
      refine kr_rd K (fun g hok hv => kr_va_cons ?_ (kr_va_tl (kr_va_tl hv))) (fun g p l e R s m args below meth c H locs cells slots Q ls ad hx hb ho ht hB hW hS kk => ?_)
      · cases hq : sR S k i.toNatClampNeg with
        | none => trivial
        | some a => exact hok.2.2.2.2.2.2 _ _ a hq
      · obtain ⟨h4, hkn⟩ := hW.1.ge (k := k) (by omega)
        have ht0 : (kr_tys g)[κ - 40]? = some (gA g (κ - 40), .object C) := by rw [kr_tys_at (by omega), hC]
        refine va_aldq hx hb hB.2.1 hW.2.2.1 (k - 4) (κ - 40) (by rw [kr_ws_at h4 hkn, kr_ar hk.1 hκ]) ht0 (kr_in_vp hk.2) hd ?_
        rw [List.map_cons, kr_rf] at kk
        exact kk
    · cases h
theorem r_aaload {κ : Nat} {x : Option Nat} {i : Int32} {v : Option Nat} (hκ : κ = 43 ∨ κ = 44 ∨ κ = 45) (h : aR S κ x i = some v) (hd : decode (mC M) pc = .ok (.aaload, 1)) (K : kr_AW M d (pc + 1) lv (va_rf v :: st) S r) : kr_AW M d pc lv (.int i :: va_rf x :: st) S r := by
  rcases hκ with rfl | rfl | rfl
  · exact kr_aaC (by decide) rfl h hd K
  · exact kr_aaC (by decide) rfl h hd K
  · exact kr_aaC (by decide) rfl h hd K
/-- the weights, the script -/
theorem kr_sp {g : GG} (hok : kr_ok g S) {k κ : Nat} (hk : sK S k = κ) (h1 : 1 ≤ κ) (h2 : κ < 5) : k = κ - 1 := by
  obtain ⟨n1, n2, n3, ⟨e0, e1, e2, e3⟩, -⟩ := hok
  rcases Nat.lt_or_ge k 4 with q | q
  · rcases (show k = 0 ∨ k = 1 ∨ k = 2 ∨ k = 3 by omega) with rfl | rfl | rfl | rfl <;> omega
  · rcases Nat.lt_or_ge k (sN S) with q2 | q2
    · have h9 : (10 ≤ sK S k ∧ sK S k < 10 + kr_nC) ∨ (40 ≤ sK S k ∧ sK S k < 46) := n3 k q q2
      omega
    · have := n2 k q2
      omega
theorem r_wload {x : Option Nat} {i v : Int32} (h : aI S 2 x i = some v) (hd : decode (mC M) pc = .ok (.iaload, 1)) (K : kr_AW M d (pc + 1) lv (.int v :: st) S r) : kr_AW M d pc lv (.int i :: va_rf x :: st) S r := by
  cases x with
  | none => cases h
  | some k =>
    simp only [aI, Option.bind_some] at h
    split at h
    · next hk =>
      cases h
      refine kr_rd K (fun g hok hv => kr_va_cons trivial (kr_va_tl (kr_va_tl hv))) (fun g p l e R s m args below meth c H locs cells slots Q ls ad hx hb ho ht hB hW hS kk => ?_)
      have hk1 : k = 1 := kr_sp hW.1 hk.1 (by decide) (by decide)
      subst hk1
      obtain ⟨-, -, -, -, -, -, -, hT, -⟩ := hB
      have e1 : ad 1 = gP g 1 := hW.2.1 1 (by decide)
      have hl3 : sL S 1 = 3 := hW.1.2.2.2.2.1.2
      have hin : vp_in i 3 := kr_in_vp (by rw [← hl3]; exact hk.2)
      obtain ⟨j, hj, ej⟩ := vp_in_of hin (by decide)
      have hv : kr_wt i.toNatClampNeg = sI S 1 i.toNatClampNeg := by
        rw [ej, nI_clamp (by omega)]
        exact (hW.1.2.2.2.2.2.1 j hj).symm
      show W p l e R s m args below meth c H locs cells slots Q (F0 m pc ls (.int i :: .ref (ad 1) :: st.map (cv ad)))
      rw [e1]
      exact va_ti hx hb hT hS hin (congrArg Value.int hv) hd kk
    · cases h
theorem r_sload {X : Nat → Int32} {L : Nat} {i v : Int32} (hX : mX M = some (X, L)) (h : kr_sx X L i = some v) (hd : decode (mC M) pc = .ok (.iaload, 1)) (K : kr_AW M d (pc + 1) lv (.int v :: st) S r) : kr_AW M d pc lv (.int i :: va_rf (some 2) :: st) S r := by
  unfold kr_sx at h
  split at h
  · next hk =>
    cases h
    refine ⟨K.1, ?_⟩
    intro g p l e s m args below meth c ad0 n0 c0 s0 mc ms C ad H locs ls cells slots A
    obtain ⟨a1, a2, a3, a4, a5, a6, a7, a8, a9, a10⟩ := A
    have C' := C
    obtain ⟨hx, hb, hml, hrt, ho, ht, hlocks, hst, htab, hnm, hB⟩ := C
    obtain ⟨h0, -, -, -, -, -, -, -, hSX, hlt, -⟩ := hB
    obtain ⟨eX, eL⟩ := hnm.2 X L hX
    have kk := K.2 g p l e s m args below meth c ad0 n0 c0 s0 mc ms C' ad H locs ls cells slots ⟨a1, a2, a3, a4, a5, a6, a7, a8, a9, kr_va_cons trivial (kr_va_tl (kr_va_tl a10))⟩
    show W p l e _ s m args below meth c H locs cells slots _ (F0 m pc ls (.int i :: .ref (ad 2) :: st.map (cv ad)))
    rw [a7.2.1 2 (by decide)]
    rw [← eX] at kk
    exact va_sld hx hb hSX (Nat.lt_of_lt_of_le hlt h0) (Nat.not_le.mpr hlt) a8 (kr_in_vp (by rw [eL]; exact hk)) hd kk
  · cases h
theorem r_slen {X : Nat → Int32} {L : Nat} (hX : mX M = some (X, L)) (hd : decode (mC M) pc = .ok (.arraylength, 1)) (K : kr_AW M d (pc + 1) lv (.int (Int32.ofNat L) :: st) S r) : kr_AW M d pc lv (va_rf (some 2) :: st) S r := by
  refine ⟨K.1, ?_⟩
  intro g p l e s m args below meth c ad0 n0 c0 s0 mc ms C ad H locs ls cells slots A
  obtain ⟨a1, a2, a3, a4, a5, a6, a7, a8, a9, a10⟩ := A
  have C' := C
  obtain ⟨hx, hb, hml, hrt, ho, ht, hlocks, hst, htab, hnm, hB⟩ := C
  obtain ⟨h0, -, -, -, -, -, -, -, hSX, hlt, -⟩ := hB
  obtain ⟨eX, eL⟩ := hnm.2 X L hX
  have kk := K.2 g p l e s m args below meth c ad0 n0 c0 s0 mc ms C' ad H locs ls cells slots ⟨a1, a2, a3, a4, a5, a6, a7, a8, a9, kr_va_cons trivial (kr_va_tl a10)⟩
  show W p l e _ s m args below meth c H locs cells slots _ (F0 m pc ls (.ref (ad 2) :: st.map (cv ad)))
  rw [a7.2.1 2 (by decide)]
  rw [← eL] at kk
  exact va_slen hx hb hSX (Nat.lt_of_lt_of_le hlt h0) (Nat.not_le.mpr hlt) a8 hd kk
theorem r_alen {x : Option Nat} {v : Int32} (h : aN S x = some v) (hd : decode (mC M) pc = .ok (.arraylength, 1)) (K : kr_AW M d (pc + 1) lv (.int v :: st) S r) : kr_AW M d pc lv (va_rf x :: st) S r := by
  cases x with
  | none => cases h
  | some k =>
    simp only [aN, Option.bind_some] at h
    split at h
    · next hk =>
      cases h
      refine kr_rd K (fun g hok hv => kr_va_cons trivial (kr_va_tl hv)) (fun g p l e R s m args below meth c H locs cells slots Q ls ad hx hb ho ht hB hW hS kk => ?_)
      rcases hk with hk | hk
      · obtain ⟨h4, hkn⟩ := hW.1.ge (k := k) (by omega)
        have h9 : (10 ≤ sK S k ∧ sK S k < 10 + kr_nC) ∨ (40 ≤ sK S k ∧ sK S k < 46) := hW.1.2.2.1 k h4 hkn
        have h6 : sK S k < 46 := by
          rcases h9 with q | q
          · exact absurd q.2 (Nat.not_lt.mpr (Nat.le_trans (by decide) hk))
          · exact q.2
        have ht0 : (kr_tys g)[sK S k - 40]? = some (gA g (sK S k - 40), kr_aT (sK S k - 40)) := kr_tys_at (by omega)
        rcases (show sK S k = 40 ∨ sK S k = 41 ∨ sK S k = 42 ∨ (43 ≤ sK S k ∧ sK S k < 46) by omega) with q | q | q | q
        · have ha := (kr_ws_at (g := g) (ad := ad) h4 hkn).trans (by rw [kr_ai rfl (Or.inl q)])
          exact va_alen hx hb hB.2.1 hW.2.2.1 (k - 4) (sK S k - 40) ha ht0 rfl hd kk
        · have ha := (kr_ws_at (g := g) (ad := ad) h4 hkn).trans (by rw [kr_ai rfl (Or.inr q)])
          exact va_alen hx hb hB.2.1 hW.2.2.1 (k - 4) (sK S k - 40) ha ht0 rfl hd kk
        · rw [q] at ht0
          have ha := (kr_ws_at (g := g) (ad := ad) h4 hkn).trans (by rw [kr_aj q])
          exact va_alen hx hb hB.2.1 hW.2.2.1 (k - 4) 2 ha ht0 rfl hd kk
        · have ha := (kr_ws_at (g := g) (ad := ad) h4 hkn).trans (by rw [kr_ar rfl q])
          exact va_alen hx hb hB.2.1 hW.2.2.1 (k - 4) (sK S k - 40) ha ht0 rfl hd kk
      · have hk1 : k = 0 := kr_sp hW.1 hk (by decide) (by decide)
        subst hk1
        obtain ⟨-, -, -, -, -, hT, -⟩ := hB
        show W p l e R s m args below meth c H locs cells slots Q (F0 m pc ls (.ref (ad 0) :: st.map (cv ad)))
        rw [hW.2.1 0 (by decide)]
        exact va_tlen hx hb hT hS (by rw [hW.1.2.2.2.2.1.1]) hd kk
    · cases h
theorem kr_u_row {α : Type} {f : Nat → Nat → α} {k j : Nat} {v : α} : kr_u f k j v k = fun b => if b = j then v else f k b := by
  funext b
  simp [kr_u]
theorem r_iastore {x : Option Nat} {i v : Int32} {S1 : AS} (h : bI S x i v = some S1) (hd : decode (mC M) pc = .ok (.iastore, 1)) (K : kr_AW M d (pc + 1) lv st S1 r) : kr_AW M d pc lv (.int v :: .int i :: va_rf x :: st) S r := by
  cases x with
  | none => cases h
  | some k =>
    simp only [bI, Option.bind_some] at h
    split at h
    · next hk =>
      cases h
      refine kr_wr (k := k) K (fun _ _ => trivial) rfl rfl rfl (fun g ad k' h => kr_wI_cE h) (fun g hok => kr_wI_ok hok (hok.ge (by omega)).1) (by omega) (fun hv => kr_va_tl (kr_va_tl (kr_va_tl hv))) (fun g p l e R s m args below meth c H locs cells slots Q ls ad hx hb ho ht hB hW hS he kk => ?_)
      rw [kr_ai (S := wI S k i.toNatClampNeg v) (κ := 40) hk.1 (Or.inl rfl)] at kk
      exact va_iast hx hb hB.2.1 hW.2.2.1 hW.2.2.2 hS (k - 4) 0 (he.trans (by rw [kr_ai hk.1 (Or.inl rfl)])) (kr_tys_at (by decide)) (kr_in_vp hk.2) hd (fun H1 locs1 hP1 hD1 hS1 => kk H1 locs1 (by rw [show sI (wI S k i.toNatClampNeg v) k = upd (sI S k) i.toNatClampNeg v from kr_u_row]; exact hP1) (by rw [show sI (wI S k i.toNatClampNeg v) k = upd (sI S k) i.toNatClampNeg v from kr_u_row]; exact hD1) hS1)
    · cases h
theorem r_bastore {x : Option Nat} {i v : Int32} {S1 : AS} (h : bZ S x i v = some S1) (hd : decode (mC M) pc = .ok (.bastore, 1)) (K : kr_AW M d (pc + 1) lv st S1 r) : kr_AW M d pc lv (.int v :: .int i :: va_rf x :: st) S r := by
  cases x with
  | none => cases h
  | some k =>
    simp only [bZ, Option.bind_some] at h
    split at h
    · next hk =>
      cases h
      obtain ⟨hk1, hk2, hk3⟩ := hk
      refine kr_wr (k := k) K (fun _ _ => trivial) rfl rfl rfl (fun g ad k' h => kr_wI_cE h) (fun g hok => kr_wI_ok hok (hok.ge (by omega)).1) (by omega) (fun hv => kr_va_tl (kr_va_tl (kr_va_tl hv))) (fun g p l e R s m args below meth c H locs cells slots Q ls ad hx hb ho ht hB hW hS he kk => ?_)
      have hn : vp_nar .boolean v = v := by rcases hk3 with rfl | rfl <;> rfl
      rw [kr_ai (S := wI S k i.toNatClampNeg v) (κ := 41) hk1 (Or.inr rfl)] at kk
      have er : sI (wI S k i.toNatClampNeg v) k = upd (sI S k) i.toNatClampNeg (vp_nar .boolean v) := by rw [hn]; exact kr_u_row
      exact va_zast hx hb hB.2.1 hW.2.2.1 hW.2.2.2 hS (k - 4) 1 (he.trans (by rw [kr_ai hk1 (Or.inr rfl)])) (kr_tys_at (by decide)) (kr_in_vp hk2) hd (fun H1 locs1 hP1 hD1 hS1 => kk H1 locs1 (by rw [er]; exact hP1) (by rw [er]; exact hD1) hS1)
    · cases h
theorem r_lastore {x : Option Nat} {i : Int32} {v : Int64} {S1 : AS} (h : bJ S x i v = some S1) (hd : decode (mC M) pc = .ok (.lastore, 1)) (K : kr_AW M d (pc + 1) lv st S1 r) : kr_AW M d pc lv (.long v :: .int i :: va_rf x :: st) S r := by
  cases x with
  | none => cases h
  | some k =>
    simp only [bJ, Option.bind_some] at h
    split at h
    · next hk =>
      cases h
      refine kr_wr (k := k) K (fun _ _ => trivial) rfl rfl rfl (fun g ad k' h => kr_wJ_cE h) (fun g hok => kr_wJ_ok hok) (by omega) (fun hv => kr_va_tl (kr_va_tl (kr_va_tl hv))) (fun g p l e R s m args below meth c H locs cells slots Q ls ad hx hb ho ht hB hW hS he kk => ?_)
      rw [kr_aj (S := wJ S k i.toNatClampNeg v) hk.1] at kk
      exact va_last hx hb hB.2.1 hW.2.2.1 hW.2.2.2 hS (k - 4) 2 (he.trans (by rw [kr_aj hk.1])) (kr_tys_at (by decide)) (kr_in_vp hk.2) hd (fun H1 locs1 hP1 hD1 hS1 => kk H1 locs1 (by rw [show sJ (wJ S k i.toNatClampNeg v) k = vp_updL (sJ S k) i.toNatClampNeg v from kr_u_row]; exact hP1) (by rw [show sJ (wJ S k i.toNatClampNeg v) k = vp_updL (sJ S k) i.toNatClampNeg v from kr_u_row]; exact hD1) hS1)
    · cases h
theorem kr_anyC {g : GG} {ad : Nat → Nat} {s : State} {H : Heap} {a : Nat} {E : String} (hB : Bs g s s.heap) (hW : Wd g ad S H) (ha : 10 ≤ sK S a ∧ sK S a < 10 + kr_nC) (hE : Cond.castable (kr_cC (sK S a - 10)) E ∈ kr_NB ∨ kr_cC (sK S a - 10) = E) : va_Any E s H (ad a) := by
  obtain ⟨h4, hkn⟩ := hW.1.ge ha.1
  have hc : sK S a - 10 < kr_nC := by omega
  refine va_rAny hB.2.1 hW.2.2.1 (q0 := a - 4) (by rw [kr_ws_at h4 hkn, kr_obj rfl ha]) (kr_cl_at hc) ?_
  rcases hE with hE | hE
  · exact vb_asgC (hB.2.2.1 _ hE)
  · rw [← hE]
    exact vb_asgS
theorem kr_aastC {κ lo hi : Nat} {E : String} {x : Option Nat} {i : Int32} {v : Option Nat} {S1 : AS} (hκ : 43 ≤ κ ∧ κ < 46) (hC : kr_aT (κ - 40) = .object E) (hlh : 10 ≤ lo ∧ hi < 10 + kr_nC) (hE : ∀ c, lo ≤ c → c ≤ hi → Cond.castable (kr_cC (c - 10)) E ∈ kr_NB ∨ kr_cC (c - 10) = E) (h : bR S κ lo hi x i v = some S1) (hd : decode (mC M) pc = .ok (.aastore, 1)) (K : kr_AW M d (pc + 1) lv st S1 r) : kr_AW M d pc lv (va_rf v :: .int i :: va_rf x :: st) S r := by
  cases x with
  | none => cases h
  | some k =>
    cases v with
    | none => cases h
    | some a =>
      simp only [bR, Option.bind_some] at h
      split at h
      · next hk =>
        cases h
        obtain ⟨hk1, hk2, hk3⟩ := hk
        refine kr_wr (k := k) K (fun _ _ => trivial) rfl rfl rfl (fun g ad k' h => kr_wR_cE h) (fun g hok => kr_wR_ok hok (fun a' ha' => by cases ha'; exact hok.lt (by omega))) (by omega) (fun hv => kr_va_tl (kr_va_tl (kr_va_tl hv))) (fun g p l e R s m args below meth c H locs cells slots Q ls ad hx hb ho ht hB hW hS he kk => ?_)
        rw [kr_ar (S := wR S k i.toNatClampNeg (some a)) (κ := κ) hk1 hκ] at kk
        have er : (fun j => (sR (wR S k i.toNatClampNeg (some a)) k j).map ad) = va_up (fun j => (sR S k j).map ad) i.toNatClampNeg (some (ad a)) := by
          funext j
          rw [show sR (wR S k i.toNatClampNeg (some a)) k = fun b => if b = i.toNatClampNeg then some a else sR S k b from kr_u_row]
          simp only [va_up]
          split <;> rfl
        have ht0 : (kr_tys g)[κ - 40]? = some (gA g (κ - 40), .object E) := by rw [kr_tys_at (by omega), hC]
        exact va_astqM hx hb hB.2.1 hW.2.2.1 hW.2.2.2 hS (k - 4) (κ - 40) (he.trans (by rw [kr_ar hk1 hκ])) ht0 (kr_anyC hB hW ⟨by omega, by omega⟩ (hE _ hk3.1 hk3.2)) (kr_in_vp hk2) hd (fun H1 locs1 hP1 hD1 hS1 => kk H1 locs1 (by rw [er]; exact hP1) (by rw [er]; exact hD1) hS1)
      · cases h
/-- into an Object[]: any object of the run's own -/
theorem r_aastoreO {x : Option Nat} {i : Int32} {v : Option Nat} {S1 : AS} (h : bR S 43 10 (9 + kr_nC) x i v = some S1) (hd : decode (mC M) pc = .ok (.aastore, 1)) (K : kr_AW M d (pc + 1) lv st S1 r) : kr_AW M d pc lv (va_rf v :: .int i :: va_rf x :: st) S r :=
  kr_aastC (by decide) rfl (by decide) (fun c h1 h2 => Or.inl (kr_obC _ (by have : kr_nC = 14 := rfl; omega))) h hd K
theorem r_aastoreK {κ c : Nat} {x : Option Nat} {i : Int32} {v : Option Nat} {S1 : AS} (hκ : 44 ≤ κ ∧ κ < 46) (hc : 10 ≤ c ∧ c < 10 + kr_nC) (hC : kr_aT (κ - 40) = .object (kr_cC (c - 10))) (h : bR S κ c c x i v = some S1) (hd : decode (mC M) pc = .ok (.aastore, 1)) (K : kr_AW M d (pc + 1) lv st S1 r) : kr_AW M d pc lv (va_rf v :: .int i :: va_rf x :: st) S r :=
  kr_aastC ⟨by omega, hκ.2⟩ hC hc (fun c' h1 h2 => by have : c' = c := by omega
                                                      subst this; exact Or.inr rfl) h hd K
end KR
end
section
theorem kr_w_ne {α : Type} {f : Nat → α} {k : Nat} {v : α} {a : Nat} (h : a ≠ k) : kr_w f k v a = f a := by simp [kr_w, h]
theorem kr_w_eq {α : Type} {f : Nat → α} {k : Nat} {v : α} : kr_w f k v k = v := by simp [kr_w]
theorem kr_df : ∀ c, c < kr_nC → ∀ j, j < kr_cN c → defaultValue (kr_cY c j) = if kr_isR (kr_cY c j) = true then Value.null else Value.int 0 := by decide +kernel
theorem kr_mapw {ad : Nat → Nat} {n q : Nat} {x : Option Nat} (h : ∀ a, x = some a → a < n) : x.map (kr_w ad n q) = x.map ad := by
  cases x with
  | none => rfl
  | some a => simp only [Option.map_some, kr_w_ne (Nat.ne_of_lt (h a rfl))]
theorem kr_wN_cE {g : GG} {ad : Nat → Nat} {S : AS} {κ len sl q k : Nat} (hok : kr_ok g S) (hk : k < sN S) : kr_cE g (kr_w ad (sN S) q) (wN S κ len sl) k = kr_cE g ad S k := by
  have hne : k ≠ sN S := Nat.ne_of_lt hk
  have e1 : sK (wN S κ len sl) k = sK S k := kr_w_ne hne
  have e2 : sL (wN S κ len sl) k = sL S k := kr_w_ne hne
  have e3 : sI (wN S κ len sl) k = sI S k := kr_w_ne hne
  have e4 : sR (wN S κ len sl) k = sR S k := kr_w_ne hne
  have e5 : sJ (wN S κ len sl) k = sJ S k := kr_w_ne hne
  have e6 : ∀ j, (sR S k j).map (kr_w ad (sN S) q) = (sR S k j).map ad := fun j => kr_mapw (fun a ha => hok.2.2.2.2.2.2 k j a ha)
  simp only [kr_cE, kr_oL, kr_oV, e1, e2, e3, e4, e5, e6]
theorem kr_wN_ws {g : GG} {ad : Nat → Nat} {S : AS} {κ len sl q : Nat} (hok : kr_ok g S) : kr_ws g (kr_w ad (sN S) q) (wN S κ len sl) = kr_ws g ad S ++ [(q, kr_cE g (kr_w ad (sN S) q) (wN S κ len sl) (sN S))] := by
  have h4 := hok.1
  have e : sN (wN S κ len sl) - 4 = (sN S - 4) + 1 := by show sN S + 1 - 4 = _; omega
  unfold kr_ws
  rw [e, List.range_succ, List.map_append]
  refine congr (congrArg _ (List.map_congr_left fun i hi => ?_)) ?_
  · have hlt : i + 4 < sN S := by have := List.mem_range.mp hi; omega
    rw [kr_wN_cE hok hlt, kr_w_ne (Nat.ne_of_lt hlt)]
  · have e2 : sN S - 4 + 4 = sN S := by omega
    simp only [List.map_cons, List.map_nil, e2, kr_w_eq]
theorem kr_wN_ok {g : GG} {S : AS} {κ len sl : Nat} (hok : kr_ok g S) (hκ : kr_own κ) : kr_ok g (wN S κ len sl) := by
  obtain ⟨h1, h2, h3, ⟨k0, k1, k2, k3⟩, ⟨l0, l1⟩, hw, hr⟩ := hok
  have ne : ∀ a, a < 4 → a ≠ sN S := fun a ha => by omega
  have eK : ∀ a, a ≠ sN S → sK (wN S κ len sl) a = sK S a := fun a h => kr_w_ne h
  have eL : ∀ a, a ≠ sN S → sL (wN S κ len sl) a = sL S a := fun a h => kr_w_ne h
  have eI : ∀ a, a ≠ sN S → sI (wN S κ len sl) a = sI S a := fun a h => kr_w_ne h
  refine ⟨Nat.le_succ_of_le h1, fun k hk => ?_, fun k h4 hk => ?_, ⟨?_, ?_, ?_, ?_⟩, ⟨?_, ?_⟩, fun j hj => ?_, fun k j a h => ?_⟩
  · have hk' : sN S + 1 ≤ k := hk
    rw [eK k (by omega)]
    exact h2 k (by omega)
  · have hk' : k < sN S + 1 := hk
    by_cases q : k = sN S
    · subst q
      rw [show sK (wN S κ len sl) (sN S) = κ from kr_w_eq]
      exact hκ
    · rw [eK k q]
      exact h3 k h4 (by omega)
  · rw [eK 0 (ne 0 (by decide))]; exact k0
  · rw [eK 1 (ne 1 (by decide))]; exact k1
  · rw [eK 2 (ne 2 (by decide))]; exact k2
  · rw [eK 3 (ne 3 (by decide))]; exact k3
  · rw [eL 0 (ne 0 (by decide))]; exact l0
  · rw [eL 1 (ne 1 (by decide))]; exact l1
  · rw [eI 1 (ne 1 (by decide))]; exact hw j hj
  · show a < sN S + 1
    by_cases q : k = sN S
    · subst q
      rw [show sR (wN S κ len sl) (sN S) = fun _ => none from kr_w_eq] at h
      cases h
    · rw [show sR (wN S κ len sl) k = sR S k from kr_w_ne q] at h
      have := hr k j a h
      omega
theorem kr_cvw {ad : Nat → Nat} {n q : Nat} {v : Value} (h : kr_vl n v) : cv (kr_w ad n q) v = cv ad v := by
  cases v <;> first | rfl | exact congrArg Value.ref (kr_w_ne (Nat.ne_of_lt h))
theorem kr_lvw {ad : Nat → Nat} {n q : Nat} {lv : List (Nat × Value)} {st : List Value} (h : kr_va n lv st) : lv.map (fun z => (z.1, cv (kr_w ad n q) z.2)) = lv.map (fun z => (z.1, cv ad z.2)) := List.map_congr_left fun z hz => by rw [kr_cvw (h.1 z hz)]
theorem kr_stw {ad : Nat → Nat} {n q : Nat} {lv : List (Nat × Value)} {st : List Value} (h : kr_va n lv st) : st.map (cv (kr_w ad n q)) = st.map (cv ad) := List.map_congr_left fun z hz => kr_cvw (h.2 z hz)
section KR
variable {M : MM} {d pc : Nat} {lv : List (Nat × Value)} {st : List Value} {S : AS} {r : AR}
/-- a step that makes a cell -/
theorem kr_mk {pc' κ len sl : Nat} {st0 : List Value} (hκ : kr_own κ) (K : kr_AW M d pc' lv (.ref (sN S) :: st) (wN S κ len sl) r) (hst : kr_va (sN S) lv st0 → kr_va (sN S) lv st)
    (f : ∀ (g : GG) (p : Program) (l : Launch) (e : Env) (R : Room) (s : State) (m : MethodId) (args : Array Value) (below : List Frame) (meth : Method) (c : Code) (H : Heap) (locs : List Loc) (cells slots : Nat) (Q : State → Prop) (ls : Array Slot) (ad : Nat → Nat),
      p.tables.exec = Jvm.exec → c.code = mC M → s.vm.findClass (mO M) = some m.cls → (∀ w ∈ kr_TB, w.before args s = true) → Bs g s s.heap → Wd g ad S H → va_S (kr_fr g) s.heap H locs → cells + 1 ≤ R.cells → slots + sl ≤ R.slots →
      (∀ (q : Nat) (H1 : Heap), va_P (gD g) kr_cl (kr_ws g ad S ++ [(q, kr_cE g (kr_w ad (sN S) q) (wN S κ len sl) (sN S))]) H1 → va_D (kr_fr g) (kr_ws g ad S ++ [(q, kr_cE g (kr_w ad (sN S) q) (wN S κ len sl) (sN S))]) → va_S (kr_fr g) s.heap H1 locs → W p l e R s m args below meth c H1 locs (cells + 1) (slots + sl) Q (F0 m pc' ls (.ref q :: st.map (cv ad)))) →
      W p l e R s m args below meth c H locs cells slots Q (F0 m pc ls (st0.map (cv ad)))) : kr_AW M d pc lv st0 S r := by
  have hC : sC S + 1 ≤ sC r.2 := K.1.1
  have hS : sS S + sl ≤ sS r.2 := K.1.2.1
  have hN : sN S + 1 ≤ sN r.2 := K.1.2.2
  refine ⟨⟨by omega, by omega, by omega⟩, ?_⟩
  intro g p l e s m args below meth c ad0 n0 c0 s0 mc ms C ad H locs ls cells slots A
  obtain ⟨a1, a2, a3, a4, a5, a6, a7, a8, a9, a10⟩ := A
  have a11 := hst a10
  refine f g p l e _ s m args below meth c H locs cells slots _ ls ad C.1 C.2.1 C.2.2.2.2.1 C.2.2.2.2.2.1 C.2.2.2.2.2.2.2.2.2.2 a7 a8 (show cells + 1 ≤ mc by omega) (show slots + sl ≤ ms by omega) (fun q H1 hP1 hD1 hS1 => ?_)
  have kk := K.2 g p l e s m args below meth c ad0 n0 c0 s0 mc ms C (kr_w ad (sN S) q) H1 locs ls (cells + 1) (slots + sl) ⟨by show c0 + (cells + 1) = sC S + 1; omega, by show s0 + (slots + sl) = sS S + sl; omega, a3, a4, Nat.le_succ_of_le a5, fun k hk => (kr_w_ne (Nat.ne_of_lt (Nat.lt_of_lt_of_le hk a5))).trans (a6 k hk), ⟨kr_wN_ok a7.1 hκ, fun i hi => (kr_w_ne (Nat.ne_of_lt (Nat.lt_of_lt_of_le hi a7.1.1))).trans (a7.2.1 i hi), by rw [kr_wN_ws a7.1]; exact hP1, by rw [kr_wN_ws a7.1]; exact hD1⟩, hS1, by rw [kr_lvw a11]; exact a9, kr_va_cons (Nat.lt_succ_self _) (kr_va_mono (Nat.le_succ _) a11)⟩
  rw [List.map_cons, kr_stw a11, show cv (kr_w ad (sN S) q) (.ref (sN S)) = .ref q from congrArg Value.ref kr_w_eq] at kk
  exact kk
theorem r_new {κ i : Nat} (hκ : 10 ≤ κ ∧ κ < 10 + kr_nC) (hw : Cond.classLink (mO M) i (kr_cC (κ - 10)) ∈ kr_TB) (hi : Cond.instantiable (kr_cC (κ - 10)) (kr_cN (κ - 10)) ∈ kr_TB) (hini : Cond.initialized (kr_cC (κ - 10)) ∈ kr_TB) (hd : decode (mC M) pc = .ok (.new i, 3)) (K : kr_AW M d (pc + 3) lv (va_rf (some (sN S)) :: st) (wN S κ 0 (kr_cN (κ - 10))) r) : kr_AW M d pc lv st S r := by
  have hc : κ - 10 < kr_nC := by omega
  refine kr_mk (Or.inl hκ) K (fun h => h) (fun g p l e R s m args below meth c H locs cells slots Q ls ad hx hb ho ht hB hW hS hc1 hs1 kk => ?_)
  have ek : ∀ q, kr_cE g (kr_w ad (sN S) q) (wN S κ 0 (kr_cN (κ - 10))) (sN S) = .inr (κ - 10, (List.range (kr_cN (κ - 10))).map (fun j => if kr_isR (kr_cY (κ - 10) j) = true then Value.null else Value.int 0)) := fun q => by
    rw [kr_obj (show sK (wN S κ 0 (kr_cN (κ - 10))) (sN S) = κ from kr_w_eq) hκ]
    simp only [kr_oL, kr_oV, show sR (wN S κ 0 (kr_cN (κ - 10))) (sN S) = fun _ => none from kr_w_eq, show sI (wN S κ 0 (kr_cN (κ - 10))) (sN S) = fun _ => 0 from kr_w_eq]
    rfl
  simp only [ek] at kk
  exact va_new hx hb ht (kr_in _ hc) _ (kr_ty _ hc) ho (ht _ hw) (ht _ hi) (ht _ hini) hB.2.1 hW.2.2.1 hW.2.2.2 hS (fun q h => Nat.le_trans hB.1 h) (kr_cl_at hc) (fun j hj => by rw [kr_df _ hc j hj]; simp [vp_V, hj]) hc1 hs1 hd kk
theorem kr_nAb {n : Int32} (h : 0 ≤ n.toInt ∧ n.toInt ≤ 100000) : ¬ n < 0 ∧ n.toNatClampNeg ≤ 100000 := by
  refine ⟨fun q => ?_, ?_⟩
  · have := Int32.lt_iff_toInt_lt.mp q
    have e0 : (0 : Int32).toInt = 0 := rfl
    omega
  · have e : n.toNatClampNeg = n.toInt.toNat := rfl
    omega
theorem kr_RA {s : State} {a b : ClassId} {ty : FieldType} (h1 : va_RA s a ty) (h2 : va_RA s b ty) : a = b := by
  cases ty <;> first
    | exact Option.some.inj (h1.symm.trans h2)
    | (obtain ⟨_, _, _, _, _, e1⟩ := h1; obtain ⟨_, _, _, _, _, e2⟩ := h2; exact Option.some.inj (e1.symm.trans e2))
/-- newarray of ints, booleans, longs -/
theorem kr_naC {κ t : Nat} {ty : FieldType} {aty : ArrayType} {a0 : Nat → vp_A} {n : Int32} {S1 : AS} (hκ : 40 ≤ κ ∧ κ < 43) (htκ : κ = 40 + t) (hT : kr_aT t = ty) (hty : newarray.typeOf aty = ty) (hw : Cond.arrayClass ty ∈ kr_TB) (hcb : componentBytes ty ≤ 8)
    (ha0 : ∀ (N : Nat) (cA : ClassId), vp_cell cA (a0 N) = arrV cA N (fun _ => defaultValue ty)) (he : ∀ (g : GG) (ad : Nat → Nat) (S : AS) (k N : Nat), sK S k = κ → sL S k = N → sI S k = (fun _ => 0) → sJ S k = (fun _ => 0) → kr_cE g ad S k = .inl (gA g t, a0 N))
    (h : nA S κ n = some S1) (hd : decode (mC M) pc = .ok (.newarray aty, 2)) (K : kr_AW M d (pc + 2) lv (va_rf (some (sN S)) :: st) S1 r) : kr_AW M d pc lv (.int n :: st) S r := by
  unfold nA at h
  split at h
  · next hn =>
    cases h
    obtain ⟨hn0, hnb⟩ := kr_nAb hn
    refine kr_mk (Or.inr ⟨hκ.1, by omega⟩) K kr_va_tl (fun g p l e R s m args below meth c H locs cells slots Q ls ad hx hb ho ht hB hW hS hc1 hs1 kk => ?_)
    have ek : ∀ q, kr_cE g (kr_w ad (sN S) q) (wN S κ n.toNatClampNeg n.toNatClampNeg) (sN S) = .inl (gA g t, a0 n.toNatClampNeg) := fun q => he g _ _ _ _ kr_w_eq kr_w_eq kr_w_eq kr_w_eq
    simp only [ek] at kk
    refine va_newa hx hb (by rw [hty]; exact ht _ hw) hty hB.2.1 hW.2.2.1 hW.2.2.2 hS (fun q h => Nat.le_trans hB.1 h) (ha0 n.toNatClampNeg) hn0 rfl (Nat.le_trans (Nat.mul_le_mul hnb hcb) (by decide)) hc1 hs1 hd (fun q cA H1 hK1 hP1 hD1 hS1 => ?_)
    have hl : (kr_tys g).length = 6 := by simp [kr_tys]
    have e1 : va_RA s cA ty := (hK1.2 6 (cA, ty) (by rw [List.getElem?_append_right (by omega), hl]; rfl)).2
    have e2 : va_RA s (gA g t) ty := by
      have h2 := (hB.2.1.2 t (gA g t, kr_aT t) (kr_tys_at (by omega))).2
      rw [hT] at h2
      exact h2
    cases kr_RA e1 e2
    exact kk q H1 hP1 hD1 hS1
  · cases h
theorem r_newI {n : Int32} {S1 : AS} (h : nA S 40 n = some S1) (hw : Cond.arrayClass .int ∈ kr_TB) (hd : decode (mC M) pc = .ok (.newarray .int, 2)) (K : kr_AW M d (pc + 2) lv (va_rf (some (sN S)) :: st) S1 r) : kr_AW M d pc lv (.int n :: st) S r :=
  kr_naC (t := 0) (a0 := fun N => (N, .inl (fun _ => 0))) (by decide) rfl rfl rfl hw (by decide) (fun _ _ => rfl) (fun g ad S k N h1 h2 h3 _ => by rw [kr_ai h1 (Or.inl rfl), h2, h3]) h hd K
theorem r_newZ {n : Int32} {S1 : AS} (h : nA S 41 n = some S1) (hw : Cond.arrayClass .boolean ∈ kr_TB) (hd : decode (mC M) pc = .ok (.newarray .boolean, 2)) (K : kr_AW M d (pc + 2) lv (va_rf (some (sN S)) :: st) S1 r) : kr_AW M d pc lv (.int n :: st) S r :=
  kr_naC (t := 1) (a0 := fun N => (N, .inl (fun _ => 0))) (by decide) rfl rfl rfl hw (by decide) (fun _ _ => rfl) (fun g ad S k N h1 h2 h3 _ => by rw [kr_ai h1 (Or.inr rfl), h2, h3]) h hd K
theorem r_newJ {n : Int32} {S1 : AS} (h : nA S 42 n = some S1) (hw : Cond.arrayClass .long ∈ kr_TB) (hd : decode (mC M) pc = .ok (.newarray .long, 2)) (K : kr_AW M d (pc + 2) lv (va_rf (some (sN S)) :: st) S1 r) : kr_AW M d pc lv (.int n :: st) S r :=
  kr_naC (t := 2) (a0 := fun N => (N, .inr (.inl (fun _ => 0)))) (by decide) rfl rfl rfl hw (by decide) (fun _ _ => rfl) (fun g ad S k N h1 h2 _ h4 => by rw [kr_aj h1, h2, h4]) h hd K
/-- anewarray -/
theorem kr_nqC {κ i : Nat} {C : String} {n : Int32} {S1 : AS} (hκ : 43 ≤ κ ∧ κ < 46) (hT : kr_aT (κ - 40) = .object C) (hAO : ∀ g s, Bs g s s.heap → va_AO C s) (hw : Cond.classLink (mO M) i C ∈ kr_TB)
    (h : nA S κ n = some S1) (hd : decode (mC M) pc = .ok (.anewarray i, 3)) (K : kr_AW M d (pc + 3) lv (va_rf (some (sN S)) :: st) S1 r) : kr_AW M d pc lv (.int n :: st) S r := by
  unfold nA at h
  split at h
  · next hn =>
    cases h
    obtain ⟨hn0, hnb⟩ := kr_nAb hn
    refine kr_mk (Or.inr ⟨by omega, by omega⟩) K kr_va_tl (fun g p l e R s m args below meth c H locs cells slots Q ls ad hx hb ho ht hB hW hS hc1 hs1 kk => ?_)
    have ek : ∀ q, kr_cE g (kr_w ad (sN S) q) (wN S κ n.toNatClampNeg n.toNatClampNeg) (sN S) = .inl (gA g (κ - 40), n.toNatClampNeg, .inr (.inr (.inr (.inr (fun _ => none))))) := fun q => by
      rw [kr_ar (show sK (wN S κ n.toNatClampNeg n.toNatClampNeg) (sN S) = κ from kr_w_eq) hκ, show sL (wN S κ n.toNatClampNeg n.toNatClampNeg) (sN S) = n.toNatClampNeg from kr_w_eq, show sR (wN S κ n.toNatClampNeg n.toNatClampNeg) (sN S) = fun _ => none from kr_w_eq]
      rfl
    simp only [ek] at kk
    refine va_newq hx hb ho (ht _ hw) (hAO g s hB) hB.2.1 hW.2.2.1 hW.2.2.2 hS (fun q h => Nat.le_trans hB.1 h) hn0 rfl (Nat.le_trans (Nat.mul_le_mul_right 4 hnb) (by decide)) hc1 hs1 hd (fun q cA H1 hK1 hP1 hD1 hS1 => ?_)
    have hl : (kr_tys g).length = 6 := by simp [kr_tys]
    have e1 : va_RA s cA (.object C) := (hK1.2 6 (cA, .object C) (by rw [List.getElem?_append_right (by omega), hl]; rfl)).2
    have e2 : va_RA s (gA g (κ - 40)) (.object C) := by
      have h2 := (hB.2.1.2 (κ - 40) (gA g (κ - 40), kr_aT (κ - 40)) (kr_tys_at (by omega))).2
      rw [hT] at h2
      exact h2
    cases kr_RA e1 e2
    exact kk q H1 hP1 hD1 hS1
  · cases h
theorem r_newO {i : Nat} {n : Int32} {S1 : AS} (h : nA S 43 n = some S1) (hw : Cond.classLink (mO M) i "java/lang/Object" ∈ kr_TB) (hd : decode (mC M) pc = .ok (.anewarray i, 3)) (K : kr_AW M d (pc + 3) lv (va_rf (some (sN S)) :: st) S1 r) : kr_AW M d pc lv (.int n :: st) S r :=
  kr_nqC (by decide) rfl (fun g s hB => hB.2.2.2.2.2.2.2.2.2.2.2.1) hw h hd K
theorem r_newP {i : Nat} {n : Int32} {S1 : AS} (h : nA S 44 n = some S1) (hw : Cond.classLink (mO M) i "KeyringCourt$Person" ∈ kr_TB) (hd : decode (mC M) pc = .ok (.anewarray i, 3)) (K : kr_AW M d (pc + 3) lv (va_rf (some (sN S)) :: st) S1 r) : kr_AW M d pc lv (.int n :: st) S r :=
  kr_nqC (by decide) rfl (fun g s hB => hB.2.2.2.2.2.2.2.2.2.2.2.2.1) hw h hd K
theorem r_newV {i : Nat} {n : Int32} {S1 : AS} (h : nA S 45 n = some S1) (hw : Cond.classLink (mO M) i "KeyringCourt$Service" ∈ kr_TB) (hd : decode (mC M) pc = .ok (.anewarray i, 3)) (K : kr_AW M d (pc + 3) lv (va_rf (some (sN S)) :: st) S1 r) : kr_AW M d pc lv (.int n :: st) S r :=
  kr_nqC (by decide) rfl (fun g s hB => hB.2.2.2.2.2.2.2.2.2.2.2.2.2.1) hw h hd K
/-- the two statics -/
theorem r_getD {i : Nat} (hw : Cond.fieldLink (mO M) i kr_ddC kr_ddF kr_ddT ∈ kr_TB) (hd : decode (mC M) pc = .ok (.getstatic i, 3)) (K : kr_AW M d (pc + 3) lv (va_rf (some 0) :: st) S r) : kr_AW M d pc lv st S r :=
  kr_rd K (fun g hok hv => kr_va_cons (Nat.lt_of_lt_of_le (by decide) hok.1) hv) (fun g p l e R s m args below meth c H locs cells slots Q ls ad hx hb ho ht hB hW hS kk => by
    have kk2 : W p l e R s m args below meth c H locs cells slots Q (F0 m (pc + 3) ls (.ref (ad 0) :: st.map (cv ad))) := kk
    rw [hW.2.1 0 (by decide)] at kk2
    exact va_gets hx hb hB.2.2.2.2.1 hS ho (ht _ hw) (fun _ h => h) hd kk2)
theorem r_getW {i : Nat} (hw : Cond.fieldLink (mO M) i "KeyringCourt$Shown" "WEIGHTS" "[I" ∈ kr_TB) (hd : decode (mC M) pc = .ok (.getstatic i, 3)) (K : kr_AW M d (pc + 3) lv (va_rf (some 1) :: st) S r) : kr_AW M d pc lv st S r :=
  kr_rd K (fun g hok hv => kr_va_cons (Nat.lt_of_lt_of_le (by decide) hok.1) hv) (fun g p l e R s m args below meth c H locs cells slots Q ls ad hx hb ho ht hB hW hS kk => by
    have kk2 : W p l e R s m args below meth c H locs cells slots Q (F0 m (pc + 3) ls (.ref (ad 1) :: st.map (cv ad))) := kk
    rw [hW.2.1 1 (by decide)] at kk2
    exact va_gets hx hb hB.2.2.2.2.2.2.1 hS ho (ht _ hw) (fun _ h => h) hd kk2)
/-- two places are the same cell just if they are the same -/
theorem kr_inj {g : GG} {ad : Nat → Nat} {H : Heap} (hW : Wd g ad S H) (h0 : gP g 0 < gB g) {a b : Nat} (ha : a < sN S ∧ (a = 0 ∨ 4 ≤ a)) (hb : b < sN S ∧ (b = 0 ∨ 4 ≤ b)) : ad a = ad b ↔ a = b := by
  refine ⟨fun e => ?_, fun e => by rw [e]⟩
  have own : ∀ {a : Nat}, a < sN S → 4 ≤ a → gB g ≤ ad a := fun h1 h2 => hW.2.2.2.2 _ _ (kr_ws_at (g := g) (ad := ad) h2 h1)
  have e0 : ad 0 = gP g 0 := hW.2.1 0 (by decide)
  rcases ha with ⟨la, rfl | ha⟩ <;> rcases hb with ⟨lb, rfl | hb⟩
  · rfl
  · have := own lb hb
    omega
  · have := own la ha
    omega
  · have := hW.2.2.2.1 _ _ _ _ (kr_ws_at (g := g) (ad := ad) ha la) (kr_ws_at (g := g) (ad := ad) hb lb) e
    omega
theorem kr_acO {g : GG} {ad : Nat → Nat} {H : Heap} (hW : Wd g ad S H) (h0 : gP g 0 < gB g) {x y : Option Nat} (hx : kr_ac S x = some ()) (hy : kr_ac S y = some ()) : x.map ad = y.map ad ↔ x = y := by
  refine ⟨fun e => ?_, fun e => by rw [e]⟩
  have key : ∀ {x : Option Nat}, kr_ac S x = some () → ∀ a, x = some a → a < sN S ∧ (a = 0 ∨ 4 ≤ a) := by
    intro x hx a ha
    subst ha
    unfold kr_ac at hx
    split at hx
    · next h =>
      simp only [Option.all_some, Bool.and_eq_true, bne_iff_ne, ne_eq, Bool.or_eq_true, beq_iff_eq, decide_eq_true_eq] at h
      exact ⟨hW.1.lt h.1, h.2⟩
    · cases hx
  cases x with
  | none =>
    cases y with
    | none => rfl
    | some b => cases e
  | some a =>
    cases y with
    | none => cases e
    | some b => exact congrArg some ((kr_inj hW h0 (key hx a rfl) (key hy b rfl)).mp (Option.some.inj e))
theorem kr_z0 {g : GG} {s : State} (hB : Bs g s s.heap) : gP g 0 < gB g := by
  obtain ⟨-, -, -, -, -, ⟨cell, -, -, -, -, -, -, hn⟩, -⟩ := hB
  exact Nat.not_le.mp hn
theorem kr_ac2 {pc' : Nat} {P : Prop} [Decidable P] {p2 : Nat} {st0 : List Value} (K1 : P → kr_AW M d pc' lv st S r) (K2 : ¬ P → kr_AW M d p2 lv st S r) (V : kr_va (sN S) lv st0 → kr_va (sN S) lv st)
    (f : ∀ (g : GG) (p : Program) (l : Launch) (e : Env) (R : Room) (s : State) (m : MethodId) (args : Array Value) (below : List Frame) (meth : Method) (c : Code) (H : Heap) (locs : List Loc) (cells slots : Nat) (Q : State → Prop) (ls : Array Slot) (ad : Nat → Nat),
      p.tables.exec = Jvm.exec → c.code = mC M → Bs g s s.heap → Wd g ad S H → (P → W p l e R s m args below meth c H locs cells slots Q (F0 m pc' ls (st.map (cv ad)))) → (¬ P → W p l e R s m args below meth c H locs cells slots Q (F0 m p2 ls (st.map (cv ad)))) → W p l e R s m args below meth c H locs cells slots Q (F0 m pc ls (st0.map (cv ad)))) : kr_AW M d pc lv st0 S r := by
  refine ⟨if h : P then (K1 h).1 else (K2 h).1, ?_⟩
  intro g p l e s m args below meth c ad0 n0 c0 s0 mc ms C ad H locs ls cells slots A
  obtain ⟨a1, a2, a3, a4, a5, a6, a7, a8, a9, a10⟩ := A
  exact f g p l e _ s m args below meth c H locs cells slots _ ls ad C.1 C.2.1 C.2.2.2.2.2.2.2.2.2.2 a7 (fun h => (K1 h).2 g p l e s m args below meth c ad0 n0 c0 s0 mc ms C ad H locs ls cells slots ⟨a1, a2, a3, a4, a5, a6, a7, a8, a9, V a10⟩) (fun h => (K2 h).2 g p l e s m args below meth c ad0 n0 c0 s0 mc ms C ad H locs ls cells slots ⟨a1, a2, a3, a4, a5, a6, a7, a8, a9, V a10⟩)
theorem r_acmp_eq {x y : Option Nat} {off : Int} {tgt : Nat} (h1 : kr_ac S x = some ()) (h2 : kr_ac S y = some ()) (hd : decode (mC M) pc = .ok (.if_acmp .eq off, 3)) (ht : (pc : Int) + off = (tgt : Int)) (K1 : x = y → kr_AW M d tgt lv st S r) (K2 : ¬ x = y → kr_AW M d (pc + 3) lv st S r) : kr_AW M d pc lv (va_rf y :: va_rf x :: st) S r :=
  kr_ac2 K1 K2 (fun hv => kr_va_tl (kr_va_tl hv)) (fun g p l e R s m args below meth c H locs cells slots Q ls ad hx hb hB hW k1 k2 => by
    rw [List.map_cons, List.map_cons, kr_rf, kr_rf]
    exact lv_acmp_eq hx hb hd ht (fun h => k1 ((kr_acO hW (kr_z0 hB) h1 h2).mp h)) (fun h => k2 (fun z => h ((kr_acO hW (kr_z0 hB) h1 h2).mpr z))))
theorem r_acmp_ne {x y : Option Nat} {off : Int} {tgt : Nat} (h1 : kr_ac S x = some ()) (h2 : kr_ac S y = some ()) (hd : decode (mC M) pc = .ok (.if_acmp .ne off, 3)) (ht : (pc : Int) + off = (tgt : Int)) (K1 : x = y → kr_AW M d (pc + 3) lv st S r) (K2 : ¬ x = y → kr_AW M d tgt lv st S r) : kr_AW M d pc lv (va_rf y :: va_rf x :: st) S r :=
  kr_ac2 K1 K2 (fun hv => kr_va_tl (kr_va_tl hv)) (fun g p l e R s m args below meth c H locs cells slots Q ls ad hx hb hB hW k1 k2 => by
    rw [List.map_cons, List.map_cons, kr_rf, kr_rf]
    exact lv_acmp_ne hx hb hd ht (fun h => k2 (fun z => h ((kr_acO hW (kr_z0 hB) h1 h2).mpr z))) (fun h => k1 ((kr_acO hW (kr_z0 hB) h1 h2).mp h)))
/-- a place of a class is an object of it -/
theorem kr_rcv {g : GG} {ad : Nat → Nat} {s : State} {H : Heap} {a κ : Nat} (hB : Bs g s s.heap) (hW : Wd g ad S H) (ha : sK S a = κ) (hκ : 10 ≤ κ ∧ κ < 10 + kr_nC) : ∃ cell : Cell, H[ad a]? = some cell ∧ cell.vm.isStatics = false ∧ s.vm.findClass (kr_cC (κ - 10)) = some cell.cls := by
  obtain ⟨h4, hkn⟩ := hW.1.ge (k := a) (by omega)
  exact va_recv hB.2.1 hW.2.2.1 (kr_cl_at (c := κ - 10) (by omega)) (q0 := a - 4) (by rw [kr_ws_at h4 hkn, kr_obj ha hκ])
theorem r_cast {κ i : Nat} {x : Option Nat} (h : kr_cc S κ x = some ()) (hκ : 10 ≤ κ ∧ κ < 10 + kr_nC) (hw : Cond.classLink (mO M) i (kr_cC (κ - 10)) ∈ kr_TB) (hd : decode (mC M) pc = .ok (.checkcast i, 3)) (K : kr_AW M d (pc + 3) lv (va_rf x :: st) S r) : kr_AW M d pc lv (va_rf x :: st) S r := by
  refine kr_rd K (fun g hok hv => hv) (fun g p l e R s m args below meth c H locs cells slots Q ls ad hx hb ho ht hB hW hS kk => ?_)
  cases x with
  | none => exact lv_castN hx hb hd kk
  | some a =>
    have ha : sK S a = κ := by
      unfold kr_cc at h
      split at h
      · next hq => simpa using hq
      · cases h
    obtain ⟨hS1, hfc⟩ := hB.2.1.1 (κ - 10) _ (kr_cl_at (by omega))
    exact va_castS hx hb ho (ht _ hw) hfc (kr_rcv hB hW ha hκ) hd kk
end KR
end
section
/-! ===== contracts ===== -/
def kr_cw (M : MM) : Cond := if mH M = [] then .code (mY M) (mC M) (mL M) (mR M) else .codeWith (mY M) (mC M) (mL M) (mR M) (mH M)
def kr_Pc (g : GG) (ad : Nat → Nat) (args : List Value) (S : AS) : Array Value → State → Prop := fun v U => v = (args.map (cv ad)).toArray ∧ Bs g U U.heap ∧ Wd g ad S U.heap
/-- M, called with args in the state S, comes to the end r -/
def kr_Con (M : MM) (d : Nat) (args : List Value) (S : AS) (r : AR) : Prop :=
  (sC S ≤ sC r.2 ∧ sS S ≤ sS r.2 ∧ sN S ≤ sN r.2) ∧ ∀ (l : Launch) (g : GG) (ad : Nat → Nat), l.stackTraces = false → kr_va (sN S) [] args →
    vx_Met l (mY M) (kr_cw M :: kr_TB) (kr_room d (sC r.2 - sC S) (sS r.2 - sS S)) (kr_Pc g ad args S) (kr_Q g ad (sN S) r) (kr_XC g ad (sN S) r) (sC r.2 - sC S) (sS r.2 - sS S) (kr_fr g)
theorem kr_Pc_blind {g : GG} {ad : Nat → Nat} {args : List Value} {S : AS} : FrameBlind (kr_Pc g ad args S) := fun a U f mk h => ⟨h.1, Bs.call h.2.1, h.2.2⟩
theorem kr_args_map (ad : Nat → Nat) (vs : List Value) : ∀ i, lv_args i (vs.map (cv ad)) = (lv_args i vs).map (fun q => (q.1, cv ad q.2)) := by
  induction vs with
  | nil => intro i; rfl
  | cons v vs ih =>
    intro i
    simp only [List.map_cons, lv_args, kr_cat, ih]
theorem kr_args_va {n : Nat} {vs : List Value} (h : kr_va n [] vs) : ∀ i, kr_va n (lv_args i vs) [] := by
  induction vs with
  | nil => exact fun i => ⟨fun _ h => (nomatch h), fun _ h => (nomatch h)⟩
  | cons v vs ih =>
    intro i
    refine ⟨fun q hq => ?_, fun _ h => (nomatch h)⟩
    rcases List.mem_cons.mp hq with e | hq
    · rw [e]; exact h.2 v List.mem_cons_self
    · exact (ih ⟨fun _ h => (nomatch h), fun w hw => h.2 w (List.mem_cons_of_mem _ hw)⟩ _).1 q hq
theorem kr_sl_len (ad : Nat → Nat) (vs : List Value) : (lg_sl (vs.map (cv ad))).length = (lg_sl vs).length := by
  induction vs with
  | nil => rfl
  | cons v vs ih =>
    simp only [lg_sl, List.map_cons, List.flatMap_cons, List.length_append] at ih ⊢
    rw [ih, kr_cat]
    split <;> rfl
/-- the body gives the contract: a method without handlers -/
theorem kr_con {M : MM} {d : Nat} {args : List Value} {S : AS} {r : AR} (hMX : mX M = none) (hH : mH M = []) (hy : plainName (mO M) = true) (hn : (lg_sl args).length ≤ mL M) (K : kr_AW M d 0 (lv_args 0 args) [] S r) : kr_Con M d args S r := by
  refine ⟨K.1, ?_⟩
  intro l g ad hl hva
  have hcw : kr_cw M = .code (mY M) (mC M) (mL M) (mR M) := by unfold kr_cw; rw [if_pos hH]
  refine vx_ofW (y := mY M) (cc := mC M) (maxL := mL M) (ret := mR M) hy (by rw [hcw]) ?_
  intro p e s m a below meth c s₁ B hml hexc hPc
  obtain ⟨rfl, hB, hW⟩ := hPc
  have hts : ∀ w ∈ kr_TB, w.before (args.map (cv ad)).toArray s = true := fun w hw => atoms_spec (ws := kr_cw M :: kr_TB) B.pre w (List.mem_cons_of_mem _ hw)
  have hown : s.vm.findClass (mO M) = some m.cls := findClass_of_methodNamed B.named
  have hnm : meth.name = mN M := (name_of_methodNamed B.named B.method).1
  have htab : c.exceptionTable.toList = tableOf (mH M) := by
    rw [hH]
    cases h : c.exceptionTable.toList with
    | nil => rfl
    | cons x xs => exact (hexc x (by rw [h]; exact List.mem_cons_self)).elim
  have hle := lv_entry (args.map (cv ad)) (n := mL M) (by rw [kr_sl_len]; exact hn)
  rw [lg_entry_eq]
  have k1 := K.1
  exact K.2 g p l e s m _ below meth c ad (sN S) (sC S) (sS S) _ _ ⟨B.exec, B.bytes, hml, B.returns, hown, hts, B.notSynchronized, hl, htab, ⟨hnm, fun X L h => by rw [hMX] at h; cases h⟩, hB⟩ ad s.heap [] _ 0 0
    ⟨rfl, rfl, by omega, by omega, Nat.le_refl _, kr_ext_rf, hW, va_S.rf, by rw [← kr_args_map]; exact hle, kr_args_va hva 0⟩
/-- the same, with handlers -/
theorem kr_conH {M : MM} {d : Nat} {args : List Value} {S : AS} {r : AR} (hMX : mX M = none) (hH : mH M ≠ []) (hy : plainName (mO M) = true) (hn : (lg_sl args).length ≤ mL M) (K : kr_AW M d 0 (lv_args 0 args) [] S r) : kr_Con M d args S r := by
  refine ⟨K.1, ?_⟩
  intro l g ad hl hva
  have hcw : kr_cw M = .codeWith (mY M) (mC M) (mL M) (mR M) (mH M) := by unfold kr_cw; rw [if_neg hH]
  refine vx_ofWH (y := mY M) (cc := mC M) (maxL := mL M) (ret := mR M) (hh := mH M) hy (by rw [hcw]) ?_
  intro p e s m a below meth c s₁ B hml hPc
  obtain ⟨rfl, hB, hW⟩ := hPc
  have hts0 : ∀ w ∈ kr_cw M :: kr_TB, w.before (args.map (cv ad)).toArray s = true := atoms_spec (ws := kr_cw M :: kr_TB) B.pre
  have hts : ∀ w ∈ kr_TB, w.before (args.map (cv ad)).toArray s = true := fun w hw => hts0 w (List.mem_cons_of_mem _ hw)
  have hown : s.vm.findClass (mO M) = some m.cls := findClass_of_methodNamed B.named
  have hnm : meth.name = mN M := (name_of_methodNamed B.named B.method).1
  have htab : c.exceptionTable.toList = tableOf (mH M) := vx_table (x := mY M) B (by rw [← hcw]; exact hts0 _ List.mem_cons_self)
  have hle := lv_entry (args.map (cv ad)) (n := mL M) (by rw [kr_sl_len]; exact hn)
  rw [lg_entry_eq]
  have k1 := K.1
  exact K.2 g p l e s m _ below meth c ad (sN S) (sC S) (sS S) _ _ ⟨B.exec, B.bytes, hml, B.returns, hown, hts, B.notSynchronized, hl, htab, ⟨hnm, fun X L h => by rw [hMX] at h; cases h⟩, hB⟩ ad s.heap [] _ 0 0
    ⟨rfl, rfl, by omega, by omega, Nat.le_refl _, kr_ext_rf, hW, va_S.rf, by rw [← kr_args_map]; exact hle, kr_args_va hva 0⟩
/-- with q thrown: what the frame makes of it -/
def kr_XW (M : MM) (d pc : Nat) (lv : List (Nat × Value)) (st : List Value) (S : AS) (r : AR) (E : String) : Prop :=
  (sC S ≤ sC r.2 ∧ sS S ≤ sS r.2 ∧ sN S ≤ sN r.2) ∧ ∀ (g : GG) (p : Program) (l : Launch) (e : Env) (s : State) (m : MethodId) (args : Array Value) (below : List Frame) (meth : Method) (c : Code) (ad0 : Nat → Nat) (n0 c0 s0 mc ms : Nat),
    kr_Ctx g M p l s m args meth c → ∀ (ad : Nat → Nat) (H : Heap) (locs : List Loc) (ls : Array Slot) (cells slots : Nat) (q : Addr) (ce : Cell), kr_At g M s S r ad0 n0 c0 s0 mc ms lv st ad H locs ls cells slots → H[q]? = some ce → ce.vm = .none → s.vm.findClass E = some ce.cls →
    vx_W p l e (kr_room d mc ms) s m args below meth c H locs cells slots (vx_MQ below (kr_Q g ad0 n0 r) (kr_XC g ad0 n0 r) args s mc ms (kr_fr g)) (F0 m pc ls (st.map (cv ad))) q
theorem kr_run {p : Program} {l : Launch} {e : Env} {R : Room} {s : State} {m : MethodId} {args a : Array Value} {below : List Frame} {meth : Method} {c : Code} {H : Heap} {locs : List Loc} {cells slots mc1 ms1 pc n : Nat} {Q : State → Prop} {ls : Array Slot} {st0 rest : List Value} {g : GG} {ad : Nat → Nat} {r1 : AR}
    (hr : vx_Run p l e R s m args below meth c H locs cells slots mc1 ms1 (F0 m pc ls st0) rest (kr_Q g ad n r1 a) (kr_XC g ad n r1) (kr_fr g)) (hS : va_S (kr_fr g) s.heap H locs)
    (kr : ∀ (v : Option Value) (ad' : Nat → Nat) (H1 : Heap) (locs1 : List Loc), r1.1 = .inl v → kr_ext n ad ad' → Wd g ad' r1.2 H1 → (∀ w, v = some w → kr_vl (sN r1.2) w) → va_S (kr_fr g) s.heap H1 locs1 → W p l e R s m args below meth c H1 locs1 (cells + mc1) (slots + ms1) Q (F0 m (pc + 3) ls ((v.map (cv ad')).toList ++ rest)))
    (kx : ∀ (E : String) (ad' : Nat → Nat) (H1 : Heap) (locs1 : List Loc) (q : Addr) (ce : Cell), r1.1 = .inr E → kr_ext n ad ad' → Wd g ad' r1.2 H1 → va_S (kr_fr g) s.heap H1 locs1 → H1[q]? = some ce → ce.vm = .none → s.vm.findClass E = some ce.cls → vx_W p l e R s m args below meth c H1 locs1 (cells + mc1) (slots + ms1) Q (F0 m pc ls rest) q) : W p l e R s m args below meth c H locs cells slots Q (F0 m pc ls st0) := by
  intro T hT X
  rcases hr T hT X with ⟨v', st₀, t, T', L, h0, X', hL, e1, e2, ⟨⟨v, ad', hr1, ho, hext, hWd, hvl⟩, hF⟩, st⟩ | ⟨q, st₀, t, T', L, E, ce, h0, X', hL, e1, e2, ⟨⟨ad', hr1, hext, hWd⟩, hF⟩, hce, hcv, hcl, st⟩
  · cases ho
    have hS1 := (vx_keep (A1 := kr_fr g) h0 e1 hS (fun _ _ h => h) (fun _ h => h) hL hF).2.2
    rw [← e1] at hWd
    obtain ⟨t2, b1, b2⟩ := kr v ad' T'.heap (locs ++ L) hr1 hext hWd hvl hS1 T' rfl X'
    exact ⟨t2, st t2 b1, b2⟩
  · have hS1 := (vx_keep (A1 := kr_fr g) h0 e1 hS (fun _ _ h => h) (fun _ h => h) hL hF).2.2
    rw [← e1] at hWd hce
    obtain ⟨t2, b1, b2⟩ := kx E ad' T'.heap (locs ++ L) q ce hr1 hext hWd hS1 hce hcv hcl T' rfl X'
    exact ⟨t2, st.trans b1, b2⟩
/-- what is asked of a method that is called: its words, its arguments' number, its locals -/
def kr_mok (M : MM) (n : Nat) : Prop := Cond.initialized (mO M) ∈ kr_TB ∧ kr_cw M ∈ kr_TB ∧ (mO M ≠ "java/lang/invoke/MethodHandle" ∧ mO M ≠ "java/lang/invoke/VarHandle" ∧ (parseMethodDescriptor (mD M)).map (fun q => q.parameters.length) = some n) ∧ mL M ≤ 12
theorem kr_pay {args : Array Value} {s : State} {M : MM} (ht : ∀ w ∈ kr_TB, w.before args s = true) (hw : kr_cw M ∈ kr_TB) : ∀ w ∈ kr_cw M :: kr_TB, ∀ (a' : Array Value) (U : State), s.WarmedH U.vm → w.before a' U = true := by
  intro w h a' U hW
  have hm : w ∈ kr_TB := (List.mem_cons.mp h).elim (fun e => e ▸ hw) id
  exact word_at hW (good_of_word (List.mem_filter.mp hm).2) (ht w hm)
theorem kr_lvx {n : Nat} {ad ad' : Nat → Nat} (he : kr_ext n ad ad') {lv : List (Nat × Value)} {st : List Value} (h : kr_va n lv st) : lv.map (fun z => (z.1, cv ad' z.2)) = lv.map (fun z => (z.1, cv ad z.2)) ∧ st.map (cv ad') = st.map (cv ad) := by
  have key : ∀ v, kr_vl n v → cv ad' v = cv ad v := by
    intro v hv
    cases v <;> first | rfl | exact congrArg Value.ref (he _ hv)
  exact ⟨List.map_congr_left fun z hz => by rw [key _ (h.1 z hz)], List.map_congr_left fun z hz => key _ (h.2 z hz)⟩
section KR
variable {M : MM} {d pc : Nat} {lv : List (Nat × Value)} {st : List Value} {S : AS} {r : AR}
/-- a call, however it is made: 'hrun' gives the run out of the contract -/
theorem kr_call {M1 : MM} {d1 : Nat} {As : List Value} {st0 : List Value} {r1 : AR} (hc : kr_Con M1 d1 As S r1) (hst : ∀ n, kr_va n lv st0 → kr_va n [] As ∧ kr_va n lv st)
    (Kr : ∀ v, r1.1 = .inl v → kr_AW M d (pc + 3) lv (v.toList ++ st) r1.2 r) (Kx : ∀ E, r1.1 = .inr E → kr_XW M d pc lv st r1.2 r E)
    (hrun : ∀ (g : GG) (p : Program) (l : Launch) (e : Env) (R : Room) (s : State) (m : MethodId) (args : Array Value) (below : List Frame) (meth : Method) (c : Code) (H : Heap) (locs : List Loc) (cells slots : Nat) (ls : Array Slot) (ad : Nat → Nat),
      kr_Ctx g M p l s m args meth c → Wd g ad S H → va_S (kr_fr g) s.heap H locs → lv_has ls (mL M) (lv.map (fun q => (q.1, cv ad q.2))) → kr_va (sN S) lv st0 → R.frames = d → R.locals = 31 * d + 133 →
      vx_Met l (mY M1) (kr_cw M1 :: kr_TB) (kr_room d1 (sC r1.2 - sC S) (sS r1.2 - sS S)) (kr_Pc g ad As S) (kr_Q g ad (sN S) r1) (kr_XC g ad (sN S) r1) (sC r1.2 - sC S) (sS r1.2 - sS S) (kr_fr g) →
      (∀ U : State, U.heap = H → s.WarmedH U.vm → kr_Pc g ad As S (As.map (cv ad)).toArray U) → cells + (sC r1.2 - sC S) ≤ R.cells ∧ slots + (sS r1.2 - sS S) ≤ R.slots →
      vx_Run p l e R s m args below meth c H locs cells slots (sC r1.2 - sC S) (sS r1.2 - sS S) (F0 m pc ls (st0.map (cv ad))) (st.map (cv ad)) (kr_Q g ad (sN S) r1 (As.map (cv ad)).toArray) (kr_XC g ad (sN S) r1) (kr_fr g)) : kr_AW M d pc lv st0 S r := by
  have hm1 := hc.1
  have hm2 : sC r1.2 ≤ sC r.2 ∧ sS r1.2 ≤ sS r.2 ∧ sN r1.2 ≤ sN r.2 := by
    cases h : r1.1 with
    | inl v => exact (Kr v h).1
    | inr E => exact (Kx E h).1
  refine ⟨⟨by omega, by omega, by omega⟩, ?_⟩
  intro g p l e s m args below meth c ad0 n0 c0 s0 mc ms C ad H locs ls cells slots A
  obtain ⟨a1, a2, a3, a4, a5, a6, a7, a8, a9, a10⟩ := A
  obtain ⟨v1, v2⟩ := hst _ a10
  have hB := C.2.2.2.2.2.2.2.2.2.2
  refine kr_run (hrun g p l e (kr_room d mc ms) s m args below meth c H locs cells slots ls ad C a7 a8 a9 a10 rfl rfl (hc.2 l g ad C.2.2.2.2.2.2.2.1 v1) (fun U hU hW => ⟨rfl, ?_, by rw [hU]; exact a7⟩) ⟨show cells + _ ≤ mc by omega, show slots + _ ≤ ms by omega⟩) a8 (fun v ad' H1 locs1 h1 hext hWd hvl hS1 => ?_) (fun E ad' H1 locs1 q ce h1 hext hWd hS1 hq hv hcl => ?_)
  · refine Bs.moved hW hB ?_ ?_
    · rw [hU]; exact a8.1
    · rw [hU]; exact a8.2.1
  · obtain ⟨e1, e2⟩ := kr_lvx hext v2
    have kk := (Kr v h1).2 g p l e s m args below meth c ad0 n0 c0 s0 mc ms C ad' H1 locs1 ls (cells + (sC r1.2 - sC S)) (slots + (sS r1.2 - sS S)) ⟨by omega, by omega, a3, a4, by omega, kr_ext_tr a5 a6 hext, hWd, hS1, by rw [e1]; exact a9, by
      cases v with
      | none => exact kr_va_mono hm1.2.2 v2
      | some w => exact kr_va_cons (hvl w rfl) (kr_va_mono hm1.2.2 v2)⟩
    rw [List.map_append, e2] at kk
    cases v with
    | none => exact kk
    | some w => exact kk
  · obtain ⟨e1, e2⟩ := kr_lvx hext v2
    have kk := (Kx E h1).2 g p l e s m args below meth c ad0 n0 c0 s0 mc ms C ad' H1 locs1 ls (cells + (sC r1.2 - sC S)) (slots + (sS r1.2 - sS S)) q ce ⟨by omega, by omega, a3, a4, by omega, kr_ext_tr a5 a6 hext, hWd, hS1, by rw [e1]; exact a9, kr_va_mono hm1.2.2 v2⟩ hq hv hcl
    rw [e2] at kk
    exact kk
theorem kr_va_app {n : Nat} {As : List Value} : ∀ {st : List Value}, kr_va n lv (As.reverse ++ st) → kr_va n [] As ∧ kr_va n lv st := fun h => ⟨⟨fun _ h => (nomatch h), fun v hv => h.2 v (List.mem_append_left _ (List.mem_reverse.mpr hv))⟩, ⟨h.1, fun v hv => h.2 v (List.mem_append_right _ hv)⟩⟩
theorem kr_maprev (ad : Nat → Nat) (As st : List Value) : (As.reverse ++ st).map (cv ad) = (As.map (cv ad)).reverse ++ st.map (cv ad) := by rw [List.map_append, List.map_reverse]
theorem kr_room2 {m : MethodId} {ls : Array Slot} {st0 rest : List Value} (ad : Nat → Nat) (h : (rest.map fun v => v.category).sum ≤ 8) : 2 * (F0 m pc ls st0).monitorRoom + ((rest.map (cv ad)).map fun v => v.category).sum ≤ 8 := by
  rw [kr_catm]
  simpa [F0, JFrame.monitorRoom] using h
end KR
end
section
/-- a receiver of a kind -/
def kr_rv (S : AS) (κ : Nat) (x : Option Nat) : Option Unit := x.bind fun k => if sK S k = κ then some () else none
section KR
variable {M : MM} {d pc : Nat} {lv : List (Nat × Value)} {st : List Value} {S : AS} {r : AR}
theorem kr_callB {M1 : MM} {d1 n i : Nat} {R : Room} {s : State} {args : Array Value} {a b : Nat} (hm : kr_mok M1 n) (hH : mH M1 = []) (hd : d1 + 1 ≤ d) (ht : ∀ w ∈ kr_TB, w.before args s = true) (hl : Cond.methodLink (mO M) i (mY M1) ∈ kr_TB) (hR : R.frames = d) (hR2 : R.locals = 31 * d + 133) : CallB R s args (mO M) i (mY M1) (mC M1) (mL M1) (mR M1) (kr_cw M1 :: kr_TB) (kr_room d1 a b) a b n := by
  obtain ⟨h1, h2, ⟨h3, h4, h5⟩, h6⟩ := hm
  have hcw : kr_cw M1 = .code (mY M1) (mC M1) (mL M1) (mR M1) := by unfold kr_cw; rw [if_pos hH]
  refine ⟨rfl, rfl, by rw [hR]; exact hd, by rw [hR2]; show 8 + (mL M1 + 11) + (31 * d1 + 133) ≤ _; omega, kr_pay ht h2, by rw [hcw]; exact List.mem_cons_self, by rw [← hcw]; exact ht _ h2, ht _ h1, ⟨h3, h4⟩, fun sig h => ?_, ht _ hl⟩
  have h9 : (parseMethodDescriptor (mD M1)).map (fun q => q.parameters.length) = some n := h5
  rw [show parseMethodDescriptor (mD M1) = some sig from h] at h9
  exact (Option.some.inj h9).symm
theorem kr_callN {M1 : MM} {d1 n i : Nat} {host : String} {R : Room} {s : State} {args : Array Value} {a b : Nat} (hm : kr_mok M1 n) (hH : mH M1 = []) (hd : d1 + 1 ≤ d) (ht : ∀ w ∈ kr_TB, w.before args s = true) (hl : (Cond.methodLinkNest (mO M) i (mY M1) host).before args s = true) (hR : R.frames = d) (hR2 : R.locals = 31 * d + 133) : va_CN R s args (mO M) i (mY M1) host (mC M1) (mL M1) (mR M1) (kr_cw M1 :: kr_TB) (kr_room d1 a b) a b n := by
  obtain ⟨h1, h2, ⟨h3, h4, h5⟩, h6⟩ := hm
  have hcw : kr_cw M1 = .code (mY M1) (mC M1) (mL M1) (mR M1) := by unfold kr_cw; rw [if_pos hH]
  refine ⟨⟨rfl, rfl, by rw [hR]; exact hd, by rw [hR2]; show 8 + (mL M1 + 11) + (31 * d1 + 133) ≤ _; omega, kr_pay ht h2, by rw [hcw]; exact List.mem_cons_self⟩, by rw [← hcw]; exact ht _ h2, ht _ h1, ⟨h3, h4⟩, fun sig h => ?_, hl⟩
  have h9 : (parseMethodDescriptor (mD M1)).map (fun q => q.parameters.length) = some n := h5
  rw [show parseMethodDescriptor (mD M1) = some sig from h] at h9
  exact (Option.some.inj h9).symm
/-- invokevirtual of a method of the receiver's own class -/
theorem r_callV {M1 : MM} {d1 κ i : Nat} {x : Option Nat} {As : List Value} {r1 : AR} (hx : kr_rv S κ x = some ()) (hc : kr_Con M1 d1 (va_rf x :: As) S r1) (hm : kr_mok M1 As.length) (hH : mH M1 = []) (hκ : 10 ≤ κ ∧ κ < 10 + kr_nC) (hC : kr_cC (κ - 10) = mO M1) (hl : Cond.methodLink (mO M) i (mY M1) ∈ kr_TB) (hin : Cond.instanceMethod (mY M1) ∈ kr_TB) (hse : Cond.selects (mO M1) (mY M1) (mY M1) ∈ kr_TB) (hdd : d1 + 1 ≤ d) (hrest : (st.map fun v => v.category).sum ≤ 8)
    (hd : decode (mC M) pc = .ok (.invokevirtual i, 3)) (Kr : ∀ v, r1.1 = .inl v → kr_AW M d (pc + 3) lv (v.toList ++ st) r1.2 r) (Kx : ∀ E, r1.1 = .inr E → kr_XW M d pc lv st r1.2 r E) : kr_AW M d pc lv (As.reverse ++ va_rf x :: st) S r := by
  cases x with
  | none => cases hx
  | some a =>
    have ha : sK S a = κ := by
      simp only [kr_rv, Option.bind_some] at hx
      split at hx
      · next hq => exact hq
      · cases hx
    refine kr_call (As := va_rf (some a) :: As) hc (fun n h => kr_va_app (As := va_rf (some a) :: As) (st := st) (by rw [List.reverse_cons, List.append_assoc]; exact h)) Kr Kx (fun g p l e R s m args below meth c H locs cells slots ls ad C hW hS hls hva hR hR2 hMet hPc hf => ?_)
    obtain ⟨hx2, hb, hml, hrt, ho, ht, hlocks, hst, htab, hnm, hB⟩ := C
    exact vx_runV (C := mO M1) (As := As.map (cv ad)) (b := ad a) ⟨hx2, hb, hml, ho, ht⟩ hMet ⟨kr_callB hm hH hdd ht hl hR hR2, ht _ hin, ht _ hse⟩ ⟨kr_Pc_blind, hC ▸ kr_rcv hB hW ha hκ, hPc⟩ rfl (by rw [List.length_map]) hls.1 (kr_maprev ad As (va_rf (some a) :: st)) (kr_room2 ad hrest) hd hf
/-- invokestatic -/
theorem r_callS {M1 : MM} {d1 i : Nat} {As : List Value} {r1 : AR} (hc : kr_Con M1 d1 As S r1) (hm : kr_mok M1 As.length) (hH : mH M1 = []) (hl : Cond.methodLink (mO M) i (mY M1) ∈ kr_TB) (hst : Cond.static (mY M1) ∈ kr_TB) (hdd : d1 + 1 ≤ d) (hrest : (st.map fun v => v.category).sum ≤ 8)
    (hd : decode (mC M) pc = .ok (.invokestatic i, 3)) (Kr : ∀ v, r1.1 = .inl v → kr_AW M d (pc + 3) lv (v.toList ++ st) r1.2 r) (Kx : ∀ E, r1.1 = .inr E → kr_XW M d pc lv st r1.2 r E) : kr_AW M d pc lv (As.reverse ++ st) S r := by
  refine kr_call hc (fun n h => kr_va_app h) Kr Kx (fun g p l e R s m args below meth c H locs cells slots ls ad C hW hS hls hva hR hR2 hMet hPc hf => ?_)
  obtain ⟨hx2, hb, hml, hrt, ho, ht, hlocks, hstt, htab, hnm, hB⟩ := C
  exact vx_runS (As := As.map (cv ad)) ⟨hx2, hb, hml, ho, ht⟩ hMet ⟨kr_callB hm hH hdd ht hl hR hR2, ht _ hst⟩ ⟨kr_Pc_blind, hPc⟩ rfl (by rw [List.length_map]) hls.1 (kr_maprev ad As st) (kr_room2 ad hrest) hd hf
/-- invokestatic of a nest mate's private method -/
theorem r_callSN {M1 : MM} {d1 i : Nat} {host : String} {As : List Value} {r1 : AR} (hc : kr_Con M1 d1 As S r1) (hm : kr_mok M1 As.length) (hH : mH M1 = []) (hl : Cond.methodLinkNest (mO M) i (mY M1) host ∈ kr_NB) (hst : Cond.static (mY M1) ∈ kr_TB) (hdd : d1 + 1 ≤ d) (hrest : (st.map fun v => v.category).sum ≤ 8)
    (hd : decode (mC M) pc = .ok (.invokestatic i, 3)) (Kr : ∀ v, r1.1 = .inl v → kr_AW M d (pc + 3) lv (v.toList ++ st) r1.2 r) (Kx : ∀ E, r1.1 = .inr E → kr_XW M d pc lv st r1.2 r E) : kr_AW M d pc lv (As.reverse ++ st) S r := by
  refine kr_call hc (fun n h => kr_va_app h) Kr Kx (fun g p l e R s m args below meth c H locs cells slots ls ad C hW hS hls hva hR hR2 hMet hPc hf => ?_)
  obtain ⟨hx2, hb, hml, hrt, ho, ht, hlocks, hstt, htab, hnm, hB⟩ := C
  exact vx_runSN (As := As.map (cv ad)) ⟨hx2, hb, hml, ho, ht⟩ hMet ⟨kr_callN hm hH hdd ht (va_Nw.use rfl (hB.2.2.1 _ hl)) hR hR2, ht _ hst, trivial⟩ ⟨kr_Pc_blind, hPc⟩ rfl (by rw [List.length_map]) hls.1 (kr_maprev ad As st) (kr_room2 ad hrest) hd hf
/-- invokestatic of a method with handlers -/
theorem r_callSX {M1 : MM} {d1 i : Nat} {As : List Value} {r1 : AR} (hc : kr_Con M1 d1 As S r1) (hm : kr_mok M1 As.length) (hH : mH M1 ≠ []) (hl : Cond.methodLink (mO M) i (mY M1) ∈ kr_TB) (hst : Cond.static (mY M1) ∈ kr_TB) (hdd : d1 + 1 ≤ d) (hrest : (st.map fun v => v.category).sum ≤ 8)
    (hd : decode (mC M) pc = .ok (.invokestatic i, 3)) (Kr : ∀ v, r1.1 = .inl v → kr_AW M d (pc + 3) lv (v.toList ++ st) r1.2 r) (Kx : ∀ E, r1.1 = .inr E → kr_XW M d pc lv st r1.2 r E) : kr_AW M d pc lv (As.reverse ++ st) S r := by
  refine kr_call hc (fun n h => kr_va_app h) Kr Kx (fun g p l e R s m args below meth c H locs cells slots ls ad C hW hS hls hva hR hR2 hMet hPc hf => ?_)
  obtain ⟨hx2, hb, hml, hrt, ho, ht, hlocks, hstt, htab, hnm, hB⟩ := C
  obtain ⟨h1, h2, ⟨h3, h4, h5⟩, h6⟩ := hm
  have hcw : kr_cw M1 = .codeWith (mY M1) (mC M1) (mL M1) (mR M1) (mH M1) := by unfold kr_cw; rw [if_neg hH]
  refine vx_runSX (As := As.map (cv ad)) (hh := mH M1) (bytes := mC M1) (maxL := mL M1) (ret := mR M1) ⟨hx2, hb, hml, ho, ht⟩ hMet ⟨⟨rfl, rfl, by rw [hR]; exact hdd, by rw [hR2]; show 8 + (mL M1 + 11) + (31 * d1 + 133) ≤ _; omega, kr_pay ht h2, by rw [hcw]; exact List.mem_cons_self⟩, by rw [← hcw]; exact ht _ h2, ht _ h1, ⟨h3, h4⟩, fun sig h => ?_, ht _ hl, ht _ hst⟩ ⟨kr_Pc_blind, hPc⟩ rfl (by rw [List.length_map]) hls.1 (kr_maprev ad As st) (kr_room2 ad hrest) hd hf
  have h9 : (parseMethodDescriptor (mD M1)).map (fun q => q.parameters.length) = some As.length := h5
  rw [show parseMethodDescriptor (mD M1) = some sig from h] at h9
  exact (Option.some.inj h9).symm
/-- invokespecial of a constructor: the object's place k -/
theorem r_callI {M1 : MM} {d1 i k : Nat} {As : List Value} {r1 : AR} (hc : kr_Con M1 d1 (va_rf (some k) :: As) S r1) (hm : kr_mok M1 As.length) (hH : mH M1 = []) (hN : mN M1 = "<init>") (hrN : mR M1 = none) (hl : Cond.methodLink (mO M) i (mY M1) ∈ kr_TB) (hin : Cond.instanceMethod (mY M1) ∈ kr_TB) (hdd : d1 + 1 ≤ d) (hrest : (st.map fun v => v.category).sum ≤ 8)
    (hd : decode (mC M) pc = .ok (.invokespecial i, 3)) (Kr : ∀ v, r1.1 = .inl v → kr_AW M d (pc + 3) lv (v.toList ++ st) r1.2 r) (Kx : ∀ E, r1.1 = .inr E → kr_XW M d pc lv st r1.2 r E) : kr_AW M d pc lv (As.reverse ++ va_rf (some k) :: st) S r := by
  refine kr_call (As := va_rf (some k) :: As) hc (fun n h => kr_va_app (As := va_rf (some k) :: As) (st := st) (by rw [List.reverse_cons, List.append_assoc]; exact h)) Kr Kx (fun g p l e R s m args below meth c H locs cells slots ls ad C hW hS hls hva hR hR2 hMet hPc hf => ?_)
  obtain ⟨hx2, hb, hml, hrt, ho, ht, hlocks, hst, htab, hnm, hB⟩ := C
  exact vx_runI (As := As.map (cv ad)) (b := ad k) ⟨hx2, hb, hml, ho, ht⟩ hMet ⟨hrN ▸ kr_callB hm hH hdd ht hl hR hR2, hN, ht _ hin⟩ ⟨kr_Pc_blind, hPc⟩ rfl (by rw [List.length_map]) hls.1 (kr_maprev ad As (va_rf (some k) :: st)) (kr_room2 ad hrest) hd hf
theorem r_callIN {M1 : MM} {d1 i k : Nat} {host : String} {As : List Value} {r1 : AR} (hc : kr_Con M1 d1 (va_rf (some k) :: As) S r1) (hm : kr_mok M1 As.length) (hH : mH M1 = []) (hN : mN M1 = "<init>") (hrN : mR M1 = none) (hl : Cond.methodLinkNest (mO M) i (mY M1) host ∈ kr_NB) (hin : Cond.instanceMethod (mY M1) ∈ kr_TB) (hdd : d1 + 1 ≤ d) (hrest : (st.map fun v => v.category).sum ≤ 8)
    (hd : decode (mC M) pc = .ok (.invokespecial i, 3)) (Kr : ∀ v, r1.1 = .inl v → kr_AW M d (pc + 3) lv (v.toList ++ st) r1.2 r) (Kx : ∀ E, r1.1 = .inr E → kr_XW M d pc lv st r1.2 r E) : kr_AW M d pc lv (As.reverse ++ va_rf (some k) :: st) S r := by
  refine kr_call (As := va_rf (some k) :: As) hc (fun n h => kr_va_app (As := va_rf (some k) :: As) (st := st) (by rw [List.reverse_cons, List.append_assoc]; exact h)) Kr Kx (fun g p l e R s m args below meth c H locs cells slots ls ad C hW hS hls hva hR hR2 hMet hPc hf => ?_)
  obtain ⟨hx2, hb, hml, hrt, ho, ht, hlocks, hst, htab, hnm, hB⟩ := C
  exact vx_runIN (As := As.map (cv ad)) (b := ad k) ⟨hx2, hb, hml, ho, ht⟩ hMet ⟨hrN ▸ kr_callN hm hH hdd ht (va_Nw.use rfl (hB.2.2.1 _ hl)) hR hR2, hN, ht _ hin⟩ ⟨kr_Pc_blind, hPc⟩ rfl (by rw [List.length_map]) hls.1 (kr_maprev ad As (va_rf (some k) :: st)) (kr_room2 ad hrest) hd hf
/-- Object's constructor -/
theorem r_objInit {i : Nat} {k : Nat} (hl : Cond.methodLink (mO M) i objectInit ∈ kr_TB) (hin : Cond.instanceMethod objectInit ∈ kr_TB) (hcd : Cond.code objectInit ⟨#[0xb1]⟩ 1 none ∈ kr_TB) (hdd : 1 ≤ d) (hrest : (st.map fun v => v.category).sum ≤ 8) (hd : decode (mC M) pc = .ok (.invokespecial i, 3)) (K : kr_AW M d (pc + 3) lv st S r) : kr_AW M d pc lv (va_rf (some k) :: st) S r := by
  refine ⟨K.1, ?_⟩
  intro g p l e s m args below meth c ad0 n0 c0 s0 mc ms C ad H locs ls cells slots A
  obtain ⟨a1, a2, a3, a4, a5, a6, a7, a8, a9, a10⟩ := A
  have C' := C
  obtain ⟨hx2, hb, hml, hrt, ho, ht, hlocks, hst, htab, hnm, hB⟩ := C
  refine W.objInit (a := ad k) (rest := st.map (cv ad)) hx2 hb ho (ht _ hl) (ht _ hin) (ht _ hcd) rfl (a9.1.trans hml.symm) rfl hd hdd ?_ (K.2 g p l e s m args below meth c ad0 n0 c0 s0 mc ms C' ad H locs ls cells slots ⟨a1, a2, a3, a4, a5, a6, a7, a8, a9, kr_va_tl a10⟩)
  have := kr_room2 (m := m) (ls := ls) (pc := pc) (st0 := (va_rf (some k) :: st).map (cv ad)) ad hrest
  show _ ≤ 31 * d + 133
  omega
/-! ===== ends ===== -/
theorem kr_end {rv : Option Value} {st : List Value} (hv : ∀ n, kr_va n lv st → ∀ w, rv = some w → kr_vl n w)
    (f : ∀ (g : GG) (p : Program) (l : Launch) (e : Env) (s : State) (m : MethodId) (args : Array Value) (below : List Frame) (meth : Method) (c : Code) (H : Heap) (locs : List Loc) (mc ms : Nat) (R : Room) (ls : Array Slot) (ad : Nat → Nat) (Qc : Array Value → State → Outcome → State → Prop) (free : Addr → Prop),
      p.tables.exec = Jvm.exec → c.code = mC M → meth.sig.returnType = mR M → meth.locks = false → (∀ t : State, t.heap = H → s.WarmedH t.vm → Qc args s (.returned (rv.map (cv ad))) t) → (∀ q ∈ locs, free q.base) → W p l e R s m args below meth c H locs mc ms (MQ below Qc args s mc ms free) (F0 m pc ls (st.map (cv ad)))) : kr_AW M d pc lv st S (.inl rv, S) := by
  refine ⟨⟨Nat.le_refl _, Nat.le_refl _, Nat.le_refl _⟩, ?_⟩
  intro g p l e s m args below meth c ad0 n0 c0 s0 mc ms C ad H locs ls cells slots A
  obtain ⟨a1, a2, a3, a4, a5, a6, a7, a8, a9, a10⟩ := A
  obtain ⟨hx2, hb, hml, hrt, ho, ht, hlocks, hst, htab, hnm, hB⟩ := C
  have a3' : sC S ≤ c0 + mc := a3
  have a4' : sS S ≤ s0 + ms := a4
  refine W.widen (k := mc) (n := ms) (by omega) (by omega) ?_
  refine vx_ret (f g p l e s m args below meth c H locs mc ms _ ls ad _ _ hx2 hb hrt hlocks (fun t h1 h2 => ⟨⟨rv, ad, rfl, rfl, a6, by rw [h1]; exact a7, fun w hw => hv _ a10 w hw⟩, ?_⟩) a8.2.2)
  exact a8.F h1
theorem r_iret {v : Int32} (hr : mR M = some .int) (hd : decode (mC M) pc = .ok (.ireturn, 1)) : kr_AW M d pc lv [.int v] S (.inl (some (.int v)), S) :=
  kr_end (fun n h w hw => by cases hw; trivial) (fun g p l e s m args below meth c H locs mc ms R ls ad Qc free hx hb hrt hlocks hq hf => W.iret hx hb (hrt.trans hr) hq hf hd hlocks)
theorem r_zret {v : Int32} (hr : mR M = some .boolean) (hz : kr_z v = some ()) (hd : decode (mC M) pc = .ok (.ireturn, 1)) : kr_AW M d pc lv [.int v] S (.inl (some (.int v)), S) := by
  have h2 : v = 0 ∨ v = 1 := by
    unfold kr_z at hz
    split at hz
    · next hq => exact hq
    · cases hz
  exact kr_end (fun n h w hw => by cases hw; trivial) (fun g p l e s m args below meth c H locs mc ms R ls ad Qc free hx hb hrt hlocks hq hf => W.zret hx hb (hrt.trans hr) (by rcases h2 with rfl | rfl <;> rfl) hq hf hd hlocks)
theorem r_vret (hr : mR M = none) (hd : decode (mC M) pc = .ok (.return_, 1)) : kr_AW M d pc lv [] S (.inl none, S) :=
  kr_end (fun n h w hw => by cases hw) (fun g p l e s m args below meth c H locs mc ms R ls ad Qc free hx hb hrt hlocks hq hf => W.vret hx hb (hrt.trans hr) hq hf hd hlocks)
theorem r_aret {x : Option Nat} {t : FieldType} (hr : mR M = some t) (ht : kr_isR t = true) (hd : decode (mC M) pc = .ok (.areturn, 1)) : kr_AW M d pc lv [va_rf x] S (.inl (some (va_rf x)), S) :=
  kr_end (fun n h w hw => by cases hw; exact kr_va_hd h) (fun g p l e s m args below meth c H locs mc ms R ls ad Qc free hx hb hrt hlocks hq hf => W.aret hx hb (hrt.trans hr) (by cases t <;> first | exact Or.inl ⟨_, rfl⟩ | exact Or.inr ⟨_, rfl⟩ | cases ht) (by cases x <;> first | exact Or.inl rfl | exact Or.inr ⟨_, rfl⟩) hq hf hd hlocks)
/-- thrown out of a method without handlers -/
theorem r_out {E : String} (hH : mH M = []) : kr_XW M d pc lv st S (.inr E, S) E := by
  refine ⟨⟨Nat.le_refl _, Nat.le_refl _, Nat.le_refl _⟩, ?_⟩
  intro g p l e s m args below meth c ad0 n0 c0 s0 mc ms C ad H locs ls cells slots q ce A hq hv hcl
  obtain ⟨a1, a2, a3, a4, a5, a6, a7, a8, a9, a10⟩ := A
  obtain ⟨hx2, hb, hml, hrt, ho, ht, hlocks, hst, htab, hnm, hB⟩ := C
  have a3' : sC S ≤ c0 + mc := a3
  have a4' : sS S ≤ s0 + ms := a4
  exact vx_out (E := E) (ce := ce) (fun x hx => by rw [htab, hH] at hx; cases hx) hlocks hq hv hcl (fun t h1 h2 => ⟨⟨ad, rfl, a6, by rw [h1]; exact a7⟩, a8.F h1⟩) a8.2.2 (by omega) (by omega)
/-- caught: the handler's entry and its store of the exception -/
def kr_hd (M : MM) (pc : Nat) (E : String) (h : Nat × Nat × Nat × Nat) (pre suf : List (Nat × Nat × Nat × Nat)) (nm : String) : Prop :=
  mH M = pre ++ h :: suf ∧ (∀ z ∈ pre, ∃ n2 : String, z.2.2.2 ≠ 0 ∧ Cond.classLink (mO M) z.2.2.2 n2 ∈ kr_TB ∧ (E, n2) ∈ kr_ncs) ∧ (h.1 ≤ pc ∧ pc < h.2.1) ∧ h.2.2.2 ≠ 0 ∧ Cond.classLink (mO M) h.2.2.2 nm ∈ kr_TB ∧ Cond.castable E nm ∈ kr_NB
end KR
end
section
def kr_th (own : String) (ik ic : Nat) (E : String) (names : List String) : Prop :=
  Bundle.fit E = true ∧ (∀ n ∈ names, Bundle.fit n = true) ∧ Cond.classLink own ik E ∈ kr_TB ∧ Cond.initialized E ∈ kr_TB ∧ (∀ w ∈ vx_at0 own ic E names, w ∈ kr_TB ∨ w ∈ kr_NB) ∧ (∀ w ∈ Cond.classLink own ik E :: Cond.initialized E :: vx_at0 own ic E names, vx_ot w = true) ∧ names.length ≤ 3
theorem kr_kept {g : GG} {ad : Nat → Nat} {S : AS} {H H1 : Heap} (hW : Wd g ad S H) (hq : ∀ q : Nat, q < H.size → H1[q]? = H[q]?) : Wd g ad S H1 := ⟨hW.1, hW.2.1, hW.2.2.1.kept (fun k q hk => hq _ (hW.2.2.1 k q hk).lt), hW.2.2.2⟩
theorem kr_F_of {g : GG} {s t : State} {H : Heap} {locs : List Loc} (h : va_S (kr_fr g) s.heap H locs) (h1 : H.size ≤ t.heap.size) (h2 : ∀ q : Nat, q < H.size → t.heap[q]? = H[q]?) : va_F (kr_fr g) s t := ⟨Nat.le_trans h.1 h1, fun q q1 q2 => (h2 q (Nat.lt_of_lt_of_le q1 h.1)).trans (h.2.1 q q1 q2)⟩
section KR
variable {M : MM} {d pc : Nat} {lv : List (Nat × Value)} {st : List Value} {S : AS} {r : AR}
/-- throw new E() -/
theorem r_throw {ik ic : Nat} {E : String} (names : List String) (hH : mH M = []) (hth : kr_th (mO M) ik ic E names) (hdd : 7 ≤ d) (hrest : (st.map fun v => v.category).sum ≤ 8)
    (d0 : decode (mC M) pc = .ok (.new ik, 3)) (d3 : decode (mC M) (pc + 3) = .ok (.dup, 1)) (d4 : decode (mC M) (pc + 4) = .ok (.invokespecial ic, 3)) (d7 : decode (mC M) (pc + 7) = .ok (.athrow, 1)) : kr_AW M d pc lv st S (.inr E, wX S) := by
  obtain ⟨t1, t2, t3, t4, t5, t6, t7⟩ := hth
  refine ⟨⟨Nat.le_succ _, Nat.le_add_right _ _, Nat.le_refl _⟩, ?_⟩
  intro g p l e s m args below meth c ad0 n0 c0 s0 mc ms C ad H locs ls cells slots A
  obtain ⟨a1, a2, a3, a4, a5, a6, a7, a8, a9, a10⟩ := A
  obtain ⟨hx2, hb, hml, hrt, ho, ht, hlocks, hst, htab, hnm, hB⟩ := C
  have a3' : sC S + 1 ≤ c0 + mc := a3
  have a4' : sS S + 6 ≤ s0 + ms := a4
  have hl := kr_room2 (m := m) (ls := ls) (pc := pc) (st0 := st.map (cv ad)) ad hrest
  have hl2 : ((st.map (cv ad)).map fun v => v.category).sum ≤ 8 := by omega
  refine vx_throw0 hx2 hb hst ho t1 t2 (ht _ t3) (ht _ t4) (fun w hw => (t5 w hw).elim (fun h => ht w h) (fun h => ?_)) t6 hB.2.2.2.2.2.2.2.2.2.2.2.2.2.2.1 hB.2.2.2.2.2.2.2.2.2.2.2.2.2.2.2 a8 (a9.1.trans hml.symm) d0 d3 d4 d7 (fun x hx => by rw [htab, hH] at hx; cases hx)
    (show names.length + 3 < d by omega) (show _ ≤ 31 * d + 133 by omega) (show cells + 1 ≤ mc by omega) (show slots + 6 ≤ ms by omega) hlocks (fun t q1 q2 q3 => ⟨⟨ad, rfl, a6, kr_kept a7 q3⟩, kr_F_of a8 q2 q3⟩) a8.2.2 (by omega) (by omega)
  have hnb := (List.mem_filter.mp h).2
  have hn := hB.2.2.1 w h
  cases w <;> first | exact va_Nw.use rfl hn | (simp [kr_nb] at hnb)
/-- caught; the handler's first instruction stores the exception in the local i, which is not read -/
theorem r_catchC {E nm : String} {hd : Nat × Nat × Nat × Nat} (pre suf : List (Nat × Nat × Nat × Nat)) (hh : kr_hd M pc E hd pre suf nm) {i len : Nat} {lv' : List (Nat × Value)} (hlv : lv.filter (fun q => !(q.1 == i) && !(q.1 + 1 == i && q.2.category == 2)) = lv') (hi : i < mL M)
    (hst : ∀ (p : Program) (l : Launch) (e : Env) (R : Room) (s : State) (m : MethodId) (args : Array Value) (below : List Frame) (meth : Method) (c : Code) (H : Heap) (locs : List Loc) (cells slots : Nat) (Q : State → Prop) (ls : Array Slot) (lw : List (Nat × Value)) (q : Nat), p.tables.exec = Jvm.exec → c.code = mC M → lv_has ls (mL M) lw → (∀ ls' : Array Slot, lv_has ls' (mL M) ((i, Value.ref q) :: lw.filter (fun q => !(q.1 == i) && !(q.1 + 1 == i && q.2.category == 2))) → W p l e R s m args below meth c H locs cells slots Q (F0 m (hd.2.2.1 + len) ls' [])) → W p l e R s m args below meth c H locs cells slots Q (F0 m hd.2.2.1 ls [.ref q]))
    (K : kr_AW M d (hd.2.2.1 + len) lv' [] S r) : kr_XW M d pc lv st S r E := by
  obtain ⟨h1, h2, h3, h4, h5, h6⟩ := hh
  refine ⟨K.1, ?_⟩
  intro g p l e s m args below meth c ad0 n0 c0 s0 mc ms C ad H locs ls cells slots q ce A hq hv hcl
  obtain ⟨a1, a2, a3, a4, a5, a6, a7, a8, a9, a10⟩ := A
  have C' := C
  obtain ⟨hx2, hb, hml, hrt, ho, ht, hlocks, hstt, htab, hnm, hB⟩ := C
  have hsplit : c.exceptionTable.toList = pre.map (fun q => ⟨q.1, q.2.1, q.2.2.1, q.2.2.2⟩) ++ ⟨hd.1, hd.2.1, hd.2.2.1, hd.2.2.2⟩ :: suf.map (fun q => ⟨q.1, q.2.1, q.2.2.1, q.2.2.2⟩) := by
    rw [htab, h1]
    simp [tableOf]
  refine vx_catch (own := mO M) (name := nm) (E := E) (ce := ce) ho _ ⟨hd.1, hd.2.1, hd.2.2.1, hd.2.2.2⟩ _ hsplit (fun z hz => ?_) ?_ h4 (ht _ h5) (va_Nw.use rfl (hB.2.2.1 _ h6)) hq hv hcl ?_
  · obtain ⟨z0, hz0, rfl⟩ := List.mem_map.mp hz
    obtain ⟨n2, e1, e2, e3⟩ := h2 z0 hz0
    exact Or.inr ⟨e1, n2, ht _ e2, hB.2.2.2.1 _ e3⟩
  · simp only [covers, h3.1, h3.2, decide_true, Bool.and_self]
  · refine hst p l e _ s m args below meth c H locs cells slots _ ls _ q hx2 hb a9 (fun ls' hl' => ?_)
    have e1 : (lv.map (fun z => (z.1, cv ad z.2))).filter (fun z => !(z.1 == i) && !(z.1 + 1 == i && z.2.category == 2)) = lv'.map (fun z => (z.1, cv ad z.2)) := by
      have := kr_st_map ad lv i .null
      simp only [kr_st, List.map_cons, hlv] at this
      exact (List.cons.inj this).2.symm
    rw [e1] at hl'
    exact K.2 g p l e s m args below meth c ad0 n0 c0 s0 mc ms C' ad H locs ls' cells slots ⟨a1, a2, a3, a4, a5, a6, a7, a8, ⟨hl'.1, hl'.2.1, fun z hz => hl'.2.2 z (List.mem_cons_of_mem _ hz)⟩, ⟨fun z hz => a10.1 z (by rw [← hlv] at hz; exact (List.mem_filter.mp hz).1), fun _ h => (nomatch h)⟩⟩
theorem r_catch_n {E nm : String} {hd : Nat × Nat × Nat × Nat} (pre suf : List (Nat × Nat × Nat × Nat)) (hh : kr_hd M pc E hd pre suf nm) {i : Fin 4} {lv' : List (Nat × Value)} (hlv : lv.filter (fun q => !(q.1 == (i : Nat)) && !(q.1 + 1 == (i : Nat) && q.2.category == 2)) = lv') (hi : (i : Nat) < mL M) (hdg : decode (mC M) hd.2.2.1 = .ok (.astore_n i, 1)) (K : kr_AW M d (hd.2.2.1 + 1) lv' [] S r) : kr_XW M d pc lv st S r E :=
  r_catchC pre suf hh hlv hi (fun p l e R s m args below meth c H locs cells slots Q ls lw q hx hb hl k => lv_astore_n hx hb hdg rfl hl hi rfl k) K
theorem r_catch {E nm : String} {hd : Nat × Nat × Nat × Nat} (pre suf : List (Nat × Nat × Nat × Nat)) (hh : kr_hd M pc E hd pre suf nm) {i : Nat} {lv' : List (Nat × Value)} (hlv : lv.filter (fun q => !(q.1 == i) && !(q.1 + 1 == i && q.2.category == 2)) = lv') (hi : i < mL M) (hdg : decode (mC M) hd.2.2.1 = .ok (.astore i, 2)) (K : kr_AW M d (hd.2.2.1 + 2) lv' [] S r) : kr_XW M d pc lv st S r E :=
  r_catchC pre suf hh hlv hi (fun p l e R s m args below meth c H locs cells slots Q ls lw q hx hb hl k => lv_astore hx hb hdg hl hi rfl k) K
/-! ===== what Arrays.copyOf needs ===== -/
theorem r_ldcM {i : Nat} (hw : Cond.classLink (mO M) i "[Ljava/lang/Object;" ∈ kr_TB) (hd : decode (mC M) pc = .ok (.ldc i, 2)) (K : kr_AW M d (pc + 2) lv (va_rf (some 3) :: st) S r) : kr_AW M d pc lv st S r :=
  kr_rd K (fun g hok hv => kr_va_cons (Nat.lt_of_lt_of_le (by decide) hok.1) hv) (fun g p l e R s m args below meth c H locs cells slots Q ls ad hx hb ho ht hB hW hS kk => by
    have kk2 : W p l e R s m args below meth c H locs cells slots Q (F0 m (pc + 2) ls (.ref (ad 3) :: st.map (cv ad))) := kk
    rw [hW.2.1 3 (by decide)] at kk2
    exact va_ldcM hx hb ho (ht _ hw) hB.2.2.2.2.2.2.2.2.2.2.1 hd kk2)
theorem r_acmp33 {off : Int} (hd : decode (mC M) pc = .ok (.if_acmp .ne off, 3)) {tgt : Nat} (ht : (pc : Int) + off = (tgt : Int)) (K : kr_AW M d (pc + 3) lv st S r) : kr_AW M d pc lv (va_rf (some 3) :: va_rf (some 3) :: st) S r :=
  kr_rd K (fun g hok hv => kr_va_tl (kr_va_tl hv)) (fun g p l e R s m args below meth c H locs cells slots Q ls ad hx hb ho hts hB hW hS kk =>
    lv_acmp_ne (rx := some (ad 3)) (ry := some (ad 3)) hx hb hd ht (fun h => absurd rfl h) (fun _ => kk))
def kr_gc : MethodName := ⟨"java/lang/Object", "getClass", "()Ljava/lang/Class;"⟩
theorem r_getC {i : Nat} {x : Option Nat} (h : kr_rv S 43 x = some ()) (hl : Cond.methodLink (mO M) i kr_gc ∈ kr_TB) (hdc : Cond.declares kr_gc ∈ kr_NB) (hse : Cond.selects "[Ljava/lang/Object;" kr_gc kr_gc ∈ kr_TB) (hin : Cond.instanceMethod kr_gc ∈ kr_TB) (hna : Cond.native kr_gc ∈ kr_TB) (hdd : 1 ≤ d) (hrest : (st.map fun v => v.category).sum ≤ 8) (hd : decode (mC M) pc = .ok (.invokevirtual i, 3)) (K : kr_AW M d (pc + 3) lv (va_rf (some 3) :: st) S r) : kr_AW M d pc lv (va_rf x :: st) S r := by
  cases x with
  | none => cases h
  | some a =>
    have ha : sK S a = 43 := by
      simp only [kr_rv, Option.bind_some] at h
      split at h
      · next hq => exact hq
      · cases h
    refine ⟨K.1, ?_⟩
    intro g p l e s m args below meth c ad0 n0 c0 s0 mc ms C ad H locs ls cells slots A
    obtain ⟨a1, a2, a3, a4, a5, a6, a7, a8, a9, a10⟩ := A
    have C' := C
    obtain ⟨hx2, hb, hml, hrt, ho, ht, hlocks, hst, htab, hnm, hB⟩ := C
    obtain ⟨h4, hkn⟩ := a7.1.ge (k := a) (by omega)
    have hcell : H[ad a]? = some (vp_cell (gA g 3) (sL S a, .inr (.inr (.inr (.inr (fun j => (sR S a j).map ad)))))) := by
      have := a7.2.2.1 (a - 4) _ ((kr_ws_at (g := g) (ad := ad) h4 hkn).trans (by rw [kr_ar ha (by decide)]))
      exact this
    have hRA := (hB.2.1.2 3 _ (kr_tys_at (g := g) (t := 3) (by decide))).2
    have kk := K.2 g p l e s m args below meth c ad0 n0 c0 s0 mc ms C' ad H locs ls cells slots ⟨a1, a2, a3, a4, a5, a6, a7, a8, a9, kr_va_cons (Nat.lt_of_lt_of_le (by decide) a7.1.1) (kr_va_tl a10)⟩
    rw [List.map_cons, show cv ad (va_rf (some 3)) = .ref (gP g 3) from congrArg Value.ref (a7.2.1 3 (by decide))] at kk
    have hl8 := kr_room2 (m := m) (ls := ls) (pc := pc) (st0 := st) ad hrest
    refine va_getC (C := "[Ljava/lang/Object;") hx2 hb (hml.trans a9.1.symm) ho (ht _ hl) (va_Nw.use rfl (hB.2.2.1 _ hdc)) (ht _ hse) (ht _ hin) (ht _ hna) hB.2.2.2.2.2.2.2.2.2.2.1 ⟨_, hcell, rfl, va_nmO hRA (by decide)⟩ hdd ?_ hd kk
    show _ ≤ 31 * d + 133
    omega
/-- System.arraycopy(x, 0, y, 0, n) of two Object[] -/
def wC (S : AS) (k y n : Nat) : AS := (sN S, sK S, sL S, sI S, kr_w (sR S) y (fun b => if b < n then sR S k b else sR S y b), sJ S, sC S, sS S)
def kr_cp (S : AS) (x y : Option Nat) (n : Int32) : Option AS := x.bind fun k => y.bind fun q => if (sK S k = 43 ∧ sK S q = 43) ∧ (0 ≤ n.toInt ∧ n.toInt ≤ (sL S k : Int) ∧ n.toInt ≤ (sL S q : Int)) ∧ ((List.range n.toNatClampNeg).all fun i => (sR S k i).all fun a => decide (10 ≤ sK S a ∧ sK S a < 10 + kr_nC)) = true then some (wC S k q n.toNatClampNeg) else none
theorem r_copy {i : Nat} {x y : Option Nat} {n : Int32} {S1 : AS} (h : kr_cp S x y n = some S1) (hl : Cond.methodLink (mO M) i arraycopyName ∈ kr_TB) (hna : Cond.native arraycopyName ∈ kr_TB) (hst : Cond.static arraycopyName ∈ kr_TB) (hini : Cond.initialized "java/lang/System" ∈ kr_TB) (hdd : 1 ≤ d) (hrest : (st.map fun v => v.category).sum ≤ 8) (hd : decode (mC M) pc = .ok (.invokestatic i, 3)) (K : kr_AW M d (pc + 3) lv st S1 r) : kr_AW M d pc lv (.int n :: .int 0 :: va_rf y :: .int 0 :: va_rf x :: st) S r := by
  cases x with
  | none => cases h
  | some k =>
    cases y with
    | none => cases h
    | some q =>
      simp only [kr_cp, Option.bind_some] at h
      split at h
      · next hk =>
        cases h
        obtain ⟨⟨k1, k2⟩, ⟨k3, k4, k5⟩, k6⟩ := hk
        refine ⟨K.1, ?_⟩
        intro g p l e s m args below meth c ad0 n0 c0 s0 mc ms C ad H locs ls cells slots A
        obtain ⟨a1, a2, a3, a4, a5, a6, a7, a8, a9, a10⟩ := A
        have C' := C
        obtain ⟨hx2, hb, hml, hrt, ho, ht, hlocks, hstt, htab, hnm, hB⟩ := C
        obtain ⟨h4, hkn⟩ := a7.1.ge (k := k) (by omega)
        obtain ⟨h4q, hqn⟩ := a7.1.ge (k := q) (by omega)
        have hn : n.toNatClampNeg = n.toInt.toNat := rfl
        have hz : (0 : Int32).toNatClampNeg = 0 := by decide
        have ha0 := (kr_ws_at (g := g) (ad := ad) h4 hkn).trans (by rw [kr_ar k1 (by decide)])
        have ha1 := (kr_ws_at (g := g) (ad := ad) h4q hqn).trans (by rw [kr_ar k2 (by decide)])
        have hok1 : kr_ok g (wC S k q n.toNatClampNeg) := by
          obtain ⟨o1, o2, o3, o4, o5, o6, o8⟩ := a7.1
          refine ⟨o1, o2, o3, o4, o5, o6, fun a j v hv => ?_⟩
          have hv' : kr_w (sR S) q (fun b => if b < n.toNatClampNeg then sR S k b else sR S q b) a j = some v := hv
          unfold kr_w at hv'
          split at hv'
          · dsimp only at hv'
            split at hv'
            · exact o8 _ _ _ hv'
            · exact o8 _ _ _ hv'
          · exact o8 _ _ _ hv'
        have hset : kr_ws g ad (wC S k q n.toNatClampNeg) = (kr_ws g ad S).set (q - 4) (ad q, .inl (gA g 3, sL S q, .inr (.inr (.inr (.inr (va_cpy (fun j => (sR S k j).map ad) (fun j => (sR S q j).map ad) 0 0 n.toNatClampNeg)))))) := by
          rw [kr_ws_set (S := S) (S' := wC S k q n.toNatClampNeg) rfl h4q hqn (fun k' h' => kr_cE_eq (S := S) (S' := wC S k q n.toNatClampNeg) rfl rfl rfl (kr_w_ne h') rfl), kr_ar (S := wC S k q n.toNatClampNeg) (κ := 43) k2 (by decide)]
          have er : (fun j => (sR (wC S k q n.toNatClampNeg) q j).map ad) = va_cpy (fun j => (sR S k j).map ad) (fun j => (sR S q j).map ad) 0 0 n.toNatClampNeg := by
            funext j
            rw [show sR (wC S k q n.toNatClampNeg) q = (fun b => if b < n.toNatClampNeg then sR S k b else sR S q b) from kr_w_eq]
            simp only [va_cpy, Nat.zero_le, true_and, Nat.zero_add, Nat.sub_zero]
            split <;> rfl
          rw [er]
          rfl
        refine va_copyM (ws := kr_ws g ad S) hx2 hb (hml.trans a9.1.symm) ho (ht _ hl) (ht _ hna) (ht _ hst) (ht _ hini) hB.2.1 a7.2.2.1 a7.2.2.2 a8 (k - 4) (q - 4) 3 3 ha0 ha1 (kr_tys_at (g := g) (by decide)) (kr_tys_at (g := g) (by decide)) (by decide) (by decide) (fun z => by have := Int32.lt_iff_toInt_lt.mp z; have e0 : (0 : Int32).toInt = 0 := rfl; omega) (by rw [hz]; omega) (by rw [hz]; omega) (fun i hi z hzz => ?_) hdd ?_ hd (fun H1 locs1 hP1 hD1 hS1 => ?_)
        · rw [hz, Nat.zero_add] at hzz
          cases hsr : sR S k i with
          | none => rw [hsr] at hzz; cases hzz
          | some a =>
            rw [hsr] at hzz
            cases hzz
            have h9 := List.all_eq_true.mp k6 i (List.mem_range.mpr hi)
            rw [hsr] at h9
            have h10 : 10 ≤ sK S a ∧ sK S a < 10 + kr_nC := by simpa using h9
            exact kr_anyC hB a7 h10 (Or.inl (kr_obC _ (by omega)))
        · have hl8 := kr_room2 (m := m) (ls := ls) (pc := pc) (st0 := st) ad hrest
          show _ ≤ 31 * d + 133
          have e9 : nativeFrameWords "java/lang/System" "arraycopy" 5 ≤ 60 := by decide
          omega
        · rw [hz, ← hset] at hP1 hD1
          exact K.2 g p l e s m args below meth c ad0 n0 c0 s0 mc ms C' ad H1 locs1 ls cells slots ⟨a1, a2, a3, a4, a5, a6, ⟨hok1, a7.2.1, hP1, hD1⟩, hS1, a9, kr_va_tl (kr_va_tl (kr_va_tl (kr_va_tl (kr_va_tl a10))))⟩
      · cases h
end KR
end
section
/-! ===== the words that the functions are made of ===== -/
def kr_FU : Nat := 2000
def nO (S : AS) (κ : Nat) : AS := wN S κ 0 (kr_cN (κ - 10))
def kr_b2 {α β : Type} (x : Option (α × AS)) (f : α → AS → Option β) : Option β := x.bind fun q => f q.1 q.2
def kr_bx {α β : Type} (x : Option ((α ⊕ String) × AS)) (f : α → AS → Option ((β ⊕ String) × AS)) : Option ((β ⊕ String) × AS) := x.bind fun q => match q.1 with
  | .inl v => f v q.2
  | .inr E => some (.inr E, q.2)
def kr_bh {α β : Type} (x : Option ((α ⊕ String) × AS)) (g : String → AS → Option β) (f : α → AS → Option β) : Option β := x.bind fun q => match q.1 with
  | .inl v => f v q.2
  | .inr E => g E q.2
theorem kr_ob {α β : Type} {x : Option α} {f : α → Option β} {r : β} (h : x.bind f = some r) : ∃ v, x = some v ∧ f v = some r := Option.bind_eq_some_iff.mp h
theorem kr_ob2 {α β : Type} {x : Option (α × AS)} {f : α → AS → Option β} {r : β} (h : kr_b2 x f = some r) : ∃ v S, x = some (v, S) ∧ f v S = some r := by
  obtain ⟨⟨v, S⟩, h1, h2⟩ := kr_ob h
  exact ⟨v, S, h1, h2⟩
theorem kr_obx {α β : Type} {x : Option ((α ⊕ String) × AS)} {f : α → AS → Option ((β ⊕ String) × AS)} {r : (β ⊕ String) × AS} (h : kr_bx x f = some r) : (∃ v S, x = some (.inl v, S) ∧ f v S = some r) ∨ (∃ E S, x = some (.inr E, S) ∧ some (.inr E, S) = some r) := by
  obtain ⟨⟨v, S⟩, h1, h2⟩ := kr_ob h
  cases v with
  | inl v => exact Or.inl ⟨v, S, h1, h2⟩
  | inr E => exact Or.inr ⟨E, S, h1, h2⟩
theorem kr_obh {α β : Type} {x : Option ((α ⊕ String) × AS)} {g : String → AS → Option β} {f : α → AS → Option β} {r : β} (h : kr_bh x g f = some r) : (∃ v S, x = some (.inl v, S) ∧ f v S = some r) ∨ (∃ E S, x = some (.inr E, S) ∧ g E S = some r) := by
  obtain ⟨⟨v, S⟩, h1, h2⟩ := kr_ob h
  cases v with
  | inl v => exact Or.inl ⟨v, S, h1, h2⟩
  | inr E => exact Or.inr ⟨E, S, h1, h2⟩
theorem kr_ip {α : Type} {c : Prop} [Decidable c] {a b r : α} (hc : c) (h : (if c then a else b) = r) : a = r := by rw [if_pos hc] at h; exact h
theorem kr_in_ {α : Type} {c : Prop} [Decidable c] {a b r : α} (hc : ¬ c) (h : (if c then a else b) = r) : b = r := by rw [if_neg hc] at h; exact h
theorem kr_inc {x v c : Int32} {n : Int} (hc : Int32.ofInt n = c) (h : some (x + c) = some v) : x + Int32.ofInt n = v := by rw [hc]; exact Option.some.inj h
def kr_eV (S : AS) : AR := (.inl none, S)
def kr_eI (q : Int32 × AS) : AR := (.inl (some (.int q.1)), q.2)
def kr_eR (q : Option Nat × AS) : AR := (.inl (some (va_rf q.1)), q.2)
def kr_xV (q : (Unit ⊕ String) × AS) : AR := (match q.1 with | .inl _ => .inl none | .inr E => .inr E, q.2)
def kr_xI (q : (Int32 ⊕ String) × AS) : AR := (match q.1 with | .inl v => .inl (some (.int v)) | .inr E => .inr E, q.2)
def kr_xR (q : (Option Nat ⊕ String) × AS) : AR := (match q.1 with | .inl v => .inl (some (va_rf v)) | .inr E => .inr E, q.2)
def kr_cs (st : List Value) (n : Nat) : Prop := (st.map fun v => v.category).sum ≤ n
theorem kr_c0 : kr_cs [] 0 := Nat.le_refl _
theorem kr_cI {st : List Value} {n : Nat} {v : Int32} (h : kr_cs st n) : kr_cs (.int v :: st) (n + 1) := by
  have h' : (st.map fun v => v.category).sum ≤ n := h
  show ((Value.int v :: st).map fun v => v.category).sum ≤ n + 1
  rw [List.map_cons, List.sum_cons, show (Value.int v).category = 1 from rfl]
  omega
theorem kr_cR {st : List Value} {n : Nat} {x : Option Nat} (h : kr_cs st n) : kr_cs (va_rf x :: st) (n + 1) := by
  have h' : (st.map fun v => v.category).sum ≤ n := h
  show ((va_rf x :: st).map fun v => v.category).sum ≤ n + 1
  simp only [List.map_cons, List.sum_cons, kr_rfcat]
  omega
theorem kr_cJ {st : List Value} {n : Nat} {v : Int64} (h : kr_cs st n) : kr_cs (.long v :: st) (n + 2) := by
  have h' : (st.map fun v => v.category).sum ≤ n := h
  show ((Value.long v :: st).map fun v => v.category).sum ≤ n + 2
  rw [List.map_cons, List.sum_cons, show (Value.long v).category = 2 from rfl]
  omega
theorem kr_c8 {st : List Value} {n : Nat} (h : kr_cs st n) (hn : n ≤ 8 := by decide) : (st.map fun v => v.category).sum ≤ 8 := Nat.le_trans h hn
theorem kr_tab {x : Int32} {lo hi : Int} {n : Nat} (hn : hi = lo + n - 1 ∧ -1000 ≤ lo ∧ hi ≤ 1000) (h : ∀ j : Nat, j < n → ¬ x = Int32.ofInt (lo + j)) : x.toInt < lo ∨ hi < x.toInt := by
  rcases Int.lt_or_le x.toInt lo with q | q
  · exact Or.inl q
  · rcases Int.lt_or_le hi x.toInt with q2 | q2
    · exact Or.inr q2
    · exact absurd (by rw [show lo + ((x.toInt - lo).toNat : Int) = x.toInt by omega, Int32.ofInt_toInt]) (h (x.toInt - lo).toNat (by omega))
section KR
variable {M : MM} {d pc : Nat} {lv : List (Nat × Value)} {st : List Value} {S : AS} {r : AR}
theorem kr_nmI {e x : Int32} (h : some e = some x) (K : kr_AW M d pc lv (.int x :: st) S r) : kr_AW M d pc lv (.int e :: st) S r := by cases h; exact K
theorem kr_nmI2 {e x y : Int32} (h : some e = some x) (K : kr_AW M d pc lv (.int y :: .int x :: st) S r) : kr_AW M d pc lv (.int y :: .int e :: st) S r := by cases h; exact K
theorem r_newO_ {κ i : Nat} {S1 : AS} (h : some (nO S κ) = some S1) (hκ : 10 ≤ κ ∧ κ < 10 + kr_nC) (hw : Cond.classLink (mO M) i (kr_cC (κ - 10)) ∈ kr_TB) (hi : Cond.instantiable (kr_cC (κ - 10)) (kr_cN (κ - 10)) ∈ kr_TB) (hini : Cond.initialized (kr_cC (κ - 10)) ∈ kr_TB) (hd : decode (mC M) pc = .ok (.new i, 3)) (K : kr_AW M d (pc + 3) lv (va_rf (some (sN S)) :: st) S1 r) : kr_AW M d pc lv st S r := by
  cases h
  exact r_new hκ hw hi hini hd K
theorem kr_k1 {w : Value} {S1 : AS} (K : kr_AW M d pc lv (w :: st) S1 r) : ∀ v, ((Sum.inl (some w), S1) : AR).1 = .inl v → kr_AW M d pc lv (v.toList ++ st) ((Sum.inl (some w), S1) : AR).2 r := fun v h => by cases h; exact K
theorem kr_k0 {S1 : AS} (K : kr_AW M d pc lv st S1 r) : ∀ v, ((Sum.inl none, S1) : AR).1 = .inl v → kr_AW M d pc lv (v.toList ++ st) ((Sum.inl none, S1) : AR).2 r := fun v h => by cases h; exact K
theorem kr_kn {v : Option Value} {S1 : AS} : ∀ E, ((Sum.inl v, S1) : AR).1 = .inr E → kr_XW M d pc lv st ((Sum.inl v, S1) : AR).2 r E := fun E h => nomatch h
theorem kr_nk {E : String} {S1 : AS} : ∀ v, ((Sum.inr E, S1) : AR).1 = .inl v → kr_AW M d pc lv (v.toList ++ st) ((Sum.inr E, S1) : AR).2 r := fun v h => nomatch h
theorem kr_kx {E : String} {S1 : AS} (K : kr_XW M d pc lv st S1 r E) : ∀ E', ((Sum.inr E, S1) : AR).1 = .inr E' → kr_XW M d pc lv st ((Sum.inr E, S1) : AR).2 r E' := fun E' h => by cases h; exact K
theorem kr_pre {E : String} {z : Nat × Nat × Nat × Nat} {l : List (Nat × Nat × Nat × Nat)} (h : ∃ n2 : String, z.2.2.2 ≠ 0 ∧ Cond.classLink (mO M) z.2.2.2 n2 ∈ kr_TB ∧ (E, n2) ∈ kr_ncs) (t : ∀ z ∈ l, ∃ n2 : String, z.2.2.2 ≠ 0 ∧ Cond.classLink (mO M) z.2.2.2 n2 ∈ kr_TB ∧ (E, n2) ∈ kr_ncs) : ∀ y ∈ z :: l, ∃ n2 : String, y.2.2.2 ≠ 0 ∧ Cond.classLink (mO M) y.2.2.2 n2 ∈ kr_TB ∧ (E, n2) ∈ kr_ncs := by
  intro z' hz'
  rcases List.mem_cons.mp hz' with e | hz'
  · subst e; exact h
  · exact t _ hz'
end KR
end
