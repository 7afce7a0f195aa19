def kr_room (d mc ms : Nat) : Room := { frames := d, cells := mc, slots := ms, locals := 31 * d + 192 }
/-- an end: an answer, or an exception by its class; and the state then -/
abbrev AR : Type := (Option Value ⊕ String) × AS
def cv (ad : Nat → Nat) : Value → Value
  | .ref a => .ref (ad a)
  | v => v
/-- a value whose reference is a place that is there -/
def kr_vl (n : Nat) : Value → Prop
  | .ref a => a < n
  | _ => True
def kr_va (n : Nat) (lv : List (Nat × Value)) (st : List Value) : Prop := (∀ q ∈ lv, kr_vl n q.2) ∧ ∀ v ∈ st, kr_vl n v
theorem kr_vl_mono {n m : Nat} (h : n ≤ m) {v : Value} (hv : kr_vl n v) : kr_vl m v := by
  cases v <;> first | trivial | exact Nat.lt_of_lt_of_le hv h
theorem kr_va_mono {n m : Nat} (h : n ≤ m) {lv : List (Nat × Value)} {st : List Value} (hv : kr_va n lv st) : kr_va m lv st := ⟨fun q hq => kr_vl_mono h (hv.1 q hq), fun v q => kr_vl_mono h (hv.2 v q)⟩
theorem kr_va_tl {n : Nat} {lv : List (Nat × Value)} {v : Value} {st : List Value} (h : kr_va n lv (v :: st)) : kr_va n lv st := ⟨h.1, fun w hw => h.2 w (List.mem_cons_of_mem _ hw)⟩
theorem kr_va_hd {n : Nat} {lv : List (Nat × Value)} {v : Value} {st : List Value} (h : kr_va n lv (v :: st)) : kr_vl n v := h.2 v List.mem_cons_self
theorem kr_va_cons {n : Nat} {lv : List (Nat × Value)} {v : Value} {st : List Value} (hv : kr_vl n v) (h : kr_va n lv st) : kr_va n lv (v :: st) := ⟨h.1, fun w hw => (List.mem_cons.mp hw).elim (fun e => e ▸ hv) (h.2 w)⟩
theorem kr_va_at {n : Nat} {lv : List (Nat × Value)} {st : List Value} (h : kr_va n lv st) {k i : Nat} {v : Value} (hk : lv[k]? = some (i, v)) : kr_vl n v := h.1 _ (List.mem_of_getElem? hk)
def kr_ext (n0 : Nat) (ad0 ad : Nat → Nat) : Prop := ∀ k, k < n0 → ad k = ad0 k
theorem kr_ext_rf {n0 : Nat} {ad : Nat → Nat} : kr_ext n0 ad ad := fun _ _ => rfl
theorem kr_ext_tr {n0 n1 : Nat} {a b c : Nat → Nat} (hn : n0 ≤ n1) (h1 : kr_ext n0 a b) (h2 : kr_ext n1 b c) : kr_ext n0 a c := fun k hk => (h2 k (Nat.lt_of_lt_of_le hk hn)).trans (h1 k hk)
def kr_Q (g : GG) (ad0 : Nat → Nat) (n0 : Nat) (r : AR) : Array Value → State → Outcome → State → Prop := fun _ st o t => (∃ (v : Option Value) (ad : Nat → Nat), r.1 = .inl v ∧ o = .returned (v.map (cv ad)) ∧ kr_ext n0 ad0 ad ∧ Wd g ad r.2 t.heap ∧ ∀ w, v = some w → kr_vl (sN r.2) w) ∧ va_F (kr_fr g) st t
def kr_XC (g : GG) (ad0 : Nat → Nat) (n0 : Nat) (r : AR) : String → State → State → Prop := fun E st t => (∃ (ad : Nat → Nat), r.1 = .inr E ∧ kr_ext n0 ad0 ad ∧ Wd g ad r.2 t.heap) ∧ va_F (kr_fr g) st t
/-- what holds all through a method's run -/
def kr_Ctx (g : GG) (M : MM) (p : Program) (l : Launch) (s : State) (m : MethodId) (args : Array Value) (meth : Method) (c : Code) : Prop :=
  p.tables.exec = Jvm.exec ∧ c.code = mC M ∧ c.maxLocals = mL M ∧ meth.sig.returnType = mR M ∧ s.vm.findClass (mO M) = some m.cls ∧ (∀ w ∈ kr_TB, w.before args s = true) ∧ meth.locks = false ∧ l.stackTraces = false ∧ c.exceptionTable.toList = tableOf (mH M) ∧ (meth.name = mN M ∧ ∀ X L, mX M = some (X, L) → gX g = X ∧ gL g = L) ∧ Bs g s s.heap
/-- what holds where the method stands -/
def kr_At (g : GG) (M : MM) (s : State) (S : AS) (r : AR) (ad0 : Nat → Nat) (n0 c0 s0 mc ms : Nat) (lv : List (Nat × Value)) (st : List Value) (ad : Nat → Nat) (H : Heap) (locs : List Loc) (ls : Array Slot) (cells slots : Nat) : Prop :=
  c0 + cells = sC S ∧ s0 + slots = sS S ∧ sC r.2 ≤ c0 + mc ∧ sS r.2 ≤ s0 + ms ∧ n0 ≤ sN S ∧ kr_ext n0 ad0 ad ∧ Wd g ad S H ∧ va_S (kr_fr g) s.heap H locs ∧ lv_has ls (mL M) (lv.map (fun q => (q.1, cv ad q.2))) ∧ kr_va (sN S) lv st
/-- THE JUDGEMENT: the method M, at pc with these locals and this stack, in the state S, comes to the end r -/
def kr_AW (M : MM) (d pc : Nat) (lv : List (Nat × Value)) (st : List Value) (S : AS) (r : AR) : Prop :=
  (sC S ≤ sC r.2 ∧ sS S ≤ sS r.2 ∧ sN S ≤ sN r.2) ∧ ∀ (g : GG) (p : Program) (l : Launch) (e : Env) (s : State) (m : MethodId) (args : Array Value) (below : List Frame) (meth : Method) (c : Code) (ad0 : Nat → Nat) (n0 c0 s0 mc ms : Nat),
    kr_Ctx g M p l s m args meth c → ∀ (ad : Nat → Nat) (H : Heap) (locs : List Loc) (ls : Array Slot) (cells slots : Nat), kr_At g M s S r ad0 n0 c0 s0 mc ms lv st ad H locs ls cells slots →
    W p l e (kr_room d mc ms) s m args below meth c H locs cells slots (vx_MQ below (kr_Q g ad0 n0 r) (kr_XC g ad0 n0 r) args s mc ms (kr_fr g)) (F0 m pc ls (st.map (cv ad)))
/-- a step that leaves the state -/
theorem kr_go {M : MM} {d pc pc' : Nat} {lv lv' : List (Nat × Value)} {st st' : List Value} {S : AS} {r : AR} (K : kr_AW M d pc' lv' st' S r) (V : ∀ n, kr_va n lv st → kr_va n lv' st')
    (f : ∀ (p : Program) (l : Launch) (e : Env) (R : Room) (s : State) (m : MethodId) (args : Array Value) (below : List Frame) (meth : Method) (c : Code) (H : Heap) (locs : List Loc) (cells slots : Nat) (Q : State → Prop) (ls : Array Slot) (ad : Nat → Nat),
      p.tables.exec = Jvm.exec → c.code = mC M → s.vm.findClass (mO M) = some m.cls → (∀ w ∈ kr_TB, w.before args s = true) → lv_has ls (mL M) (lv.map (fun q => (q.1, cv ad q.2))) →
      (∀ ls', lv_has ls' (mL M) (lv'.map (fun q => (q.1, cv ad q.2))) → W p l e R s m args below meth c H locs cells slots Q (F0 m pc' ls' (st'.map (cv ad)))) → W p l e R s m args below meth c H locs cells slots Q (F0 m pc ls (st.map (cv ad)))) : kr_AW M d pc lv st S r := by
  refine ⟨K.1, ?_⟩
  intro g p l e s m args below meth c ad0 n0 c0 s0 mc ms C ad H locs ls cells slots A
  obtain ⟨a1, a2, a3, a4, a5, a6, a7, a8, a9, a10⟩ := A
  exact f p l e _ s m args below meth c H locs cells slots _ ls ad C.1 C.2.1 C.2.2.2.2.1 C.2.2.2.2.2.1 a9 (fun ls' h9 => K.2 g p l e s m args below meth c ad0 n0 c0 s0 mc ms C ad H locs ls' cells slots ⟨a1, a2, a3, a4, a5, a6, a7, a8, h9, V _ a10⟩)
/-- the same, with two ways -/
theorem kr_go2 {M : MM} {d pc p1 p2 : Nat} {P : Prop} {lv : List (Nat × Value)} {st st' : List Value} {S : AS} {r : AR} [Decidable P] (K1 : P → kr_AW M d p1 lv st' S r) (K2 : ¬ P → kr_AW M d p2 lv st' S r) (V : ∀ n, kr_va n lv st → kr_va n lv st')
    (f : ∀ (p : Program) (l : Launch) (e : Env) (R : Room) (s : State) (m : MethodId) (args : Array Value) (below : List Frame) (meth : Method) (c : Code) (H : Heap) (locs : List Loc) (cells slots : Nat) (Q : State → Prop) (ls : Array Slot) (ad : Nat → Nat),
      p.tables.exec = Jvm.exec → c.code = mC M → (P → W p l e R s m args below meth c H locs cells slots Q (F0 m p1 ls (st'.map (cv ad)))) → (¬ P → W p l e R s m args below meth c H locs cells slots Q (F0 m p2 ls (st'.map (cv ad)))) → W p l e R s m args below meth c H locs cells slots Q (F0 m pc ls (st.map (cv ad)))) : kr_AW M d pc lv st S r := by
  refine ⟨if h : P then (K1 h).1 else (K2 h).1, ?_⟩
  intro g p l e s m args below meth c ad0 n0 c0 s0 mc ms C ad H locs ls cells slots A
  obtain ⟨a1, a2, a3, a4, a5, a6, a7, a8, a9, a10⟩ := A
  exact f p l e _ s m args below meth c H locs cells slots _ ls ad C.1 C.2.1 (fun h => (K1 h).2 g p l e s m args below meth c ad0 n0 c0 s0 mc ms C ad H locs ls cells slots ⟨a1, a2, a3, a4, a5, a6, a7, a8, a9, V _ a10⟩) (fun h => (K2 h).2 g p l e s m args below meth c ad0 n0 c0 s0 mc ms C ad H locs ls cells slots ⟨a1, a2, a3, a4, a5, a6, a7, a8, a9, V _ a10⟩)
theorem kr_lv {ls : Array Slot} {nL : Nat} {lv : List (Nat × Value)} {ad : Nat → Nat} (h : lv_has ls nL (lv.map (fun q => (q.1, cv ad q.2)))) (k : Nat) {i : Nat} {v : Value} (hk : lv[k]? = some (i, v)) : ls[i]? = some (.val (cv ad v)) :=
  h.2.2 (i, cv ad v) (List.mem_map.mpr ⟨(i, v), List.mem_of_getElem? hk, rfl⟩)
theorem kr_cat (ad : Nat → Nat) (v : Value) : (cv ad v).category = v.category := by cases v <;> rfl
theorem kr_catm (ad : Nat → Nat) (l : List Value) : ((l.map (cv ad)).map fun v => v.category).sum = (l.map fun v => v.category).sum := by
  rw [List.map_map]
  exact congrArg List.sum (List.map_congr_left fun v _ => kr_cat ad v)
/-- the locals behind a store -/
def kr_st (lv : List (Nat × Value)) (i : Nat) (v : Value) : List (Nat × Value) := (i, v) :: lv.filter (fun q => !(q.1 == i) && !(q.1 + 1 == i && q.2.category == 2))
theorem kr_st_map (ad : Nat → Nat) (lv : List (Nat × Value)) (i : Nat) (v : Value) : (kr_st lv i v).map (fun q => (q.1, cv ad q.2)) = (i, cv ad v) :: (lv.map (fun q => (q.1, cv ad q.2))).filter (fun q => !(q.1 == i) && !(q.1 + 1 == i && q.2.category == 2)) := by
  unfold kr_st
  rw [List.map_cons]
  refine congrArg _ ?_
  induction lv with
  | nil => rfl
  | cons q lv ih =>
    simp only [List.filter_cons, List.map_cons, kr_cat]
    split
    · rw [List.map_cons, ih]
    · exact ih
theorem kr_st_va {n : Nat} {lv : List (Nat × Value)} {i : Nat} {v : Value} {st : List Value} (hv : kr_vl n v) (h : kr_va n lv st) : kr_va n (kr_st lv i v) st := ⟨fun q hq => (List.mem_cons.mp hq).elim (fun e => e ▸ hv) (fun hq => h.1 q (List.mem_filter.mp hq).1), h.2⟩
theorem kr_rf (r : Option Nat) (ad : Nat → Nat) : cv ad (va_rf r) = va_rf (r.map ad) := by cases r <;> rfl
theorem kr_rfcat (r : Option Nat) : (va_rf r).category = 1 := by cases r <;> rfl
/-- fewer locals -/
theorem kr_sub {M : MM} {d pc : Nat} {lv lv' : List (Nat × Value)} {st : List Value} {S : AS} {r : AR} (ks : List Nat) (h : ks.filterMap (fun k => lv[k]?) = lv') (K : kr_AW M d pc lv' st S r) : kr_AW M d pc lv st S r :=
  kr_go K (fun n hv => ⟨fun q hq => by
    rw [← h] at hq
    obtain ⟨i, -, hi⟩ := List.mem_filterMap.mp hq
    exact hv.1 q (List.mem_of_getElem? hi), hv.2⟩) (fun p l e R s m args below meth c H locs cells slots Q ls ad hx hb ho ht hl k => k ls ⟨hl.1, hl.2.1, fun q hq => by
    obtain ⟨q0, h1, rfl⟩ := List.mem_map.mp hq
    rw [← h] at h1
    obtain ⟨i, -, hi⟩ := List.mem_filterMap.mp h1
    exact hl.2.2 _ (List.mem_map.mpr ⟨q0, List.mem_of_getElem? hi, rfl⟩)⟩)
section KR
variable {M : MM} {d pc : Nat} {lv : List (Nat × Value)} {st : List Value} {S : AS} {r : AR}
theorem r_iconst {n : Int} {v : Int32} (hv : Int32.ofInt n = v) (hd : decode (mC M) pc = .ok (.iconst n, 1)) (K : kr_AW M d (pc + 1) lv (.int v :: st) S r) : kr_AW M d pc lv (st) S r :=
  kr_go K (fun n h => kr_va_cons trivial h) (fun p l e R s m args below meth c H locs cells slots Q ls ad hx hb ho ht hl k => lv_iconst hx hb hd hv (k ls hl))
theorem r_bipush {n : Int} {v : Int32} (hv : (Int8.ofInt n).toInt32 = v) (hd : decode (mC M) pc = .ok (.bipush n, 2)) (K : kr_AW M d (pc + 2) lv (.int v :: st) S r) : kr_AW M d pc lv (st) S r :=
  kr_go K (fun n h => kr_va_cons trivial h) (fun p l e R s m args below meth c H locs cells slots Q ls ad hx hb ho ht hl k => lv_bipush hx hb hd hv (k ls hl))
theorem r_sipush {n : Int} {v : Int32} (hv : (Int16.ofInt n).toInt32 = v) (hd : decode (mC M) pc = .ok (.sipush n, 3)) (K : kr_AW M d (pc + 3) lv (.int v :: st) S r) : kr_AW M d pc lv (st) S r :=
  kr_go K (fun n h => kr_va_cons trivial h) (fun p l e R s m args below meth c H locs cells slots Q ls ad hx hb ho ht hl k => lv_sipush hx hb hd hv (k ls hl))
theorem r_lconst {n : Fin 2} {v : Int64} (hv : Int64.ofNat (n : Nat) = v) (hd : decode (mC M) pc = .ok (.lconst n, 1)) (K : kr_AW M d (pc + 1) lv (.long v :: st) S r) : kr_AW M d pc lv (st) S r :=
  kr_go K (fun n h => kr_va_cons trivial h) (fun p l e R s m args below meth c H locs cells slots Q ls ad hx hb ho ht hl k => lv_lconst hx hb hd hv (k ls hl))
theorem r_ldc {i : Nat} {v : Int32} (hw : Cond.constant (mO M) i v ∈ kr_TB) (hd : decode (mC M) pc = .ok (.ldc i, 2)) (K : kr_AW M d (pc + 2) lv (.int v :: st) S r) : kr_AW M d pc lv (st) S r :=
  kr_go K (fun n h => kr_va_cons trivial h) (fun p l e R s m args below meth c H locs cells slots Q ls ad hx hb ho ht hl k => lv_ldc hx hb ho (ht _ hw) hd (k ls hl))
theorem r_ldcw {i : Nat} {v : Int32} (hw : Cond.constant (mO M) i v ∈ kr_TB) (hd : decode (mC M) pc = .ok (.ldc_w i, 3)) (K : kr_AW M d (pc + 3) lv (.int v :: st) S r) : kr_AW M d pc lv (st) S r :=
  kr_go K (fun n h => kr_va_cons trivial h) (fun p l e R s m args below meth c H locs cells slots Q ls ad hx hb ho ht hl k => lv_ldcw hx hb ho (ht _ hw) hd (k ls hl))
theorem r_iload_n {i : Fin 4} {x : Int32} (q : Nat) (hi : lv[q]? = some ((i : Nat), .int x)) (hd : decode (mC M) pc = .ok (.iload_n i, 1)) (K : kr_AW M d (pc + 1) lv (.int x :: st) S r) : kr_AW M d pc lv (st) S r :=
  kr_go K (fun n h => kr_va_cons trivial h) (fun p l e R s m args below meth c H locs cells slots Q ls ad hx hb ho ht hl k => lv_iload_n hx hb hd rfl (kr_lv hl q hi) (k ls hl))
theorem r_iload {i : Nat} {x : Int32} (q : Nat) (hi : lv[q]? = some ((i : Nat), .int x)) (hd : decode (mC M) pc = .ok (.iload i, 2)) (K : kr_AW M d (pc + 2) lv (.int x :: st) S r) : kr_AW M d pc lv (st) S r :=
  kr_go K (fun n h => kr_va_cons trivial h) (fun p l e R s m args below meth c H locs cells slots Q ls ad hx hb ho ht hl k => lv_iload hx hb hd (kr_lv hl q hi) (k ls hl))
theorem r_aload_n {i : Fin 4} {x : Option Nat} (q : Nat) (hi : lv[q]? = some ((i : Nat), va_rf x)) (hd : decode (mC M) pc = .ok (.aload_n i, 1)) (K : kr_AW M d (pc + 1) lv (va_rf x :: st) S r) : kr_AW M d pc lv st S r := by
  refine kr_go K (fun n h => kr_va_cons (kr_va_at h hi) h) (fun p l e R s m args below meth c H locs cells slots Q ls ad hx hb ho ht hl k => ?_)
  have h1 := kr_lv hl q hi
  have h2 := k ls hl
  cases x with
  | none => exact lv_aload_nN hx hb hd rfl h1 h2
  | some a => exact lv_aload_n hx hb hd rfl h1 h2
theorem r_aload {i : Nat} {x : Option Nat} (q : Nat) (hi : lv[q]? = some ((i : Nat), va_rf x)) (hd : decode (mC M) pc = .ok (.aload i, 2)) (K : kr_AW M d (pc + 2) lv (va_rf x :: st) S r) : kr_AW M d pc lv st S r := by
  refine kr_go K (fun n h => kr_va_cons (kr_va_at h hi) h) (fun p l e R s m args below meth c H locs cells slots Q ls ad hx hb ho ht hl k => ?_)
  have h1 := kr_lv hl q hi
  have h2 := k ls hl
  cases x with
  | none => exact lv_aloadN hx hb hd h1 h2
  | some a => exact lv_aload hx hb hd h1 h2
theorem r_istore_n {i : Fin 4} {x : Int32} {lv' : List (Nat × Value)} (hn : (i : Nat) < mL M) (hl' : kr_st lv i (.int x) = lv') (hd : decode (mC M) pc = .ok (.istore_n i, 1)) (K : kr_AW M d (pc + 1) lv' st S r) : kr_AW M d pc lv (.int x :: st) S r := by
  subst hl'
  exact kr_go K (fun n h => kr_st_va trivial (kr_va_tl h)) (fun p l e R s m args below meth c H locs cells slots Q ls ad hx hb ho ht hl k => lv_istore_n hx hb hd rfl hl hn (kr_st_map ad lv i (.int x)).symm k)
theorem r_istore {i : Nat} {x : Int32} {lv' : List (Nat × Value)} (hn : (i : Nat) < mL M) (hl' : kr_st lv i (.int x) = lv') (hd : decode (mC M) pc = .ok (.istore i, 2)) (K : kr_AW M d (pc + 2) lv' st S r) : kr_AW M d pc lv (.int x :: st) S r := by
  subst hl'
  exact kr_go K (fun n h => kr_st_va trivial (kr_va_tl h)) (fun p l e R s m args below meth c H locs cells slots Q ls ad hx hb ho ht hl k => lv_istore hx hb hd hl hn (kr_st_map ad lv i (.int x)).symm k)
theorem r_astore_n {i : Fin 4} {x : Option Nat} {lv' : List (Nat × Value)} (hn : (i : Nat) < mL M) (hl' : kr_st lv i (va_rf x) = lv') (hd : decode (mC M) pc = .ok (.astore_n i, 1)) (K : kr_AW M d (pc + 1) lv' st S r) : kr_AW M d pc lv (va_rf x :: st) S r := by
  subst hl'
  refine kr_go K (fun n h => kr_st_va (kr_va_hd h) (kr_va_tl h)) (fun p l e R s m args below meth c H locs cells slots Q ls ad hx hb ho ht hl k => ?_)
  cases x with
  | none => exact lv_astore_nN hx hb hd rfl hl hn (kr_st_map ad lv i .null).symm k
  | some a => exact lv_astore_n hx hb hd rfl hl hn (kr_st_map ad lv i (.ref a)).symm k
theorem r_astore {i : Nat} {x : Option Nat} {lv' : List (Nat × Value)} (hn : (i : Nat) < mL M) (hl' : kr_st lv i (va_rf x) = lv') (hd : decode (mC M) pc = .ok (.astore i, 2)) (K : kr_AW M d (pc + 2) lv' st S r) : kr_AW M d pc lv (va_rf x :: st) S r := by
  subst hl'
  refine kr_go K (fun n h => kr_st_va (kr_va_hd h) (kr_va_tl h)) (fun p l e R s m args below meth c H locs cells slots Q ls ad hx hb ho ht hl k => ?_)
  cases x with
  | none => exact lv_astoreN hx hb hd hl hn (kr_st_map ad lv i .null).symm k
  | some a => exact lv_astore hx hb hd hl hn (kr_st_map ad lv i (.ref a)).symm k
theorem r_iinc {i : Nat} {n : Int} {x v : Int32} {lv' : List (Nat × Value)} (q : Nat) (hi : lv[q]? = some (i, .int x)) (hv : x + Int32.ofInt n = v) (hn : i < mL M) (hl' : kr_st lv i (.int v) = lv') (hd : decode (mC M) pc = .ok (.iinc i n, 3)) (K : kr_AW M d (pc + 3) lv' st S r) : kr_AW M d pc lv st S r := by
  subst hl'
  exact kr_go K (fun n h => kr_st_va trivial h) (fun p l e R s m args below meth c H locs cells slots Q ls ad hx hb ho ht hl k => lv_iinc hx hb hd hl (k := q) (by rw [List.getElem?_map, hi]; rfl) hv hn (kr_st_map ad lv i (.int v)).symm k)
theorem r_iadd {x y : Int32} (hd : decode (mC M) pc = .ok (.iadd, 1)) (K : kr_AW M d (pc + 1) lv (.int (x + y) :: st) S r) : kr_AW M d pc lv (.int y :: .int x :: st) S r :=
  kr_go K (fun n h => kr_va_cons trivial (kr_va_tl (kr_va_tl h))) (fun p l e R s m args below meth c H locs cells slots Q ls ad hx hb ho ht hl k => lv_iadd hx hb hd (k ls hl))
theorem r_isub {x y : Int32} (hd : decode (mC M) pc = .ok (.isub, 1)) (K : kr_AW M d (pc + 1) lv (.int (x - y) :: st) S r) : kr_AW M d pc lv (.int y :: .int x :: st) S r :=
  kr_go K (fun n h => kr_va_cons trivial (kr_va_tl (kr_va_tl h))) (fun p l e R s m args below meth c H locs cells slots Q ls ad hx hb ho ht hl k => lv_isub hx hb hd (k ls hl))
theorem r_imul {x y : Int32} (hd : decode (mC M) pc = .ok (.imul, 1)) (K : kr_AW M d (pc + 1) lv (.int (x * y) :: st) S r) : kr_AW M d pc lv (.int y :: .int x :: st) S r :=
  kr_go K (fun n h => kr_va_cons trivial (kr_va_tl (kr_va_tl h))) (fun p l e R s m args below meth c H locs cells slots Q ls ad hx hb ho ht hl k => lv_imul hx hb hd (k ls hl))
theorem r_iand {x y : Int32} (hd : decode (mC M) pc = .ok (.iand, 1)) (K : kr_AW M d (pc + 1) lv (.int (x &&& y) :: st) S r) : kr_AW M d pc lv (.int y :: .int x :: st) S r :=
  kr_go K (fun n h => kr_va_cons trivial (kr_va_tl (kr_va_tl h))) (fun p l e R s m args below meth c H locs cells slots Q ls ad hx hb ho ht hl k => lv_iand hx hb hd (k ls hl))
theorem r_ior {x y : Int32} (hd : decode (mC M) pc = .ok (.ior, 1)) (K : kr_AW M d (pc + 1) lv (.int (x ||| y) :: st) S r) : kr_AW M d pc lv (.int y :: .int x :: st) S r :=
  kr_go K (fun n h => kr_va_cons trivial (kr_va_tl (kr_va_tl h))) (fun p l e R s m args below meth c H locs cells slots Q ls ad hx hb ho ht hl k => lv_ior hx hb hd (k ls hl))
theorem r_ixor {x y : Int32} (hd : decode (mC M) pc = .ok (.ixor, 1)) (K : kr_AW M d (pc + 1) lv (.int (x ^^^ y) :: st) S r) : kr_AW M d pc lv (.int y :: .int x :: st) S r :=
  kr_go K (fun n h => kr_va_cons trivial (kr_va_tl (kr_va_tl h))) (fun p l e R s m args below meth c H locs cells slots Q ls ad hx hb ho ht hl k => lv_ixor hx hb hd (k ls hl))
theorem r_idiv {x y : Int32} (h0 : ¬ y = 0) (hd : decode (mC M) pc = .ok (.idiv, 1)) (K : kr_AW M d (pc + 1) lv (.int (x / y) :: st) S r) : kr_AW M d pc lv (.int y :: .int x :: st) S r :=
  kr_go K (fun n h => kr_va_cons trivial (kr_va_tl (kr_va_tl h))) (fun p l e R s m args below meth c H locs cells slots Q ls ad hx hb ho ht hl k => lv_idiv hx hb hd h0 (k ls hl))
theorem r_irem {x y : Int32} (h0 : ¬ y = 0) (hd : decode (mC M) pc = .ok (.irem, 1)) (K : kr_AW M d (pc + 1) lv (.int (x - x / y * y) :: st) S r) : kr_AW M d pc lv (.int y :: .int x :: st) S r :=
  kr_go K (fun n h => kr_va_cons trivial (kr_va_tl (kr_va_tl h))) (fun p l e R s m args below meth c H locs cells slots Q ls ad hx hb ho ht hl k => lv_irem hx hb hd h0 (k ls hl))
theorem r_ishl {x y : Int32} (hd : decode (mC M) pc = .ok (.ishl, 1)) (K : kr_AW M d (pc + 1) lv (.int (x <<< (y &&& 31)) :: st) S r) : kr_AW M d pc lv (.int y :: .int x :: st) S r :=
  kr_go K (fun n h => kr_va_cons trivial (kr_va_tl (kr_va_tl h))) (fun p l e R s m args below meth c H locs cells slots Q ls ad hx hb ho ht hl k => lv_ishl hx hb hd (k ls hl))
theorem r_ishr {x y : Int32} (hd : decode (mC M) pc = .ok (.ishr, 1)) (K : kr_AW M d (pc + 1) lv (.int (x >>> (y &&& 31)) :: st) S r) : kr_AW M d pc lv (.int y :: .int x :: st) S r :=
  kr_go K (fun n h => kr_va_cons trivial (kr_va_tl (kr_va_tl h))) (fun p l e R s m args below meth c H locs cells slots Q ls ad hx hb ho ht hl k => lv_ishr hx hb hd (k ls hl))
theorem r_iushr {x y : Int32} (hd : decode (mC M) pc = .ok (.iushr, 1)) (K : kr_AW M d (pc + 1) lv (.int (x.toUInt32 >>> (y.toUInt32 &&& Int32.toUInt32 31)).toInt32 :: st) S r) : kr_AW M d pc lv (.int y :: .int x :: st) S r :=
  kr_go K (fun n h => kr_va_cons trivial (kr_va_tl (kr_va_tl h))) (fun p l e R s m args below meth c H locs cells slots Q ls ad hx hb ho ht hl k => lv_iushr hx hb hd rfl (k ls hl))
theorem r_i2l {x : Int32} (hd : decode (mC M) pc = .ok (.i2l, 1)) (K : kr_AW M d (pc + 1) lv (.long x.toInt64 :: st) S r) : kr_AW M d pc lv (.int x :: st) S r :=
  kr_go K (fun n h => kr_va_cons trivial (kr_va_tl h)) (fun p l e R s m args below meth c H locs cells slots Q ls ad hx hb ho ht hl k => lv_i2l hx hb hd rfl (k ls hl))
theorem r_lcmp {x y : Int64} (hd : decode (mC M) pc = .ok (.lcmp, 1)) (K : kr_AW M d (pc + 1) lv (.int (lg_cmp x y) :: st) S r) : kr_AW M d pc lv (.long y :: .long x :: st) S r :=
  kr_go K (fun n h => kr_va_cons trivial (kr_va_tl (kr_va_tl h))) (fun p l e R s m args below meth c H locs cells slots Q ls ad hx hb ho ht hl k => W.lcmp hx hb hd (k ls hl))
theorem r_dup {v : Value} (hv : v.category = 1) (hd : decode (mC M) pc = .ok (.dup, 1)) (K : kr_AW M d (pc + 1) lv (v :: v :: st) S r) : kr_AW M d pc lv (v :: st) S r :=
  kr_go K (fun n h => kr_va_cons (kr_va_hd h) h) (fun p l e R s m args below meth c H locs cells slots Q ls ad hx hb ho ht hl k => lv_dup hx hb hd ((kr_cat ad v).trans hv) (k ls hl))
theorem r_pop {v : Value} (hv : v.category = 1) (hd : decode (mC M) pc = .ok (.pop, 1)) (K : kr_AW M d (pc + 1) lv (st) S r) : kr_AW M d pc lv (v :: st) S r :=
  kr_go K (fun n h => kr_va_tl h) (fun p l e R s m args below meth c H locs cells slots Q ls ad hx hb ho ht hl k => lv_pop hx hb hd ((kr_cat ad v).trans hv) (k ls hl))
theorem r_dup_x1 {v w : Value} (hv : v.category = 1) (hw : w.category = 1) (hd : decode (mC M) pc = .ok (.dup_x1, 1)) (K : kr_AW M d (pc + 1) lv (v :: w :: v :: st) S r) : kr_AW M d pc lv (v :: w :: st) S r :=
  kr_go K (fun n h => kr_va_cons (kr_va_hd h) (kr_va_cons (kr_va_hd (kr_va_tl h)) (kr_va_cons (kr_va_hd h) (kr_va_tl (kr_va_tl h))))) (fun p l e R s m args below meth c H locs cells slots Q ls ad hx hb ho ht hl k => lv_dup_x1 hx hb hd ((kr_cat ad v).trans hv) ((kr_cat ad w).trans hw) (k ls hl))
theorem r_dup2 {v w : Value} (hv : v.category = 1) (hw : w.category = 1) (hd : decode (mC M) pc = .ok (.dup2, 1)) (K : kr_AW M d (pc + 1) lv (v :: w :: v :: w :: st) S r) : kr_AW M d pc lv (v :: w :: st) S r :=
  kr_go K (fun n h => kr_va_cons (kr_va_hd h) (kr_va_cons (kr_va_hd (kr_va_tl h)) h)) (fun p l e R s m args below meth c H locs cells slots Q ls ad hx hb ho ht hl k => lv_dup2_11 hx hb hd ((kr_cat ad v).trans hv) ((kr_cat ad w).trans hw) (k ls hl))
theorem r_null  (hd : decode (mC M) pc = .ok (.aconst_null, 1)) (K : kr_AW M d (pc + 1) lv (va_rf none :: st) S r) : kr_AW M d pc lv (st) S r :=
  kr_go K (fun n h => kr_va_cons trivial h) (fun p l e R s m args below meth c H locs cells slots Q ls ad hx hb ho ht hl k => lv_null hx hb hd (k ls hl))
theorem r_goto {off : Int} {tgt : Nat} (hd : decode (mC M) pc = .ok (.goto off, 3)) (ht : (pc : Int) + off = (tgt : Int)) (K : kr_AW M d tgt lv st S r) : kr_AW M d pc lv st S r :=
  kr_go K (fun n h => h) (fun p l e R s m args below meth c H locs cells slots Q ls ad hx hb ho hts hl k => lv_goto hx hb hd ht (k ls hl))
theorem r_if_eq {x : Int32} {off : Int} {tgt : Nat} (hd : decode (mC M) pc = .ok (.ifCond .eq off, 3)) (ht : (pc : Int) + off = (tgt : Int)) (K1 : x = 0 → kr_AW M d tgt lv st S r) (K2 : ¬ (x = 0) → kr_AW M d (pc + 3) lv st S r) : kr_AW M d pc lv (.int x :: st) S r :=
  kr_go2 K1 K2 (fun n h => kr_va_tl h) (fun p l e R s m args below meth c H locs cells slots Q ls ad hx hb k1 k2 => lv_if_eq hx hb hd ht k1 k2)
theorem r_icmp_eq {x y : Int32} {off : Int} {tgt : Nat} (hd : decode (mC M) pc = .ok (.if_icmp .eq off, 3)) (ht : (pc : Int) + off = (tgt : Int)) (K1 : x = y → kr_AW M d tgt lv st S r) (K2 : ¬ (x = y) → kr_AW M d (pc + 3) lv st S r) : kr_AW M d pc lv (.int y :: .int x :: st) S r :=
  kr_go2 K1 K2 (fun n h => kr_va_tl (kr_va_tl h)) (fun p l e R s m args below meth c H locs cells slots Q ls ad hx hb k1 k2 => lv_icmp_eq hx hb hd ht k1 k2)
theorem r_if_ne {x : Int32} {off : Int} {tgt : Nat} (hd : decode (mC M) pc = .ok (.ifCond .ne off, 3)) (ht : (pc : Int) + off = (tgt : Int)) (K1 : x = 0 → kr_AW M d (pc + 3) lv st S r) (K2 : ¬ x = 0 → kr_AW M d tgt lv st S r) : kr_AW M d pc lv (.int x :: st) S r :=
  kr_go2 K1 K2 (fun n h => kr_va_tl h) (fun p l e R s m args below meth c H locs cells slots Q ls ad hx hb k1 k2 => lv_if_ne hx hb hd ht k2 k1)
theorem r_icmp_ne {x y : Int32} {off : Int} {tgt : Nat} (hd : decode (mC M) pc = .ok (.if_icmp .ne off, 3)) (ht : (pc : Int) + off = (tgt : Int)) (K1 : x = y → kr_AW M d (pc + 3) lv st S r) (K2 : ¬ x = y → kr_AW M d tgt lv st S r) : kr_AW M d pc lv (.int y :: .int x :: st) S r :=
  kr_go2 K1 K2 (fun n h => kr_va_tl (kr_va_tl h)) (fun p l e R s m args below meth c H locs cells slots Q ls ad hx hb k1 k2 => lv_icmp_ne hx hb hd ht k2 k1)
theorem r_if_lt {x : Int32} {off : Int} {tgt : Nat} (hd : decode (mC M) pc = .ok (.ifCond .lt off, 3)) (ht : (pc : Int) + off = (tgt : Int)) (K1 : x < 0 → kr_AW M d tgt lv st S r) (K2 : ¬ (x < 0) → kr_AW M d (pc + 3) lv st S r) : kr_AW M d pc lv (.int x :: st) S r :=
  kr_go2 K1 K2 (fun n h => kr_va_tl h) (fun p l e R s m args below meth c H locs cells slots Q ls ad hx hb k1 k2 => lv_if_lt hx hb hd ht k1 k2)
theorem r_icmp_lt {x y : Int32} {off : Int} {tgt : Nat} (hd : decode (mC M) pc = .ok (.if_icmp .lt off, 3)) (ht : (pc : Int) + off = (tgt : Int)) (K1 : x < y → kr_AW M d tgt lv st S r) (K2 : ¬ (x < y) → kr_AW M d (pc + 3) lv st S r) : kr_AW M d pc lv (.int y :: .int x :: st) S r :=
  kr_go2 K1 K2 (fun n h => kr_va_tl (kr_va_tl h)) (fun p l e R s m args below meth c H locs cells slots Q ls ad hx hb k1 k2 => lv_icmp_lt hx hb hd ht k1 k2)
theorem r_if_ge {x : Int32} {off : Int} {tgt : Nat} (hd : decode (mC M) pc = .ok (.ifCond .ge off, 3)) (ht : (pc : Int) + off = (tgt : Int)) (K1 : 0 ≤ x → kr_AW M d tgt lv st S r) (K2 : ¬ (0 ≤ x) → kr_AW M d (pc + 3) lv st S r) : kr_AW M d pc lv (.int x :: st) S r :=
  kr_go2 K1 K2 (fun n h => kr_va_tl h) (fun p l e R s m args below meth c H locs cells slots Q ls ad hx hb k1 k2 => lv_if_ge hx hb hd ht k1 k2)
theorem r_icmp_ge {x y : Int32} {off : Int} {tgt : Nat} (hd : decode (mC M) pc = .ok (.if_icmp .ge off, 3)) (ht : (pc : Int) + off = (tgt : Int)) (K1 : y ≤ x → kr_AW M d tgt lv st S r) (K2 : ¬ (y ≤ x) → kr_AW M d (pc + 3) lv st S r) : kr_AW M d pc lv (.int y :: .int x :: st) S r :=
  kr_go2 K1 K2 (fun n h => kr_va_tl (kr_va_tl h)) (fun p l e R s m args below meth c H locs cells slots Q ls ad hx hb k1 k2 => lv_icmp_ge hx hb hd ht k1 k2)
theorem r_if_gt {x : Int32} {off : Int} {tgt : Nat} (hd : decode (mC M) pc = .ok (.ifCond .gt off, 3)) (ht : (pc : Int) + off = (tgt : Int)) (K1 : 0 < x → kr_AW M d tgt lv st S r) (K2 : ¬ (0 < x) → kr_AW M d (pc + 3) lv st S r) : kr_AW M d pc lv (.int x :: st) S r :=
  kr_go2 K1 K2 (fun n h => kr_va_tl h) (fun p l e R s m args below meth c H locs cells slots Q ls ad hx hb k1 k2 => lv_if_gt hx hb hd ht k1 k2)
theorem r_icmp_gt {x y : Int32} {off : Int} {tgt : Nat} (hd : decode (mC M) pc = .ok (.if_icmp .gt off, 3)) (ht : (pc : Int) + off = (tgt : Int)) (K1 : y < x → kr_AW M d tgt lv st S r) (K2 : ¬ (y < x) → kr_AW M d (pc + 3) lv st S r) : kr_AW M d pc lv (.int y :: .int x :: st) S r :=
  kr_go2 K1 K2 (fun n h => kr_va_tl (kr_va_tl h)) (fun p l e R s m args below meth c H locs cells slots Q ls ad hx hb k1 k2 => lv_icmp_gt hx hb hd ht k1 k2)
theorem r_if_le {x : Int32} {off : Int} {tgt : Nat} (hd : decode (mC M) pc = .ok (.ifCond .le off, 3)) (ht : (pc : Int) + off = (tgt : Int)) (K1 : x ≤ 0 → kr_AW M d tgt lv st S r) (K2 : ¬ (x ≤ 0) → kr_AW M d (pc + 3) lv st S r) : kr_AW M d pc lv (.int x :: st) S r :=
  kr_go2 K1 K2 (fun n h => kr_va_tl h) (fun p l e R s m args below meth c H locs cells slots Q ls ad hx hb k1 k2 => lv_if_le hx hb hd ht k1 k2)
theorem r_icmp_le {x y : Int32} {off : Int} {tgt : Nat} (hd : decode (mC M) pc = .ok (.if_icmp .le off, 3)) (ht : (pc : Int) + off = (tgt : Int)) (K1 : x ≤ y → kr_AW M d tgt lv st S r) (K2 : ¬ (x ≤ y) → kr_AW M d (pc + 3) lv st S r) : kr_AW M d pc lv (.int y :: .int x :: st) S r :=
  kr_go2 K1 K2 (fun n h => kr_va_tl (kr_va_tl h)) (fun p l e R s m args below meth c H locs cells slots Q ls ad hx hb k1 k2 => lv_icmp_le hx hb hd ht k1 k2)
theorem r_ifnull {x : Option Nat} {off : Int} {tgt : Nat} (hd : decode (mC M) pc = .ok (.ifnull off, 3)) (ht : (pc : Int) + off = (tgt : Int)) (K1 : x = none → kr_AW M d tgt lv st S r) (K2 : ¬ x = none → kr_AW M d (pc + 3) lv st S r) : kr_AW M d pc lv (va_rf x :: st) S r := by
  refine kr_go2 K1 K2 (fun n h => kr_va_tl h) (fun p l e R s m args below meth c H locs cells slots Q ls ad hx hb k1 k2 => ?_)
  cases x with
  | none => exact lv_ifnullN hx hb hd ht (k1 rfl)
  | some a => exact lv_ifnull hx hb hd (k2 (fun z => by cases z))
theorem r_ifnonnull {x : Option Nat} {off : Int} {tgt : Nat} (hd : decode (mC M) pc = .ok (.ifnonnull off, 3)) (ht : (pc : Int) + off = (tgt : Int)) (K1 : x = none → kr_AW M d (pc + 3) lv st S r) (K2 : ¬ x = none → kr_AW M d tgt lv st S r) : kr_AW M d pc lv (va_rf x :: st) S r := by
  refine kr_go2 K1 K2 (fun n h => kr_va_tl h) (fun p l e R s m args below meth c H locs cells slots Q ls ad hx hb k1 k2 => ?_)
  cases x with
  | none => exact lv_ifnonnullN hx hb hd (k1 rfl)
  | some a => exact lv_ifnonnull hx hb hd ht (k2 (fun z => by cases z))
theorem r_tableIn {dflt lo hi : Int} {offs : Array Int} {len : Nat} {x : Int32} {off : Int} {tgt : Nat} (hd : decode (mC M) pc = .ok (.tableswitch dflt lo hi offs, len)) (h1 : ¬ x.toInt < lo) (h2 : ¬ hi < x.toInt) (ho : offs[(x.toInt - lo).toNat]? = some off) (ht : (pc : Int) + off = (tgt : Int)) (K : kr_AW M d tgt lv st S r) : kr_AW M d pc lv (.int x :: st) S r :=
  kr_go K (fun n h => kr_va_tl h) (fun p l e R s m args below meth c H locs cells slots Q ls ad hx hb _ hts hl k => lv_tableIn hx hb hd h1 h2 ho ht (k ls hl))
theorem r_tableOut {dflt lo hi : Int} {offs : Array Int} {len : Nat} {x : Int32} {tgt : Nat} (hd : decode (mC M) pc = .ok (.tableswitch dflt lo hi offs, len)) (h : x.toInt < lo ∨ hi < x.toInt) (ht : (pc : Int) + dflt = (tgt : Int)) (K : kr_AW M d tgt lv st S r) : kr_AW M d pc lv (.int x :: st) S r :=
  kr_go K (fun n h => kr_va_tl h) (fun p l e R s m args below meth c H locs cells slots Q ls ad hx hb _ hts hl k => lv_tableOut hx hb hd h ht (k ls hl))
end KR
