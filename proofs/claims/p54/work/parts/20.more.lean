theorem kr_icat (v : Int32) : (Value.int v).category = 1 := rfl
section KR
variable {M : MM} {d pc : Nat} {lv : List (Nat × Value)} {st : List Value} {S : AS} {r : AR}
theorem kr_math {x y z : Int32} (K : kr_AW M d (pc + 3) lv (.int z :: st) S r) (hdd : 1 ≤ d) (hrest : (st.map fun v => v.category).sum ≤ 8)
    (f : ∀ (p : Program) (l : Launch) (e : Env) (R : Room) (s : State) (m : MethodId) (args : Array Value) (below : List Frame) (meth : Method) (c : Code) (H : Heap) (locs : List Loc) (cells slots : Nat) (Q : State → Prop) (ls : Array Slot) (rest : List Value),
      p.tables.exec = Jvm.exec → c.code = mC M → c.maxLocals = ls.size → s.vm.findClass (mO M) = some m.cls → (∀ w ∈ kr_TB, w.before args s = true) → 1 ≤ R.frames → (rest.map fun v => v.category).sum + 13 ≤ R.locals → cells ≤ R.cells → slots ≤ R.slots →
      W p l e R s m args below meth c H locs cells slots Q (F0 m (pc + 3) ls (.int z :: rest)) → W p l e R s m args below meth c H locs cells slots Q (F0 m pc ls (.int y :: .int x :: rest))) : kr_AW M d pc lv (.int y :: .int x :: st) S r := by
  refine ⟨K.1, ?_⟩
  intro g p l e s m args below meth c ad0 n0 c0 s0 mc ms C ad H locs ls cells slots A
  obtain ⟨a1, a2, a3, a4, a5, a6, a7, a8, a9, a10⟩ := A
  have C' := C
  obtain ⟨hx2, hb, hml, hrt, ho, ht, hlocks, hst, htab, hnm, hB⟩ := C
  have hk := K.1
  have h8 : ((st.map (cv ad)).map fun v => v.category).sum ≤ 8 := by rw [kr_catm]; exact hrest
  exact f p l e (kr_room d mc ms) s m args below meth c H locs cells slots _ ls (st.map (cv ad)) hx2 hb (hml.trans a9.1.symm) ho ht hdd (show _ ≤ 31 * d + 192 by omega) (show cells ≤ mc by omega) (show slots ≤ ms by omega) (K.2 g p l e s m args below meth c ad0 n0 c0 s0 mc ms C' ad H locs ls cells slots ⟨a1, a2, a3, a4, a5, a6, a7, a8, a9, kr_va_cons trivial (kr_va_tl (kr_va_tl a10))⟩)
theorem r_mmax {i : Nat} {x y : Int32} (hl : Cond.methodLink (mO M) i ⟨"java/lang/Math", "max", "(II)I"⟩ ∈ kr_TB) (hst : Cond.static ⟨"java/lang/Math", "max", "(II)I"⟩ ∈ kr_TB) (hini : Cond.initialized "java/lang/Math" ∈ kr_TB) (hcd : Cond.code Lib.Math.max.name Lib.Math.max.code 2 (some .int) ∈ kr_TB) (hdd : 1 ≤ d) (hrest : (st.map fun v => v.category).sum ≤ 8) (hd : decode (mC M) pc = .ok (.invokestatic i, 3)) (K : kr_AW M d (pc + 3) lv (.int (if x < y then y else x) :: st) S r) : kr_AW M d pc lv (.int y :: .int x :: st) S r :=
  kr_math K hdd hrest (fun p l e R s m args below meth c H locs cells slots Q ls rest hx hb hml ho ht h1 h2 h3 h4 k => va_mmax hx hb hml ho (ht _ hl) (ht _ hst) (ht _ hini) (ht _ hcd) h1 h2 h3 h4 hd k)
theorem r_mmin {i : Nat} {x y : Int32} (hl : Cond.methodLink (mO M) i ⟨"java/lang/Math", "min", "(II)I"⟩ ∈ kr_TB) (hst : Cond.static ⟨"java/lang/Math", "min", "(II)I"⟩ ∈ kr_TB) (hini : Cond.initialized "java/lang/Math" ∈ kr_TB) (hcd : Cond.code Lib.Math.min.name Lib.Math.min.code 2 (some .int) ∈ kr_TB) (hdd : 1 ≤ d) (hrest : (st.map fun v => v.category).sum ≤ 8) (hd : decode (mC M) pc = .ok (.invokestatic i, 3)) (K : kr_AW M d (pc + 3) lv (.int (if y < x then y else x) :: st) S r) : kr_AW M d pc lv (.int y :: .int x :: st) S r :=
  kr_math K hdd hrest (fun p l e R s m args below meth c H locs cells slots Q ls rest hx hb hml ho ht h1 h2 h3 h4 k => va_mmin hx hb hml ho (ht _ hl) (ht _ hst) (ht _ hini) (ht _ hcd) h1 h2 h3 h4 hd k)
end KR
