/-- a receiver of a kind -/
def kr_rv (S : AS) (κ : Nat) (x : Option Nat) : Option Unit := x.bind fun k => if sK S k = κ then some () else none
section KR
variable {M : MM} {d pc : Nat} {lv : List (Nat × Value)} {st : List Value} {S : AS} {r : AR}
theorem kr_callB {M1 : MM} {d1 n i : Nat} {R : Room} {s : State} {args : Array Value} {a b : Nat} (hm : kr_mok M1 n) (hH : mH M1 = []) (hd : d1 + 1 ≤ d) (ht : ∀ w ∈ kr_TB, w.before args s = true) (hl : Cond.methodLink (mO M) i (mY M1) ∈ kr_TB) (hR : R.frames = d) (hR2 : R.locals = 31 * d + 192) : CallB R s args (mO M) i (mY M1) (mC M1) (mL M1) (mR M1) (kr_cw M1 :: kr_TB) (kr_room d1 a b) a b n := by
  obtain ⟨h1, h2, ⟨h3, h4, h5⟩, h6⟩ := hm
  have hcw : kr_cw M1 = .code (mY M1) (mC M1) (mL M1) (mR M1) := by unfold kr_cw; rw [if_pos hH]
  refine ⟨rfl, rfl, by rw [hR]; exact hd, by rw [hR2]; show 8 + (mL M1 + 11) + (31 * d1 + 192) ≤ _; omega, kr_pay ht h2, by rw [hcw]; exact List.mem_cons_self, by rw [← hcw]; exact ht _ h2, ht _ h1, ⟨h3, h4⟩, fun sig h => ?_, ht _ hl⟩
  have h9 : (parseMethodDescriptor (mD M1)).map (fun q => q.parameters.length) = some n := h5
  rw [show parseMethodDescriptor (mD M1) = some sig from h] at h9
  exact (Option.some.inj h9).symm
theorem kr_callN {M1 : MM} {d1 n i : Nat} {host : String} {R : Room} {s : State} {args : Array Value} {a b : Nat} (hm : kr_mok M1 n) (hH : mH M1 = []) (hd : d1 + 1 ≤ d) (ht : ∀ w ∈ kr_TB, w.before args s = true) (hl : (Cond.methodLinkNest (mO M) i (mY M1) host).before args s = true) (hR : R.frames = d) (hR2 : R.locals = 31 * d + 192) : va_CN R s args (mO M) i (mY M1) host (mC M1) (mL M1) (mR M1) (kr_cw M1 :: kr_TB) (kr_room d1 a b) a b n := by
  obtain ⟨h1, h2, ⟨h3, h4, h5⟩, h6⟩ := hm
  have hcw : kr_cw M1 = .code (mY M1) (mC M1) (mL M1) (mR M1) := by unfold kr_cw; rw [if_pos hH]
  refine ⟨⟨rfl, rfl, by rw [hR]; exact hd, by rw [hR2]; show 8 + (mL M1 + 11) + (31 * d1 + 192) ≤ _; omega, kr_pay ht h2, by rw [hcw]; exact List.mem_cons_self⟩, by rw [← hcw]; exact ht _ h2, ht _ h1, ⟨h3, h4⟩, fun sig h => ?_, hl⟩
  have h9 : (parseMethodDescriptor (mD M1)).map (fun q => q.parameters.length) = some n := h5
  rw [show parseMethodDescriptor (mD M1) = some sig from h] at h9
  exact (Option.some.inj h9).symm
/-- invokevirtual of a method of the receiver's own class -/
theorem r_callV {M1 : MM} {d1 κ i : Nat} {x : Option Nat} {As : List Value} {r1 : AR} (hx : kr_rv S κ x = some ()) (hc : kr_Con M1 d1 (va_rf x :: As) S r1) (hm : kr_mok M1 As.length) (hH : mH M1 = []) (hκ : 10 ≤ κ ∧ κ < 10 + kr_nC) (hC : kr_cC (κ - 10) = mO M1) (hl : Cond.methodLink (mO M) i (mY M1) ∈ kr_TB) (hin : Cond.instanceMethod (mY M1) ∈ kr_TB) (hse : Cond.selects (mO M1) (mY M1) (mY M1) ∈ kr_TB) (hdd : d1 + 1 ≤ d) (hrest : (st.map fun v => v.category).sum ≤ 8)
    (hd : decode (mC M) pc = .ok (.invokevirtual i, 3)) (Kr : ∀ v, r1.1 = .inl v → kr_AW M d (pc + 3) lv (v.toList ++ st) r1.2 r) (Kx : ∀ E, r1.1 = .inr E → kr_XW M d pc lv st r1.2 r E) : kr_AW M d pc lv (As.reverse ++ va_rf x :: st) S r := by
  cases x with
  | none => cases hx
  | some a =>
    have ha : sK S a = κ := by
      simp only [kr_rv, Option.bind_some] at hx
      split at hx
      · next hq => exact hq
      · cases hx
    refine kr_call (As := va_rf (some a) :: As) hc (fun n h => kr_va_app (As := va_rf (some a) :: As) (st := st) (by rw [List.reverse_cons, List.append_assoc]; exact h)) Kr Kx (fun g p l e R s m args below meth c H locs cells slots ls ad C hW hS hls hva hR hR2 hMet hPc hf => ?_)
    obtain ⟨hx2, hb, hml, hrt, ho, ht, hlocks, hst, htab, hnm, hB⟩ := C
    exact vx_runV (C := mO M1) (As := As.map (cv ad)) (b := ad a) ⟨hx2, hb, hml, ho, ht⟩ hMet ⟨kr_callB hm hH hdd ht hl hR hR2, ht _ hin, ht _ hse⟩ ⟨kr_Pc_blind, hC ▸ kr_rcv hB hW ha hκ, hPc⟩ rfl (by rw [List.length_map]) hls.1 (kr_maprev ad As (va_rf (some a) :: st)) (kr_room2 ad hrest) hd hf
/-- invokestatic -/
theorem r_callS {M1 : MM} {d1 i : Nat} {As : List Value} {r1 : AR} (hc : kr_Con M1 d1 As S r1) (hm : kr_mok M1 As.length) (hH : mH M1 = []) (hl : Cond.methodLink (mO M) i (mY M1) ∈ kr_TB) (hst : Cond.static (mY M1) ∈ kr_TB) (hdd : d1 + 1 ≤ d) (hrest : (st.map fun v => v.category).sum ≤ 8)
    (hd : decode (mC M) pc = .ok (.invokestatic i, 3)) (Kr : ∀ v, r1.1 = .inl v → kr_AW M d (pc + 3) lv (v.toList ++ st) r1.2 r) (Kx : ∀ E, r1.1 = .inr E → kr_XW M d pc lv st r1.2 r E) : kr_AW M d pc lv (As.reverse ++ st) S r := by
  refine kr_call hc (fun n h => kr_va_app h) Kr Kx (fun g p l e R s m args below meth c H locs cells slots ls ad C hW hS hls hva hR hR2 hMet hPc hf => ?_)
  obtain ⟨hx2, hb, hml, hrt, ho, ht, hlocks, hstt, htab, hnm, hB⟩ := C
  exact vx_runS (As := As.map (cv ad)) ⟨hx2, hb, hml, ho, ht⟩ hMet ⟨kr_callB hm hH hdd ht hl hR hR2, ht _ hst⟩ ⟨kr_Pc_blind, hPc⟩ rfl (by rw [List.length_map]) hls.1 (kr_maprev ad As st) (kr_room2 ad hrest) hd hf
/-- invokestatic of a nest mate's private method -/
theorem r_callSN {M1 : MM} {d1 i : Nat} {host : String} {As : List Value} {r1 : AR} (hc : kr_Con M1 d1 As S r1) (hm : kr_mok M1 As.length) (hH : mH M1 = []) (hl : Cond.methodLinkNest (mO M) i (mY M1) host ∈ kr_NB) (hst : Cond.static (mY M1) ∈ kr_TB) (hdd : d1 + 1 ≤ d) (hrest : (st.map fun v => v.category).sum ≤ 8)
    (hd : decode (mC M) pc = .ok (.invokestatic i, 3)) (Kr : ∀ v, r1.1 = .inl v → kr_AW M d (pc + 3) lv (v.toList ++ st) r1.2 r) (Kx : ∀ E, r1.1 = .inr E → kr_XW M d pc lv st r1.2 r E) : kr_AW M d pc lv (As.reverse ++ st) S r := by
  refine kr_call hc (fun n h => kr_va_app h) Kr Kx (fun g p l e R s m args below meth c H locs cells slots ls ad C hW hS hls hva hR hR2 hMet hPc hf => ?_)
  obtain ⟨hx2, hb, hml, hrt, ho, ht, hlocks, hstt, htab, hnm, hB⟩ := C
  exact vx_runSN (As := As.map (cv ad)) ⟨hx2, hb, hml, ho, ht⟩ hMet ⟨kr_callN hm hH hdd ht (va_Nw.use rfl (hB.2.2.1 _ hl)) hR hR2, ht _ hst, trivial⟩ ⟨kr_Pc_blind, hPc⟩ rfl (by rw [List.length_map]) hls.1 (kr_maprev ad As st) (kr_room2 ad hrest) hd hf
/-- invokestatic of a method with handlers -/
theorem r_callSX {M1 : MM} {d1 i : Nat} {As : List Value} {r1 : AR} (hc : kr_Con M1 d1 As S r1) (hm : kr_mok M1 As.length) (hH : mH M1 ≠ []) (hl : Cond.methodLink (mO M) i (mY M1) ∈ kr_TB) (hst : Cond.static (mY M1) ∈ kr_TB) (hdd : d1 + 1 ≤ d) (hrest : (st.map fun v => v.category).sum ≤ 8)
    (hd : decode (mC M) pc = .ok (.invokestatic i, 3)) (Kr : ∀ v, r1.1 = .inl v → kr_AW M d (pc + 3) lv (v.toList ++ st) r1.2 r) (Kx : ∀ E, r1.1 = .inr E → kr_XW M d pc lv st r1.2 r E) : kr_AW M d pc lv (As.reverse ++ st) S r := by
  refine kr_call hc (fun n h => kr_va_app h) Kr Kx (fun g p l e R s m args below meth c H locs cells slots ls ad C hW hS hls hva hR hR2 hMet hPc hf => ?_)
  obtain ⟨hx2, hb, hml, hrt, ho, ht, hlocks, hstt, htab, hnm, hB⟩ := C
  obtain ⟨h1, h2, ⟨h3, h4, h5⟩, h6⟩ := hm
  have hcw : kr_cw M1 = .codeWith (mY M1) (mC M1) (mL M1) (mR M1) (mH M1) := by unfold kr_cw; rw [if_neg hH]
  refine vx_runSX (As := As.map (cv ad)) (hh := mH M1) (bytes := mC M1) (maxL := mL M1) (ret := mR M1) ⟨hx2, hb, hml, ho, ht⟩ hMet ⟨⟨rfl, rfl, by rw [hR]; exact hdd, by rw [hR2]; show 8 + (mL M1 + 11) + (31 * d1 + 192) ≤ _; omega, kr_pay ht h2, by rw [hcw]; exact List.mem_cons_self⟩, by rw [← hcw]; exact ht _ h2, ht _ h1, ⟨h3, h4⟩, fun sig h => ?_, ht _ hl, ht _ hst⟩ ⟨kr_Pc_blind, hPc⟩ rfl (by rw [List.length_map]) hls.1 (kr_maprev ad As st) (kr_room2 ad hrest) hd hf
  have h9 : (parseMethodDescriptor (mD M1)).map (fun q => q.parameters.length) = some As.length := h5
  rw [show parseMethodDescriptor (mD M1) = some sig from h] at h9
  exact (Option.some.inj h9).symm
/-- invokespecial of a constructor: the object's place k -/
theorem r_callI {M1 : MM} {d1 i k : Nat} {As : List Value} {r1 : AR} (hc : kr_Con M1 d1 (va_rf (some k) :: As) S r1) (hm : kr_mok M1 As.length) (hH : mH M1 = []) (hN : mN M1 = "<init>") (hrN : mR M1 = none) (hl : Cond.methodLink (mO M) i (mY M1) ∈ kr_TB) (hin : Cond.instanceMethod (mY M1) ∈ kr_TB) (hdd : d1 + 1 ≤ d) (hrest : (st.map fun v => v.category).sum ≤ 8)
    (hd : decode (mC M) pc = .ok (.invokespecial i, 3)) (Kr : ∀ v, r1.1 = .inl v → kr_AW M d (pc + 3) lv (v.toList ++ st) r1.2 r) (Kx : ∀ E, r1.1 = .inr E → kr_XW M d pc lv st r1.2 r E) : kr_AW M d pc lv (As.reverse ++ va_rf (some k) :: st) S r := by
  refine kr_call (As := va_rf (some k) :: As) hc (fun n h => kr_va_app (As := va_rf (some k) :: As) (st := st) (by rw [List.reverse_cons, List.append_assoc]; exact h)) Kr Kx (fun g p l e R s m args below meth c H locs cells slots ls ad C hW hS hls hva hR hR2 hMet hPc hf => ?_)
  obtain ⟨hx2, hb, hml, hrt, ho, ht, hlocks, hst, htab, hnm, hB⟩ := C
  exact vx_runI (As := As.map (cv ad)) (b := ad k) ⟨hx2, hb, hml, ho, ht⟩ hMet ⟨hrN ▸ kr_callB hm hH hdd ht hl hR hR2, hN, ht _ hin⟩ ⟨kr_Pc_blind, hPc⟩ rfl (by rw [List.length_map]) hls.1 (kr_maprev ad As (va_rf (some k) :: st)) (kr_room2 ad hrest) hd hf
theorem r_callIN {M1 : MM} {d1 i k : Nat} {host : String} {As : List Value} {r1 : AR} (hc : kr_Con M1 d1 (va_rf (some k) :: As) S r1) (hm : kr_mok M1 As.length) (hH : mH M1 = []) (hN : mN M1 = "<init>") (hrN : mR M1 = none) (hl : Cond.methodLinkNest (mO M) i (mY M1) host ∈ kr_NB) (hin : Cond.instanceMethod (mY M1) ∈ kr_TB) (hdd : d1 + 1 ≤ d) (hrest : (st.map fun v => v.category).sum ≤ 8)
    (hd : decode (mC M) pc = .ok (.invokespecial i, 3)) (Kr : ∀ v, r1.1 = .inl v → kr_AW M d (pc + 3) lv (v.toList ++ st) r1.2 r) (Kx : ∀ E, r1.1 = .inr E → kr_XW M d pc lv st r1.2 r E) : kr_AW M d pc lv (As.reverse ++ va_rf (some k) :: st) S r := by
  refine kr_call (As := va_rf (some k) :: As) hc (fun n h => kr_va_app (As := va_rf (some k) :: As) (st := st) (by rw [List.reverse_cons, List.append_assoc]; exact h)) Kr Kx (fun g p l e R s m args below meth c H locs cells slots ls ad C hW hS hls hva hR hR2 hMet hPc hf => ?_)
  obtain ⟨hx2, hb, hml, hrt, ho, ht, hlocks, hst, htab, hnm, hB⟩ := C
  exact vx_runIN (As := As.map (cv ad)) (b := ad k) ⟨hx2, hb, hml, ho, ht⟩ hMet ⟨hrN ▸ kr_callN hm hH hdd ht (va_Nw.use rfl (hB.2.2.1 _ hl)) hR hR2, hN, ht _ hin⟩ ⟨kr_Pc_blind, hPc⟩ rfl (by rw [List.length_map]) hls.1 (kr_maprev ad As (va_rf (some k) :: st)) (kr_room2 ad hrest) hd hf
/-- Object's constructor -/
theorem r_objInit {i : Nat} {k : Nat} (hl : Cond.methodLink (mO M) i objectInit ∈ kr_TB) (hin : Cond.instanceMethod objectInit ∈ kr_TB) (hcd : Cond.code objectInit ⟨#[0xb1]⟩ 1 none ∈ kr_TB) (hdd : 1 ≤ d) (hrest : (st.map fun v => v.category).sum ≤ 8) (hd : decode (mC M) pc = .ok (.invokespecial i, 3)) (K : kr_AW M d (pc + 3) lv st S r) : kr_AW M d pc lv (va_rf (some k) :: st) S r := by
  refine ⟨K.1, ?_⟩
  intro g p l e s m args below meth c ad0 n0 c0 s0 mc ms C ad H locs ls cells slots A
  obtain ⟨a1, a2, a3, a4, a5, a6, a7, a8, a9, a10⟩ := A
  have C' := C
  obtain ⟨hx2, hb, hml, hrt, ho, ht, hlocks, hst, htab, hnm, hB⟩ := C
  refine W.objInit (a := ad k) (rest := st.map (cv ad)) hx2 hb ho (ht _ hl) (ht _ hin) (ht _ hcd) rfl (a9.1.trans hml.symm) rfl hd hdd ?_ (K.2 g p l e s m args below meth c ad0 n0 c0 s0 mc ms C' ad H locs ls cells slots ⟨a1, a2, a3, a4, a5, a6, a7, a8, a9, kr_va_tl a10⟩)
  have := kr_room2 (m := m) (ls := ls) (pc := pc) (st0 := (va_rf (some k) :: st).map (cv ad)) ad hrest
  show _ ≤ 31 * d + 192
  omega
/-! ===== ends ===== -/
theorem kr_end {rv : Option Value} {st : List Value} (hv : ∀ n, kr_va n lv st → ∀ w, rv = some w → kr_vl n w)
    (f : ∀ (g : GG) (p : Program) (l : Launch) (e : Env) (s : State) (m : MethodId) (args : Array Value) (below : List Frame) (meth : Method) (c : Code) (H : Heap) (locs : List Loc) (mc ms : Nat) (R : Room) (ls : Array Slot) (ad : Nat → Nat) (Qc : Array Value → State → Outcome → State → Prop) (free : Addr → Prop),
      p.tables.exec = Jvm.exec → c.code = mC M → meth.sig.returnType = mR M → meth.locks = false → (∀ t : State, t.heap = H → s.WarmedH t.vm → Qc args s (.returned (rv.map (cv ad))) t) → (∀ q ∈ locs, free q.base) → W p l e R s m args below meth c H locs mc ms (MQ below Qc args s mc ms free) (F0 m pc ls (st.map (cv ad)))) : kr_AW M d pc lv st S (.inl rv, S) := by
  refine ⟨⟨Nat.le_refl _, Nat.le_refl _, Nat.le_refl _⟩, ?_⟩
  intro g p l e s m args below meth c ad0 n0 c0 s0 mc ms C ad H locs ls cells slots A
  obtain ⟨a1, a2, a3, a4, a5, a6, a7, a8, a9, a10⟩ := A
  obtain ⟨hx2, hb, hml, hrt, ho, ht, hlocks, hst, htab, hnm, hB⟩ := C
  have a3' : sC S ≤ c0 + mc := a3
  have a4' : sS S ≤ s0 + ms := a4
  refine W.widen (k := mc) (n := ms) (by omega) (by omega) ?_
  refine vx_ret (f g p l e s m args below meth c H locs mc ms _ ls ad _ _ hx2 hb hrt hlocks (fun t h1 h2 => ⟨⟨rv, ad, rfl, rfl, a6, by rw [h1]; exact a7, fun w hw => hv _ a10 w hw⟩, ?_⟩) a8.2.2)
  exact a8.F h1
theorem r_iret {v : Int32} (hr : mR M = some .int) (hd : decode (mC M) pc = .ok (.ireturn, 1)) : kr_AW M d pc lv [.int v] S (.inl (some (.int v)), S) :=
  kr_end (fun n h w hw => by cases hw; trivial) (fun g p l e s m args below meth c H locs mc ms R ls ad Qc free hx hb hrt hlocks hq hf => W.iret hx hb (hrt.trans hr) hq hf hd hlocks)
theorem r_zret {v : Int32} (hr : mR M = some .boolean) (hz : kr_z v = some ()) (hd : decode (mC M) pc = .ok (.ireturn, 1)) : kr_AW M d pc lv [.int v] S (.inl (some (.int v)), S) := by
  have h2 : v = 0 ∨ v = 1 := by
    unfold kr_z at hz
    split at hz
    · next hq => exact hq
    · cases hz
  exact kr_end (fun n h w hw => by cases hw; trivial) (fun g p l e s m args below meth c H locs mc ms R ls ad Qc free hx hb hrt hlocks hq hf => W.zret hx hb (hrt.trans hr) (by rcases h2 with rfl | rfl <;> rfl) hq hf hd hlocks)
theorem r_vret (hr : mR M = none) (hd : decode (mC M) pc = .ok (.return_, 1)) : kr_AW M d pc lv [] S (.inl none, S) :=
  kr_end (fun n h w hw => by cases hw) (fun g p l e s m args below meth c H locs mc ms R ls ad Qc free hx hb hrt hlocks hq hf => W.vret hx hb (hrt.trans hr) hq hf hd hlocks)
theorem r_aret {x : Option Nat} {t : FieldType} (hr : mR M = some t) (ht : kr_isR t = true) (hd : decode (mC M) pc = .ok (.areturn, 1)) : kr_AW M d pc lv [va_rf x] S (.inl (some (va_rf x)), S) :=
  kr_end (fun n h w hw => by cases hw; exact kr_va_hd h) (fun g p l e s m args below meth c H locs mc ms R ls ad Qc free hx hb hrt hlocks hq hf => W.aret hx hb (hrt.trans hr) (by cases t <;> first | exact Or.inl ⟨_, rfl⟩ | exact Or.inr ⟨_, rfl⟩ | cases ht) (by cases x <;> first | exact Or.inl rfl | exact Or.inr ⟨_, rfl⟩) hq hf hd hlocks)
/-- thrown out of a method without handlers -/
theorem r_out {E : String} (hH : mH M = []) : kr_XW M d pc lv st S (.inr E, S) E := by
  refine ⟨⟨Nat.le_refl _, Nat.le_refl _, Nat.le_refl _⟩, ?_⟩
  intro g p l e s m args below meth c ad0 n0 c0 s0 mc ms C ad H locs ls cells slots q ce A hq hv hcl
  obtain ⟨a1, a2, a3, a4, a5, a6, a7, a8, a9, a10⟩ := A
  obtain ⟨hx2, hb, hml, hrt, ho, ht, hlocks, hst, htab, hnm, hB⟩ := C
  have a3' : sC S ≤ c0 + mc := a3
  have a4' : sS S ≤ s0 + ms := a4
  exact vx_out (E := E) (ce := ce) (fun x hx => by rw [htab, hH] at hx; cases hx) hlocks hq hv hcl (fun t h1 h2 => ⟨⟨ad, rfl, a6, by rw [h1]; exact a7⟩, a8.F h1⟩) a8.2.2 (by omega) (by omega)
/-- caught: the handler's entry and its store of the exception -/
def kr_hd (M : MM) (pc : Nat) (E : String) (h : Nat × Nat × Nat × Nat) (pre suf : List (Nat × Nat × Nat × Nat)) (nm : String) : Prop :=
  mH M = pre ++ h :: suf ∧ (∀ z ∈ pre, ∃ n2 : String, z.2.2.2 ≠ 0 ∧ Cond.classLink (mO M) z.2.2.2 n2 ∈ kr_TB ∧ (E, n2) ∈ kr_ncs) ∧ (h.1 ≤ pc ∧ pc < h.2.1) ∧ h.2.2.2 ≠ 0 ∧ Cond.classLink (mO M) h.2.2.2 nm ∈ kr_TB ∧ Cond.castable E nm ∈ kr_NB
end KR
