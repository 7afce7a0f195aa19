/-! ===== p54: longs; the law's helper that reads the script; methods with many locals; the ghost behind a call ===== -/
section KR
variable {M : MM} {d pc : Nat} {lv : List (Nat × Value)} {st : List Value} {S : AS} {r : AR}
theorem r_ldc2 {i : Nat} {v : Int64} (hw : Cond.constantLong (mO M) i v ∈ kr_TB) (hd : decode (mC M) pc = .ok (.ldc2_w i, 3)) (K : kr_AW M d (pc + 3) lv (.long v :: st) S r) : kr_AW M d pc lv (st) S r :=
  kr_go K (fun n h => kr_va_cons trivial h) (fun p l e R s m args below meth c H locs cells slots Q ls ad hx hb ho ht hl k => lv_ldc2 hx hb ho (ht _ hw) hd (k ls hl))
theorem r_lmul {x y : Int64} (hd : decode (mC M) pc = .ok (.lmul, 1)) (K : kr_AW M d (pc + 1) lv (.long (x * y) :: st) S r) : kr_AW M d pc lv (.long y :: .long x :: st) S r :=
  kr_go K (fun n h => kr_va_cons trivial (kr_va_tl (kr_va_tl h))) (fun p l e R s m args below meth c H locs cells slots Q ls ad hx hb ho ht hl k => lv_lmul hx hb hd (k ls hl))
theorem r_lushr {x : Int64} {y : Int32} (hd : decode (mC M) pc = .ok (.lushr, 1)) (K : kr_AW M d (pc + 1) lv (.long (x.toUInt64 >>> (y.toInt64.toUInt64 &&& Int64.toUInt64 63)).toInt64 :: st) S r) : kr_AW M d pc lv (.int y :: .long x :: st) S r :=
  kr_go K (fun n h => kr_va_cons trivial (kr_va_tl (kr_va_tl h))) (fun p l e R s m args below meth c H locs cells slots Q ls ad hx hb ho ht hl k => lv_lushr hx hb hd rfl (k ls hl))
theorem r_l2i {x : Int64} (hd : decode (mC M) pc = .ok (.l2i, 1)) (K : kr_AW M d (pc + 1) lv (.int x.toInt32 :: st) S r) : kr_AW M d pc lv (.long x :: st) S r :=
  kr_go K (fun n h => kr_va_cons trivial (kr_va_tl h)) (fun p l e R s m args below meth c H locs cells slots Q ls ad hx hb ho ht hl k => lv_l2i hx hb hd rfl (k ls hl))
end KR
/-- the contract of a method that reads the script -/
def kr_ConX (X : Nat → Int32) (L : Nat) (M : MM) (d : Nat) (args : List Value) (S : AS) (r : AR) : Prop :=
  (sC S ≤ sC r.2 ∧ sS S ≤ sS r.2 ∧ sN S ≤ sN r.2) ∧ ∀ (l : Launch) (g : GG) (ad : Nat → Nat), gX g = X → gL g = L → l.stackTraces = false → kr_va (sN S) [] args →
    vx_Met l (mY M) (kr_cw M :: kr_TB) (kr_room d (sC r.2 - sC S) (sS r.2 - sS S)) (kr_Pc g ad args S) (kr_Q g ad (sN S) r) (kr_XC g ad (sN S) r) (sC r.2 - sC S) (sS r.2 - sS S) (kr_fr g)
theorem kr_conX {X : Nat → Int32} {L : Nat} {M : MM} {d : Nat} {args : List Value} {S : AS} {r : AR} (hMX : mX M = some (X, L)) (hH : mH M = []) (hy : plainName (mO M) = true) (hn : (lg_sl args).length ≤ mL M) (K : kr_AW M d 0 (lv_args 0 args) [] S r) : kr_ConX X L M d args S r := by
  refine ⟨K.1, ?_⟩
  intro l g ad gx gl hl hva
  have hcw : kr_cw M = .code (mY M) (mC M) (mL M) (mR M) := by unfold kr_cw; rw [if_pos hH]
  refine vx_ofW (y := mY M) (cc := mC M) (maxL := mL M) (ret := mR M) hy (by rw [hcw]) ?_
  intro p e s m a below meth c s₁ B hml hexc hPc
  obtain ⟨rfl, hB, hW⟩ := hPc
  have hts : ∀ w ∈ kr_TB, w.before (args.map (cv ad)).toArray s = true := fun w hw => atoms_spec (ws := kr_cw M :: kr_TB) B.pre w (List.mem_cons_of_mem _ hw)
  have hown : s.vm.findClass (mO M) = some m.cls := findClass_of_methodNamed B.named
  have hnm : meth.name = mN M := (name_of_methodNamed B.named B.method).1
  have htab : c.exceptionTable.toList = tableOf (mH M) := by
    rw [hH]
    cases h : c.exceptionTable.toList with
    | nil => rfl
    | cons x xs => exact (hexc x (by rw [h]; exact List.mem_cons_self)).elim
  have hle := lv_entry (args.map (cv ad)) (n := mL M) (by rw [kr_sl_len]; exact hn)
  rw [lg_entry_eq]
  have k1 := K.1
  exact K.2 g p l e s m _ below meth c ad (sN S) (sC S) (sS S) _ _ ⟨B.exec, B.bytes, hml, B.returns, hown, hts, B.notSynchronized, hl, htab, ⟨hnm, fun X' L' h => by
      rw [hMX] at h
      cases h
      exact ⟨gx, gl⟩⟩, hB⟩ ad s.heap [] _ 0 0
    ⟨rfl, rfl, by omega, by omega, Nat.le_refl _, kr_ext_rf, hW, va_S.rf, by rw [← kr_args_map]; exact hle, kr_args_va hva 0⟩
theorem W_mono {p : Program} {l : Launch} {e : Env} {R : Room} {s : State} {m : MethodId} {args : Array Value} {below : List Frame} {meth : Method} {c : Code} {H : Heap} {locs : List Loc} {cells slots : Nat} {Q Q' : State → Prop} {g : JFrame} (h : ∀ t, Q t → Q' t) (k : W p l e R s m args below meth c H locs cells slots Q g) : W p l e R s m args below meth c H locs cells slots Q' g := by
  intro T hT X
  obtain ⟨t, a, b⟩ := k T hT X
  exact ⟨t, a, h t b⟩
/-- at the end of a method, places that are no cells of the run may change -/
theorem kr_AWg {M : MM} {d pc : Nat} {lv : List (Nat × Value)} {st : List Value} {S S1 S2 : AS} {v : Int32} (K : kr_AW M d pc lv st S (kr_eI (v, S1))) (hg : gs S1 S2) : kr_AW M d pc lv st S (kr_eI (v, S2)) := by
  obtain ⟨e1, e2, e3, e4⟩ := hg
  obtain ⟨⟨a1, a2, a3⟩, K⟩ := K
  have a1 : sC S ≤ sC S1 := a1
  have a2 : sS S ≤ sS S1 := a2
  have a3 : sN S ≤ sN S1 := a3
  refine ⟨⟨by show sC S ≤ sC S2; omega, by show sS S ≤ sS S2; omega, by show sN S ≤ sN S2; omega⟩, ?_⟩
  intro g p l e s m args below meth c ad0 n0 c0 s0 mc ms C ad H locs ls cells slots A
  obtain ⟨b1, b2, b3, b4, b5, b6, b7, b8, b9, b10⟩ := A
  have b3 : sC S2 ≤ c0 + mc := b3
  have b4 : sS S2 ≤ s0 + ms := b4
  have k := K g p l e s m args below meth c ad0 n0 c0 s0 mc ms C ad H locs ls cells slots ⟨b1, b2, by show sC S1 ≤ _; omega, by show sS S1 ≤ _; omega, b5, b6, b7, b8, b9, b10⟩
  have q1 : ∀ a u o t, kr_Q g ad0 n0 (kr_eI (v, S1)) a u o t → kr_Q g ad0 n0 (kr_eI (v, S2)) a u o t := by
    rintro a u o t ⟨⟨w, ad', h1, h2, h3, h4, h5⟩, h6⟩
    refine ⟨⟨w, ad', h1, h2, h3, ⟨(e4 g h4.1).2, h4.2.1, ?_, ?_⟩, fun z hz => kr_vl_mono e3 (h5 z hz)⟩, h6⟩
    · show va_P _ _ (kr_ws g ad' S2) _
      rw [(e4 g h4.1).1]
      exact h4.2.2.1
    · show va_D _ (kr_ws g ad' S2)
      rw [(e4 g h4.1).1]
      exact h4.2.2.2
  refine W_mono (fun t => ?_) k
  rintro ⟨o, x1, x2, hq⟩
  refine ⟨o, x1, x2, ?_⟩
  rcases hq with ⟨y1, y2⟩ | ⟨q, y1, E, ce, Lc, ⟨⟨ad', h1, y2⟩, y3⟩, y4⟩
  · exact Or.inl ⟨q1 _ _ _ _ y1, y2⟩
  · cases h1
section KR
variable {M : MM} {d pc : Nat} {lv : List (Nat × Value)} {st : List Value} {S : AS} {r : AR}
/-- what is asked of a method with many locals -/
def kr_mokL (M : MM) (n : Nat) : Prop := Cond.initialized (mO M) ∈ kr_TB ∧ kr_cw M ∈ kr_TB ∧ mO M ≠ "java/lang/invoke/MethodHandle" ∧ mO M ≠ "java/lang/invoke/VarHandle" ∧ (parseMethodDescriptor (mD M)).map (fun q => q.parameters.length) = some n
theorem kr_callL {M1 : MM} {d1 n i : Nat} {R : Room} {s : State} {args : Array Value} {a b : Nat} (hm : kr_mokL M1 n) (hH : mH M1 = []) (hd : d1 + 1 ≤ d ∧ 8 + (mL M1 + 11) + 31 * d1 ≤ 31 * d) (ht : ∀ w ∈ kr_TB, w.before args s = true) (hl : Cond.methodLink (mO M) i (mY M1) ∈ kr_TB) (hR : R.frames = d) (hR2 : R.locals = 31 * d + 192) : CallB R s args (mO M) i (mY M1) (mC M1) (mL M1) (mR M1) (kr_cw M1 :: kr_TB) (kr_room d1 a b) a b n := by
  obtain ⟨h1, h2, h3, h4, h5⟩ := hm
  have hcw : kr_cw M1 = .code (mY M1) (mC M1) (mL M1) (mR M1) := by unfold kr_cw; rw [if_pos hH]
  refine ⟨rfl, rfl, by rw [hR]; exact hd.1, by rw [hR2]; show 8 + (mL M1 + 11) + (31 * d1 + 192) ≤ _; omega, kr_pay ht h2, by rw [hcw]; exact List.mem_cons_self, by rw [← hcw]; exact ht _ h2, ht _ h1, ⟨h3, h4⟩, fun sig h => ?_, ht _ hl⟩
  have h9 : (parseMethodDescriptor (mD M1)).map (fun q => q.parameters.length) = some n := h5
  rw [show parseMethodDescriptor (mD M1) = some sig from h] at h9
  exact (Option.some.inj h9).symm
/-- invokestatic of a method with many locals -/
theorem r_callSL {M1 : MM} {d1 i : Nat} {As : List Value} {r1 : AR} (hc : kr_Con M1 d1 As S r1) (hm : kr_mokL M1 As.length) (hH : mH M1 = []) (hl : Cond.methodLink (mO M) i (mY M1) ∈ kr_TB) (hst : Cond.static (mY M1) ∈ kr_TB) (hdd : d1 + 1 ≤ d ∧ 8 + (mL M1 + 11) + 31 * d1 ≤ 31 * d) (hrest : (st.map fun v => v.category).sum ≤ 8)
    (hd : decode (mC M) pc = .ok (.invokestatic i, 3)) (Kr : ∀ v, r1.1 = .inl v → kr_AW M d (pc + 3) lv (v.toList ++ st) r1.2 r) (Kx : ∀ E, r1.1 = .inr E → kr_XW M d pc lv st r1.2 r E) : kr_AW M d pc lv (As.reverse ++ st) S r := by
  refine kr_call hc (fun n h => kr_va_app h) Kr Kx (fun g p l e R s m args below meth c H locs cells slots ls ad C hW hS hls hva hR hR2 hMet hPc hf => ?_)
  obtain ⟨hx2, hb, hml, hrt, ho, ht, hlocks, hstt, htab, hnm, hB⟩ := C
  exact vx_runS (As := As.map (cv ad)) ⟨hx2, hb, hml, ho, ht⟩ hMet ⟨kr_callL hm hH hdd ht hl hR hR2, ht _ hst⟩ ⟨kr_Pc_blind, hPc⟩ rfl (by rw [List.length_map]) hls.1 (kr_maprev ad As st) (kr_room2 ad hrest) hd hf
/-- the law calls its helper that reads the script -/
theorem r_callSC {X : Nat → Int32} {L : Nat} {M1 : MM} {d1 i : Nat} {As : List Value} {r1 : AR} (hMX : mX M = some (X, L)) (hc : kr_ConX X L M1 d1 As S r1) (hm : kr_mok M1 As.length) (hH : mH M1 = []) (hl : Cond.methodLink (mO M) i (mY M1) ∈ kr_TB) (hst : Cond.static (mY M1) ∈ kr_TB) (hdd : d1 + 1 ≤ d) (hrest : (st.map fun v => v.category).sum ≤ 8)
    (hd : decode (mC M) pc = .ok (.invokestatic i, 3)) (Kr : ∀ v, r1.1 = .inl v → kr_AW M d (pc + 3) lv (v.toList ++ st) r1.2 r) (Kx : ∀ E, r1.1 = .inr E → kr_XW M d pc lv st r1.2 r E) : kr_AW M d pc lv (As.reverse ++ st) S r := by
  have hm1 := hc.1
  have hm2 : sC r1.2 ≤ sC r.2 ∧ sS r1.2 ≤ sS r.2 ∧ sN r1.2 ≤ sN r.2 := by
    cases h : r1.1 with
    | inl v => exact (Kr v h).1
    | inr E => exact (Kx E h).1
  refine ⟨⟨by omega, by omega, by omega⟩, ?_⟩
  intro g p l e s m args below meth c ad0 n0 c0 s0 mc ms C ad H locs ls cells slots A
  obtain ⟨a1, a2, a3, a4, a5, a6, a7, a8, a9, a10⟩ := A
  obtain ⟨v1, v2⟩ := kr_va_app a10
  have C' := C
  obtain ⟨hx2, hb, hml, hrt, ho, ht, hlocks, hstt, htab, hnm, hB⟩ := C'
  obtain ⟨gx, gl⟩ := hnm.2 X L hMX
  have hPc : ∀ U : State, U.heap = H → s.WarmedH U.vm → kr_Pc g ad As S (As.map (cv ad)).toArray U := fun U hU hW => ⟨rfl, by
    refine Bs.moved hW hB ?_ ?_
    · rw [hU]; exact a8.1
    · rw [hU]; exact a8.2.1, by rw [hU]; exact a7⟩
  refine kr_run (vx_runS (As := As.map (cv ad)) ⟨hx2, hb, hml, ho, ht⟩ (hc.2 l g ad gx gl hstt v1) ⟨kr_callB hm hH hdd ht hl rfl rfl, ht _ hst⟩ ⟨kr_Pc_blind, hPc⟩ rfl (by rw [List.length_map]) a9.1 (kr_maprev ad As st) (kr_room2 ad hrest) hd ⟨show cells + _ ≤ mc by omega, show slots + _ ≤ ms by omega⟩) a8 (fun v ad' H1 locs1 h1 hext hWd hvl hS1 => ?_) (fun E ad' H1 locs1 q ce h1 hext hWd hS1 hq hv hcl => ?_)
  · obtain ⟨e1, e2⟩ := kr_lvx hext v2
    have kk := (Kr v h1).2 g p l e s m args below meth c ad0 n0 c0 s0 mc ms C ad' H1 locs1 ls (cells + (sC r1.2 - sC S)) (slots + (sS r1.2 - sS S)) ⟨by omega, by omega, a3, a4, by omega, kr_ext_tr a5 a6 hext, hWd, hS1, by rw [e1]; exact a9, by
      cases v with
      | none => exact kr_va_mono hm1.2.2 v2
      | some w => exact kr_va_cons (hvl w rfl) (kr_va_mono hm1.2.2 v2)⟩
    rw [List.map_append, e2] at kk
    cases v with
    | none => exact kk
    | some w => exact kk
  · obtain ⟨e1, e2⟩ := kr_lvx hext v2
    have kk := (Kx E h1).2 g p l e s m args below meth c ad0 n0 c0 s0 mc ms C ad' H1 locs1 ls (cells + (sC r1.2 - sC S)) (slots + (sS r1.2 - sS S)) q ce ⟨by omega, by omega, a3, a4, by omega, kr_ext_tr a5 a6 hext, hWd, hS1, by rw [e1]; exact a9, kr_va_mono hm1.2.2 v2⟩ hq hv hcl
    rw [e2] at kk
    exact kk
end KR
/-- the state of the reference's run, beside the run's own cells -/
def gmo {α : Type} (S : AS) (x : Option (α × AS)) : AS := match x with
  | some q => gm S q.2
  | none => S
theorem gs_rf (S : AS) : gs S S := ⟨rfl, rfl, Nat.le_refl _, fun _ h => ⟨fun _ => rfl, h⟩⟩
theorem gmo_gs {α : Type} {S : AS} {x : Option (α × AS)} : gs S (gmo S x) := by
  unfold gmo
  split
  · exact gs_gm _ _
  · exact gs_rf _
theorem gs_if {c : Prop} [Decidable c] {S a b : AS} (ha : gs S a) (hb : gs S b) : gs S (if c then a else b) := by
  by_cases h : c
  · rw [if_pos h]; exact ha
  · rw [if_neg h]; exact hb
