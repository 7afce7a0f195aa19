/-! ===== contracts ===== -/
def kr_cw (M : MM) : Cond := if mH M = [] then .code (mY M) (mC M) (mL M) (mR M) else .codeWith (mY M) (mC M) (mL M) (mR M) (mH M)
def kr_Pc (g : GG) (ad : Nat → Nat) (args : List Value) (S : AS) : Array Value → State → Prop := fun v U => v = (args.map (cv ad)).toArray ∧ Bs g U U.heap ∧ Wd g ad S U.heap
/-- M, called with args in the state S, comes to the end r -/
def kr_Con (M : MM) (d : Nat) (args : List Value) (S : AS) (r : AR) : Prop :=
  (sC S ≤ sC r.2 ∧ sS S ≤ sS r.2 ∧ sN S ≤ sN r.2) ∧ ∀ (l : Launch) (g : GG) (ad : Nat → Nat), l.stackTraces = false → kr_va (sN S) [] args →
    vx_Met l (mY M) (kr_cw M :: kr_TB) (kr_room d (sC r.2 - sC S) (sS r.2 - sS S)) (kr_Pc g ad args S) (kr_Q g ad (sN S) r) (kr_XC g ad (sN S) r) (sC r.2 - sC S) (sS r.2 - sS S) (kr_fr g)
theorem kr_Pc_blind {g : GG} {ad : Nat → Nat} {args : List Value} {S : AS} : FrameBlind (kr_Pc g ad args S) := fun a U f mk h => ⟨h.1, Bs.call h.2.1, h.2.2⟩
theorem kr_args_map (ad : Nat → Nat) (vs : List Value) : ∀ i, lv_args i (vs.map (cv ad)) = (lv_args i vs).map (fun q => (q.1, cv ad q.2)) := by
  induction vs with
  | nil => intro i; rfl
  | cons v vs ih =>
    intro i
    simp only [List.map_cons, lv_args, kr_cat, ih]
theorem kr_args_va {n : Nat} {vs : List Value} (h : kr_va n [] vs) : ∀ i, kr_va n (lv_args i vs) [] := by
  induction vs with
  | nil => exact fun i => ⟨fun _ h => (nomatch h), fun _ h => (nomatch h)⟩
  | cons v vs ih =>
    intro i
    refine ⟨fun q hq => ?_, fun _ h => (nomatch h)⟩
    rcases List.mem_cons.mp hq with e | hq
    · rw [e]; exact h.2 v List.mem_cons_self
    · exact (ih ⟨fun _ h => (nomatch h), fun w hw => h.2 w (List.mem_cons_of_mem _ hw)⟩ _).1 q hq
theorem kr_sl_len (ad : Nat → Nat) (vs : List Value) : (lg_sl (vs.map (cv ad))).length = (lg_sl vs).length := by
  induction vs with
  | nil => rfl
  | cons v vs ih =>
    simp only [lg_sl, List.map_cons, List.flatMap_cons, List.length_append] at ih ⊢
    rw [ih, kr_cat]
    split <;> rfl
/-- the body gives the contract: a method without handlers -/
theorem kr_con {M : MM} {d : Nat} {args : List Value} {S : AS} {r : AR} (hMX : mX M = none) (hH : mH M = []) (hy : plainName (mO M) = true) (hn : (lg_sl args).length ≤ mL M) (K : kr_AW M d 0 (lv_args 0 args) [] S r) : kr_Con M d args S r := by
  refine ⟨K.1, ?_⟩
  intro l g ad hl hva
  have hcw : kr_cw M = .code (mY M) (mC M) (mL M) (mR M) := by unfold kr_cw; rw [if_pos hH]
  refine vx_ofW (y := mY M) (cc := mC M) (maxL := mL M) (ret := mR M) hy (by rw [hcw]) ?_
  intro p e s m a below meth c s₁ B hml hexc hPc
  obtain ⟨rfl, hB, hW⟩ := hPc
  have hts : ∀ w ∈ kr_TB, w.before (args.map (cv ad)).toArray s = true := fun w hw => atoms_spec (ws := kr_cw M :: kr_TB) B.pre w (List.mem_cons_of_mem _ hw)
  have hown : s.vm.findClass (mO M) = some m.cls := findClass_of_methodNamed B.named
  have hnm : meth.name = mN M := (name_of_methodNamed B.named B.method).1
  have htab : c.exceptionTable.toList = tableOf (mH M) := by
    rw [hH]
    cases h : c.exceptionTable.toList with
    | nil => rfl
    | cons x xs => exact (hexc x (by rw [h]; exact List.mem_cons_self)).elim
  have hle := lv_entry (args.map (cv ad)) (n := mL M) (by rw [kr_sl_len]; exact hn)
  rw [lg_entry_eq]
  have k1 := K.1
  exact K.2 g p l e s m _ below meth c ad (sN S) (sC S) (sS S) _ _ ⟨B.exec, B.bytes, hml, B.returns, hown, hts, B.notSynchronized, hl, htab, ⟨hnm, fun X L h => by rw [hMX] at h; cases h⟩, hB⟩ ad s.heap [] _ 0 0
    ⟨rfl, rfl, by omega, by omega, Nat.le_refl _, kr_ext_rf, hW, va_S.rf, by rw [← kr_args_map]; exact hle, kr_args_va hva 0⟩
/-- the same, with handlers -/
theorem kr_conH {M : MM} {d : Nat} {args : List Value} {S : AS} {r : AR} (hMX : mX M = none) (hH : mH M ≠ []) (hy : plainName (mO M) = true) (hn : (lg_sl args).length ≤ mL M) (K : kr_AW M d 0 (lv_args 0 args) [] S r) : kr_Con M d args S r := by
  refine ⟨K.1, ?_⟩
  intro l g ad hl hva
  have hcw : kr_cw M = .codeWith (mY M) (mC M) (mL M) (mR M) (mH M) := by unfold kr_cw; rw [if_neg hH]
  refine vx_ofWH (y := mY M) (cc := mC M) (maxL := mL M) (ret := mR M) (hh := mH M) hy (by rw [hcw]) ?_
  intro p e s m a below meth c s₁ B hml hPc
  obtain ⟨rfl, hB, hW⟩ := hPc
  have hts0 : ∀ w ∈ kr_cw M :: kr_TB, w.before (args.map (cv ad)).toArray s = true := atoms_spec (ws := kr_cw M :: kr_TB) B.pre
  have hts : ∀ w ∈ kr_TB, w.before (args.map (cv ad)).toArray s = true := fun w hw => hts0 w (List.mem_cons_of_mem _ hw)
  have hown : s.vm.findClass (mO M) = some m.cls := findClass_of_methodNamed B.named
  have hnm : meth.name = mN M := (name_of_methodNamed B.named B.method).1
  have htab : c.exceptionTable.toList = tableOf (mH M) := vx_table (x := mY M) B (by rw [← hcw]; exact hts0 _ List.mem_cons_self)
  have hle := lv_entry (args.map (cv ad)) (n := mL M) (by rw [kr_sl_len]; exact hn)
  rw [lg_entry_eq]
  have k1 := K.1
  exact K.2 g p l e s m _ below meth c ad (sN S) (sC S) (sS S) _ _ ⟨B.exec, B.bytes, hml, B.returns, hown, hts, B.notSynchronized, hl, htab, ⟨hnm, fun X L h => by rw [hMX] at h; cases h⟩, hB⟩ ad s.heap [] _ 0 0
    ⟨rfl, rfl, by omega, by omega, Nat.le_refl _, kr_ext_rf, hW, va_S.rf, by rw [← kr_args_map]; exact hle, kr_args_va hva 0⟩
/-- with q thrown: what the frame makes of it -/
def kr_XW (M : MM) (d pc : Nat) (lv : List (Nat × Value)) (st : List Value) (S : AS) (r : AR) (E : String) : Prop :=
  (sC S ≤ sC r.2 ∧ sS S ≤ sS r.2 ∧ sN S ≤ sN r.2) ∧ ∀ (g : GG) (p : Program) (l : Launch) (e : Env) (s : State) (m : MethodId) (args : Array Value) (below : List Frame) (meth : Method) (c : Code) (ad0 : Nat → Nat) (n0 c0 s0 mc ms : Nat),
    kr_Ctx g M p l s m args meth c → ∀ (ad : Nat → Nat) (H : Heap) (locs : List Loc) (ls : Array Slot) (cells slots : Nat) (q : Addr) (ce : Cell), kr_At g M s S r ad0 n0 c0 s0 mc ms lv st ad H locs ls cells slots → H[q]? = some ce → ce.vm = .none → s.vm.findClass E = some ce.cls →
    vx_W p l e (kr_room d mc ms) s m args below meth c H locs cells slots (vx_MQ below (kr_Q g ad0 n0 r) (kr_XC g ad0 n0 r) args s mc ms (kr_fr g)) (F0 m pc ls (st.map (cv ad))) q
theorem kr_run {p : Program} {l : Launch} {e : Env} {R : Room} {s : State} {m : MethodId} {args a : Array Value} {below : List Frame} {meth : Method} {c : Code} {H : Heap} {locs : List Loc} {cells slots mc1 ms1 pc n : Nat} {Q : State → Prop} {ls : Array Slot} {st0 rest : List Value} {g : GG} {ad : Nat → Nat} {r1 : AR}
    (hr : vx_Run p l e R s m args below meth c H locs cells slots mc1 ms1 (F0 m pc ls st0) rest (kr_Q g ad n r1 a) (kr_XC g ad n r1) (kr_fr g)) (hS : va_S (kr_fr g) s.heap H locs)
    (kr : ∀ (v : Option Value) (ad' : Nat → Nat) (H1 : Heap) (locs1 : List Loc), r1.1 = .inl v → kr_ext n ad ad' → Wd g ad' r1.2 H1 → (∀ w, v = some w → kr_vl (sN r1.2) w) → va_S (kr_fr g) s.heap H1 locs1 → W p l e R s m args below meth c H1 locs1 (cells + mc1) (slots + ms1) Q (F0 m (pc + 3) ls ((v.map (cv ad')).toList ++ rest)))
    (kx : ∀ (E : String) (ad' : Nat → Nat) (H1 : Heap) (locs1 : List Loc) (q : Addr) (ce : Cell), r1.1 = .inr E → kr_ext n ad ad' → Wd g ad' r1.2 H1 → va_S (kr_fr g) s.heap H1 locs1 → H1[q]? = some ce → ce.vm = .none → s.vm.findClass E = some ce.cls → vx_W p l e R s m args below meth c H1 locs1 (cells + mc1) (slots + ms1) Q (F0 m pc ls rest) q) : W p l e R s m args below meth c H locs cells slots Q (F0 m pc ls st0) := by
  intro T hT X
  rcases hr T hT X with ⟨v', st₀, t, T', L, h0, X', hL, e1, e2, ⟨⟨v, ad', hr1, ho, hext, hWd, hvl⟩, hF⟩, st⟩ | ⟨q, st₀, t, T', L, E, ce, h0, X', hL, e1, e2, ⟨⟨ad', hr1, hext, hWd⟩, hF⟩, hce, hcv, hcl, st⟩
  · cases ho
    have hS1 := (vx_keep (A1 := kr_fr g) h0 e1 hS (fun _ _ h => h) (fun _ h => h) hL hF).2.2
    rw [← e1] at hWd
    obtain ⟨t2, b1, b2⟩ := kr v ad' T'.heap (locs ++ L) hr1 hext hWd hvl hS1 T' rfl X'
    exact ⟨t2, st t2 b1, b2⟩
  · have hS1 := (vx_keep (A1 := kr_fr g) h0 e1 hS (fun _ _ h => h) (fun _ h => h) hL hF).2.2
    rw [← e1] at hWd hce
    obtain ⟨t2, b1, b2⟩ := kx E ad' T'.heap (locs ++ L) q ce hr1 hext hWd hS1 hce hcv hcl T' rfl X'
    exact ⟨t2, st.trans b1, b2⟩
/-- what is asked of a method that is called: its words, its arguments' number, its locals -/
def kr_mok (M : MM) (n : Nat) : Prop := Cond.initialized (mO M) ∈ kr_TB ∧ kr_cw M ∈ kr_TB ∧ (mO M ≠ "java/lang/invoke/MethodHandle" ∧ mO M ≠ "java/lang/invoke/VarHandle" ∧ (parseMethodDescriptor (mD M)).map (fun q => q.parameters.length) = some n) ∧ mL M ≤ 12
theorem kr_pay {args : Array Value} {s : State} {M : MM} (ht : ∀ w ∈ kr_TB, w.before args s = true) (hw : kr_cw M ∈ kr_TB) : ∀ w ∈ kr_cw M :: kr_TB, ∀ (a' : Array Value) (U : State), s.WarmedH U.vm → w.before a' U = true := by
  intro w h a' U hW
  have hm : w ∈ kr_TB := (List.mem_cons.mp h).elim (fun e => e ▸ hw) id
  exact word_at hW (good_of_word (List.mem_filter.mp hm).2) (ht w hm)
theorem kr_lvx {n : Nat} {ad ad' : Nat → Nat} (he : kr_ext n ad ad') {lv : List (Nat × Value)} {st : List Value} (h : kr_va n lv st) : lv.map (fun z => (z.1, cv ad' z.2)) = lv.map (fun z => (z.1, cv ad z.2)) ∧ st.map (cv ad') = st.map (cv ad) := by
  have key : ∀ v, kr_vl n v → cv ad' v = cv ad v := by
    intro v hv
    cases v <;> first | rfl | exact congrArg Value.ref (he _ hv)
  exact ⟨List.map_congr_left fun z hz => by rw [key _ (h.1 z hz)], List.map_congr_left fun z hz => key _ (h.2 z hz)⟩
section KR
variable {M : MM} {d pc : Nat} {lv : List (Nat × Value)} {st : List Value} {S : AS} {r : AR}
/-- a call, however it is made: 'hrun' gives the run out of the contract -/
theorem kr_call {M1 : MM} {d1 : Nat} {As : List Value} {st0 : List Value} {r1 : AR} (hc : kr_Con M1 d1 As S r1) (hst : ∀ n, kr_va n lv st0 → kr_va n [] As ∧ kr_va n lv st)
    (Kr : ∀ v, r1.1 = .inl v → kr_AW M d (pc + 3) lv (v.toList ++ st) r1.2 r) (Kx : ∀ E, r1.1 = .inr E → kr_XW M d pc lv st r1.2 r E)
    (hrun : ∀ (g : GG) (p : Program) (l : Launch) (e : Env) (R : Room) (s : State) (m : MethodId) (args : Array Value) (below : List Frame) (meth : Method) (c : Code) (H : Heap) (locs : List Loc) (cells slots : Nat) (ls : Array Slot) (ad : Nat → Nat),
      kr_Ctx g M p l s m args meth c → Wd g ad S H → va_S (kr_fr g) s.heap H locs → lv_has ls (mL M) (lv.map (fun q => (q.1, cv ad q.2))) → kr_va (sN S) lv st0 → R.frames = d → R.locals = 31 * d + 192 →
      vx_Met l (mY M1) (kr_cw M1 :: kr_TB) (kr_room d1 (sC r1.2 - sC S) (sS r1.2 - sS S)) (kr_Pc g ad As S) (kr_Q g ad (sN S) r1) (kr_XC g ad (sN S) r1) (sC r1.2 - sC S) (sS r1.2 - sS S) (kr_fr g) →
      (∀ U : State, U.heap = H → s.WarmedH U.vm → kr_Pc g ad As S (As.map (cv ad)).toArray U) → cells + (sC r1.2 - sC S) ≤ R.cells ∧ slots + (sS r1.2 - sS S) ≤ R.slots →
      vx_Run p l e R s m args below meth c H locs cells slots (sC r1.2 - sC S) (sS r1.2 - sS S) (F0 m pc ls (st0.map (cv ad))) (st.map (cv ad)) (kr_Q g ad (sN S) r1 (As.map (cv ad)).toArray) (kr_XC g ad (sN S) r1) (kr_fr g)) : kr_AW M d pc lv st0 S r := by
  have hm1 := hc.1
  have hm2 : sC r1.2 ≤ sC r.2 ∧ sS r1.2 ≤ sS r.2 ∧ sN r1.2 ≤ sN r.2 := by
    cases h : r1.1 with
    | inl v => exact (Kr v h).1
    | inr E => exact (Kx E h).1
  refine ⟨⟨by omega, by omega, by omega⟩, ?_⟩
  intro g p l e s m args below meth c ad0 n0 c0 s0 mc ms C ad H locs ls cells slots A
  obtain ⟨a1, a2, a3, a4, a5, a6, a7, a8, a9, a10⟩ := A
  obtain ⟨v1, v2⟩ := hst _ a10
  have hB := C.2.2.2.2.2.2.2.2.2.2
  refine kr_run (hrun g p l e (kr_room d mc ms) s m args below meth c H locs cells slots ls ad C a7 a8 a9 a10 rfl rfl (hc.2 l g ad C.2.2.2.2.2.2.2.1 v1) (fun U hU hW => ⟨rfl, ?_, by rw [hU]; exact a7⟩) ⟨show cells + _ ≤ mc by omega, show slots + _ ≤ ms by omega⟩) a8 (fun v ad' H1 locs1 h1 hext hWd hvl hS1 => ?_) (fun E ad' H1 locs1 q ce h1 hext hWd hS1 hq hv hcl => ?_)
  · refine Bs.moved hW hB ?_ ?_
    · rw [hU]; exact a8.1
    · rw [hU]; exact a8.2.1
  · obtain ⟨e1, e2⟩ := kr_lvx hext v2
    have kk := (Kr v h1).2 g p l e s m args below meth c ad0 n0 c0 s0 mc ms C ad' H1 locs1 ls (cells + (sC r1.2 - sC S)) (slots + (sS r1.2 - sS S)) ⟨by omega, by omega, a3, a4, by omega, kr_ext_tr a5 a6 hext, hWd, hS1, by rw [e1]; exact a9, by
      cases v with
      | none => exact kr_va_mono hm1.2.2 v2
      | some w => exact kr_va_cons (hvl w rfl) (kr_va_mono hm1.2.2 v2)⟩
    rw [List.map_append, e2] at kk
    cases v with
    | none => exact kk
    | some w => exact kk
  · obtain ⟨e1, e2⟩ := kr_lvx hext v2
    have kk := (Kx E h1).2 g p l e s m args below meth c ad0 n0 c0 s0 mc ms C ad' H1 locs1 ls (cells + (sC r1.2 - sC S)) (slots + (sS r1.2 - sS S)) q ce ⟨by omega, by omega, a3, a4, by omega, kr_ext_tr a5 a6 hext, hWd, hS1, by rw [e1]; exact a9, kr_va_mono hm1.2.2 v2⟩ hq hv hcl
    rw [e2] at kk
    exact kk
theorem kr_va_app {n : Nat} {As : List Value} : ∀ {st : List Value}, kr_va n lv (As.reverse ++ st) → kr_va n [] As ∧ kr_va n lv st := fun h => ⟨⟨fun _ h => (nomatch h), fun v hv => h.2 v (List.mem_append_left _ (List.mem_reverse.mpr hv))⟩, ⟨h.1, fun v hv => h.2 v (List.mem_append_right _ hv)⟩⟩
theorem kr_maprev (ad : Nat → Nat) (As st : List Value) : (As.reverse ++ st).map (cv ad) = (As.map (cv ad)).reverse ++ st.map (cv ad) := by rw [List.map_append, List.map_reverse]
theorem kr_room2 {m : MethodId} {ls : Array Slot} {st0 rest : List Value} (ad : Nat → Nat) (h : (rest.map fun v => v.category).sum ≤ 8) : 2 * (F0 m pc ls st0).monitorRoom + ((rest.map (cv ad)).map fun v => v.category).sum ≤ 8 := by
  rw [kr_catm]
  simpa [F0, JFrame.monitorRoom] using h
end KR
