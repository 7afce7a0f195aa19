def kr_th (own : String) (ik ic : Nat) (E : String) (names : List String) : Prop :=
  Bundle.fit E = true ∧ (∀ n ∈ names, Bundle.fit n = true) ∧ Cond.classLink own ik E ∈ kr_TB ∧ Cond.initialized E ∈ kr_TB ∧ (∀ w ∈ vx_at0 own ic E names, w ∈ kr_TB ∨ w ∈ kr_NB) ∧ (∀ w ∈ Cond.classLink own ik E :: Cond.initialized E :: vx_at0 own ic E names, vx_ot w = true) ∧ names.length ≤ 3
theorem kr_kept {g : GG} {ad : Nat → Nat} {S : AS} {H H1 : Heap} (hW : Wd g ad S H) (hq : ∀ q : Nat, q < H.size → H1[q]? = H[q]?) : Wd g ad S H1 := ⟨hW.1, hW.2.1, hW.2.2.1.kept (fun k q hk => hq _ (hW.2.2.1 k q hk).lt), hW.2.2.2⟩
theorem kr_F_of {g : GG} {s t : State} {H : Heap} {locs : List Loc} (h : va_S (kr_fr g) s.heap H locs) (h1 : H.size ≤ t.heap.size) (h2 : ∀ q : Nat, q < H.size → t.heap[q]? = H[q]?) : va_F (kr_fr g) s t := ⟨Nat.le_trans h.1 h1, fun q q1 q2 => (h2 q (Nat.lt_of_lt_of_le q1 h.1)).trans (h.2.1 q q1 q2)⟩
section KR
variable {M : MM} {d pc : Nat} {lv : List (Nat × Value)} {st : List Value} {S : AS} {r : AR}
/-- throw new E() -/
theorem r_throw {ik ic : Nat} {E : String} (names : List String) (hH : mH M = []) (hth : kr_th (mO M) ik ic E names) (hdd : 7 ≤ d) (hrest : (st.map fun v => v.category).sum ≤ 8)
    (d0 : decode (mC M) pc = .ok (.new ik, 3)) (d3 : decode (mC M) (pc + 3) = .ok (.dup, 1)) (d4 : decode (mC M) (pc + 4) = .ok (.invokespecial ic, 3)) (d7 : decode (mC M) (pc + 7) = .ok (.athrow, 1)) : kr_AW M d pc lv st S (.inr E, wX S) := by
  obtain ⟨t1, t2, t3, t4, t5, t6, t7⟩ := hth
  refine ⟨⟨Nat.le_succ _, Nat.le_add_right _ _, Nat.le_refl _⟩, ?_⟩
  intro g p l e s m args below meth c ad0 n0 c0 s0 mc ms C ad H locs ls cells slots A
  obtain ⟨a1, a2, a3, a4, a5, a6, a7, a8, a9, a10⟩ := A
  obtain ⟨hx2, hb, hml, hrt, ho, ht, hlocks, hst, htab, hnm, hB⟩ := C
  have a3' : sC S + 1 ≤ c0 + mc := a3
  have a4' : sS S + 6 ≤ s0 + ms := a4
  have hl := kr_room2 (m := m) (ls := ls) (pc := pc) (st0 := st.map (cv ad)) ad hrest
  have hl2 : ((st.map (cv ad)).map fun v => v.category).sum ≤ 8 := by omega
  refine vx_throw0 hx2 hb hst ho t1 t2 (ht _ t3) (ht _ t4) (fun w hw => (t5 w hw).elim (fun h => ht w h) (fun h => ?_)) t6 hB.2.2.2.2.2.2.2.2.2.2.2.2.2.2.1 hB.2.2.2.2.2.2.2.2.2.2.2.2.2.2.2 a8 (a9.1.trans hml.symm) d0 d3 d4 d7 (fun x hx => by rw [htab, hH] at hx; cases hx)
    (show names.length + 3 < d by omega) (show _ ≤ 31 * d + 192 by omega) (show cells + 1 ≤ mc by omega) (show slots + 6 ≤ ms by omega) hlocks (fun t q1 q2 q3 => ⟨⟨ad, rfl, a6, kr_kept a7 q3⟩, kr_F_of a8 q2 q3⟩) a8.2.2 (by omega) (by omega)
  have hnb := (List.mem_filter.mp h).2
  have hn := hB.2.2.1 w h
  cases w <;> first | exact va_Nw.use rfl hn | (simp [kr_nb] at hnb)
/-- caught; the handler's first instruction stores the exception in the local i, which is not read -/
theorem r_catchC {E nm : String} {hd : Nat × Nat × Nat × Nat} (pre suf : List (Nat × Nat × Nat × Nat)) (hh : kr_hd M pc E hd pre suf nm) {i len : Nat} {lv' : List (Nat × Value)} (hlv : lv.filter (fun q => !(q.1 == i) && !(q.1 + 1 == i && q.2.category == 2)) = lv') (hi : i < mL M)
    (hst : ∀ (p : Program) (l : Launch) (e : Env) (R : Room) (s : State) (m : MethodId) (args : Array Value) (below : List Frame) (meth : Method) (c : Code) (H : Heap) (locs : List Loc) (cells slots : Nat) (Q : State → Prop) (ls : Array Slot) (lw : List (Nat × Value)) (q : Nat), p.tables.exec = Jvm.exec → c.code = mC M → lv_has ls (mL M) lw → (∀ ls' : Array Slot, lv_has ls' (mL M) ((i, Value.ref q) :: lw.filter (fun q => !(q.1 == i) && !(q.1 + 1 == i && q.2.category == 2))) → W p l e R s m args below meth c H locs cells slots Q (F0 m (hd.2.2.1 + len) ls' [])) → W p l e R s m args below meth c H locs cells slots Q (F0 m hd.2.2.1 ls [.ref q]))
    (K : kr_AW M d (hd.2.2.1 + len) lv' [] S r) : kr_XW M d pc lv st S r E := by
  obtain ⟨h1, h2, h3, h4, h5, h6⟩ := hh
  refine ⟨K.1, ?_⟩
  intro g p l e s m args below meth c ad0 n0 c0 s0 mc ms C ad H locs ls cells slots q ce A hq hv hcl
  obtain ⟨a1, a2, a3, a4, a5, a6, a7, a8, a9, a10⟩ := A
  have C' := C
  obtain ⟨hx2, hb, hml, hrt, ho, ht, hlocks, hstt, htab, hnm, hB⟩ := C
  have hsplit : c.exceptionTable.toList = pre.map (fun q => ⟨q.1, q.2.1, q.2.2.1, q.2.2.2⟩) ++ ⟨hd.1, hd.2.1, hd.2.2.1, hd.2.2.2⟩ :: suf.map (fun q => ⟨q.1, q.2.1, q.2.2.1, q.2.2.2⟩) := by
    rw [htab, h1]
    simp [tableOf]
  refine vx_catch (own := mO M) (name := nm) (E := E) (ce := ce) ho _ ⟨hd.1, hd.2.1, hd.2.2.1, hd.2.2.2⟩ _ hsplit (fun z hz => ?_) ?_ h4 (ht _ h5) (va_Nw.use rfl (hB.2.2.1 _ h6)) hq hv hcl ?_
  · obtain ⟨z0, hz0, rfl⟩ := List.mem_map.mp hz
    obtain ⟨n2, e1, e2, e3⟩ := h2 z0 hz0
    exact Or.inr ⟨e1, n2, ht _ e2, hB.2.2.2.1 _ e3⟩
  · simp only [covers, h3.1, h3.2, decide_true, Bool.and_self]
  · refine hst p l e _ s m args below meth c H locs cells slots _ ls _ q hx2 hb a9 (fun ls' hl' => ?_)
    have e1 : (lv.map (fun z => (z.1, cv ad z.2))).filter (fun z => !(z.1 == i) && !(z.1 + 1 == i && z.2.category == 2)) = lv'.map (fun z => (z.1, cv ad z.2)) := by
      have := kr_st_map ad lv i .null
      simp only [kr_st, List.map_cons, hlv] at this
      exact (List.cons.inj this).2.symm
    rw [e1] at hl'
    exact K.2 g p l e s m args below meth c ad0 n0 c0 s0 mc ms C' ad H locs ls' cells slots ⟨a1, a2, a3, a4, a5, a6, a7, a8, ⟨hl'.1, hl'.2.1, fun z hz => hl'.2.2 z (List.mem_cons_of_mem _ hz)⟩, ⟨fun z hz => a10.1 z (by rw [← hlv] at hz; exact (List.mem_filter.mp hz).1), fun _ h => (nomatch h)⟩⟩
theorem r_catch_n {E nm : String} {hd : Nat × Nat × Nat × Nat} (pre suf : List (Nat × Nat × Nat × Nat)) (hh : kr_hd M pc E hd pre suf nm) {i : Fin 4} {lv' : List (Nat × Value)} (hlv : lv.filter (fun q => !(q.1 == (i : Nat)) && !(q.1 + 1 == (i : Nat) && q.2.category == 2)) = lv') (hi : (i : Nat) < mL M) (hdg : decode (mC M) hd.2.2.1 = .ok (.astore_n i, 1)) (K : kr_AW M d (hd.2.2.1 + 1) lv' [] S r) : kr_XW M d pc lv st S r E :=
  r_catchC pre suf hh hlv hi (fun p l e R s m args below meth c H locs cells slots Q ls lw q hx hb hl k => lv_astore_n hx hb hdg rfl hl hi rfl k) K
theorem r_catch {E nm : String} {hd : Nat × Nat × Nat × Nat} (pre suf : List (Nat × Nat × Nat × Nat)) (hh : kr_hd M pc E hd pre suf nm) {i : Nat} {lv' : List (Nat × Value)} (hlv : lv.filter (fun q => !(q.1 == i) && !(q.1 + 1 == i && q.2.category == 2)) = lv') (hi : i < mL M) (hdg : decode (mC M) hd.2.2.1 = .ok (.astore i, 2)) (K : kr_AW M d (hd.2.2.1 + 2) lv' [] S r) : kr_XW M d pc lv st S r E :=
  r_catchC pre suf hh hlv hi (fun p l e R s m args below meth c H locs cells slots Q ls lw q hx hb hl k => lv_astore hx hb hdg hl hi rfl k) K
/-! ===== what Arrays.copyOf needs ===== -/
theorem r_ldcM {i : Nat} (hw : Cond.classLink (mO M) i "[Ljava/lang/Object;" ∈ kr_TB) (hd : decode (mC M) pc = .ok (.ldc i, 2)) (K : kr_AW M d (pc + 2) lv (va_rf (some 3) :: st) S r) : kr_AW M d pc lv st S r :=
  kr_rd K (fun g hok hv => kr_va_cons (Nat.lt_of_lt_of_le (by decide) hok.1) hv) (fun g p l e R s m args below meth c H locs cells slots Q ls ad hx hb ho ht hB hW hS kk => by
    have kk2 : W p l e R s m args below meth c H locs cells slots Q (F0 m (pc + 2) ls (.ref (ad 3) :: st.map (cv ad))) := kk
    rw [hW.2.1 3 (by decide)] at kk2
    exact va_ldcM hx hb ho (ht _ hw) hB.2.2.2.2.2.2.2.2.2.2.1 hd kk2)
theorem r_acmp33 {off : Int} (hd : decode (mC M) pc = .ok (.if_acmp .ne off, 3)) {tgt : Nat} (ht : (pc : Int) + off = (tgt : Int)) (K : kr_AW M d (pc + 3) lv st S r) : kr_AW M d pc lv (va_rf (some 3) :: va_rf (some 3) :: st) S r :=
  kr_rd K (fun g hok hv => kr_va_tl (kr_va_tl hv)) (fun g p l e R s m args below meth c H locs cells slots Q ls ad hx hb ho hts hB hW hS kk =>
    lv_acmp_ne (rx := some (ad 3)) (ry := some (ad 3)) hx hb hd ht (fun h => absurd rfl h) (fun _ => kk))
def kr_gc : MethodName := ⟨"java/lang/Object", "getClass", "()Ljava/lang/Class;"⟩
theorem r_getC {i : Nat} {x : Option Nat} (h : kr_rv S 43 x = some ()) (hl : Cond.methodLink (mO M) i kr_gc ∈ kr_TB) (hdc : Cond.declares kr_gc ∈ kr_NB) (hse : Cond.selects "[Ljava/lang/Object;" kr_gc kr_gc ∈ kr_TB) (hin : Cond.instanceMethod kr_gc ∈ kr_TB) (hna : Cond.native kr_gc ∈ kr_TB) (hdd : 1 ≤ d) (hrest : (st.map fun v => v.category).sum ≤ 8) (hd : decode (mC M) pc = .ok (.invokevirtual i, 3)) (K : kr_AW M d (pc + 3) lv (va_rf (some 3) :: st) S r) : kr_AW M d pc lv (va_rf x :: st) S r := by
  cases x with
  | none => cases h
  | some a =>
    have ha : sK S a = 43 := by
      simp only [kr_rv, Option.bind_some] at h
      split at h
      · next hq => exact hq
      · cases h
    refine ⟨K.1, ?_⟩
    intro g p l e s m args below meth c ad0 n0 c0 s0 mc ms C ad H locs ls cells slots A
    obtain ⟨a1, a2, a3, a4, a5, a6, a7, a8, a9, a10⟩ := A
    have C' := C
    obtain ⟨hx2, hb, hml, hrt, ho, ht, hlocks, hst, htab, hnm, hB⟩ := C
    obtain ⟨h4, hkn⟩ := a7.1.ge (k := a) (by omega)
    have hcell : H[ad a]? = some (vp_cell (gA g 3) (sL S a, .inr (.inr (.inr (.inr (fun j => (sR S a j).map ad)))))) := by
      have := a7.2.2.1 (ix S a) _ ((kr_ws_at (g := g) (ad := ad) h4 hkn (by omega)).trans (by rw [kr_ar ha (by decide)]))
      exact this
    have hRA := (hB.2.1.2 3 _ (kr_tys_at (g := g) (t := 3) (by decide))).2
    have kk := K.2 g p l e s m args below meth c ad0 n0 c0 s0 mc ms C' ad H locs ls cells slots ⟨a1, a2, a3, a4, a5, a6, a7, a8, a9, kr_va_cons (Nat.lt_of_lt_of_le (by decide) a7.1.1) (kr_va_tl a10)⟩
    rw [List.map_cons, show cv ad (va_rf (some 3)) = .ref (gP g 3) from congrArg Value.ref (a7.2.1 3 (by decide))] at kk
    have hl8 := kr_room2 (m := m) (ls := ls) (pc := pc) (st0 := st) ad hrest
    refine va_getC (C := "[Ljava/lang/Object;") hx2 hb (hml.trans a9.1.symm) ho (ht _ hl) (va_Nw.use rfl (hB.2.2.1 _ hdc)) (ht _ hse) (ht _ hin) (ht _ hna) hB.2.2.2.2.2.2.2.2.2.2.1 ⟨_, hcell, rfl, va_nmO hRA (by decide)⟩ hdd ?_ hd kk
    show _ ≤ 31 * d + 192
    omega
/-- System.arraycopy(x, 0, y, 0, n) of two Object[] -/
def wC (S : AS) (k y n : Nat) : AS := (sN S, sK S, sL S, sI S, kr_w (sR S) y (fun b => if b < n then sR S k b else sR S y b), sJ S, sC S, sS S)
def kr_cp (S : AS) (x y : Option Nat) (n : Int32) : Option AS := x.bind fun k => y.bind fun q => if (sK S k = 43 ∧ sK S q = 43) ∧ (0 ≤ n.toInt ∧ n.toInt ≤ (sL S k : Int) ∧ n.toInt ≤ (sL S q : Int)) ∧ ((List.range n.toNatClampNeg).all fun i => (sR S k i).all fun a => decide (10 ≤ sK S a ∧ sK S a < 10 + kr_nC)) = true then some (wC S k q n.toNatClampNeg) else none
theorem r_copy {i : Nat} {x y : Option Nat} {n : Int32} {S1 : AS} (h : kr_cp S x y n = some S1) (hl : Cond.methodLink (mO M) i arraycopyName ∈ kr_TB) (hna : Cond.native arraycopyName ∈ kr_TB) (hst : Cond.static arraycopyName ∈ kr_TB) (hini : Cond.initialized "java/lang/System" ∈ kr_TB) (hdd : 1 ≤ d) (hrest : (st.map fun v => v.category).sum ≤ 8) (hd : decode (mC M) pc = .ok (.invokestatic i, 3)) (K : kr_AW M d (pc + 3) lv st S1 r) : kr_AW M d pc lv (.int n :: .int 0 :: va_rf y :: .int 0 :: va_rf x :: st) S r := by
  cases x with
  | none => cases h
  | some k =>
    cases y with
    | none => cases h
    | some q =>
      simp only [kr_cp, Option.bind_some] at h
      split at h
      · next hk =>
        cases h
        obtain ⟨⟨k1, k2⟩, ⟨k3, k4, k5⟩, k6⟩ := hk
        refine ⟨K.1, ?_⟩
        intro g p l e s m args below meth c ad0 n0 c0 s0 mc ms C ad H locs ls cells slots A
        obtain ⟨a1, a2, a3, a4, a5, a6, a7, a8, a9, a10⟩ := A
        have C' := C
        obtain ⟨hx2, hb, hml, hrt, ho, ht, hlocks, hstt, htab, hnm, hB⟩ := C
        obtain ⟨h4, hkn⟩ := a7.1.ge (k := k) (by omega)
        obtain ⟨h4q, hqn⟩ := a7.1.ge (k := q) (by omega)
        have hn : n.toNatClampNeg = n.toInt.toNat := rfl
        have hz : (0 : Int32).toNatClampNeg = 0 := by decide
        have ha0 := (kr_ws_at (g := g) (ad := ad) h4 hkn (by omega)).trans (by rw [kr_ar k1 (by decide)])
        have ha1 := (kr_ws_at (g := g) (ad := ad) h4q hqn (by omega)).trans (by rw [kr_ar k2 (by decide)])
        have hok1 : kr_ok g (wC S k q n.toNatClampNeg) := by
          obtain ⟨o1, o2, o3, o4, o5, o6, o8⟩ := a7.1
          refine ⟨o1, o2, o3, o4, o5, o6, fun a j v hv => ?_⟩
          have hv' : kr_w (sR S) q (fun b => if b < n.toNatClampNeg then sR S k b else sR S q b) a j = some v := hv
          unfold kr_w at hv'
          split at hv'
          · dsimp only at hv'
            split at hv'
            · exact o8 _ _ _ hv'
            · exact o8 _ _ _ hv'
          · exact o8 _ _ _ hv'
        have hset : kr_ws g ad (wC S k q n.toNatClampNeg) = (kr_ws g ad S).set (ix S q) (ad q, .inl (gA g 3, sL S q, .inr (.inr (.inr (.inr (va_cpy (fun j => (sR S k j).map ad) (fun j => (sR S q j).map ad) 0 0 n.toNatClampNeg)))))) := by
          rw [kr_ws_set (S := S) (S' := wC S k q n.toNatClampNeg) rfl rfl (by omega) h4q hqn (fun k' h' => kr_cE_eq (S := S) (S' := wC S k q n.toNatClampNeg) rfl rfl rfl (kr_w_ne h') rfl), kr_ar (S := wC S k q n.toNatClampNeg) (κ := 43) k2 (by decide)]
          have er : (fun j => (sR (wC S k q n.toNatClampNeg) q j).map ad) = va_cpy (fun j => (sR S k j).map ad) (fun j => (sR S q j).map ad) 0 0 n.toNatClampNeg := by
            funext j
            rw [show sR (wC S k q n.toNatClampNeg) q = (fun b => if b < n.toNatClampNeg then sR S k b else sR S q b) from kr_w_eq]
            simp only [va_cpy, Nat.zero_le, true_and, Nat.zero_add, Nat.sub_zero]
            split <;> rfl
          rw [er]
          rfl
        refine va_copyM (ws := kr_ws g ad S) hx2 hb (hml.trans a9.1.symm) ho (ht _ hl) (ht _ hna) (ht _ hst) (ht _ hini) hB.2.1 a7.2.2.1 a7.2.2.2 a8 (ix S k) (ix S q) 3 3 ha0 ha1 (kr_tys_at (g := g) (by decide)) (kr_tys_at (g := g) (by decide)) (by decide) (by decide) (fun z => by have := Int32.lt_iff_toInt_lt.mp z; have e0 : (0 : Int32).toInt = 0 := rfl; omega) (by rw [hz]; omega) (by rw [hz]; omega) (fun i hi z hzz => ?_) hdd ?_ hd (fun H1 locs1 hP1 hD1 hS1 => ?_)
        · rw [hz, Nat.zero_add] at hzz
          cases hsr : sR S k i with
          | none => rw [hsr] at hzz; cases hzz
          | some a =>
            rw [hsr] at hzz
            cases hzz
            have h9 := List.all_eq_true.mp k6 i (List.mem_range.mpr hi)
            rw [hsr] at h9
            have h10 : 10 ≤ sK S a ∧ sK S a < 10 + kr_nC := by simpa using h9
            exact kr_anyC hB a7 h10 (Or.inl (kr_obC _ (by omega)))
        · have hl8 := kr_room2 (m := m) (ls := ls) (pc := pc) (st0 := st) ad hrest
          show _ ≤ 31 * d + 192
          have e9 : nativeFrameWords "java/lang/System" "arraycopy" 5 ≤ 60 := by decide
          omega
        · rw [hz, ← hset] at hP1 hD1
          exact K.2 g p l e s m args below meth c ad0 n0 c0 s0 mc ms C' ad H1 locs1 ls cells slots ⟨a1, a2, a3, a4, a5, a6, ⟨hok1, a7.2.1, hP1, hD1⟩, hS1, a9, kr_va_tl (kr_va_tl (kr_va_tl (kr_va_tl (kr_va_tl a10))))⟩
      · cases h
end KR
