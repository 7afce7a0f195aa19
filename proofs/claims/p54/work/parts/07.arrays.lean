theorem kr_in_vp {i : Int32} {n : Nat} (h : 0 ≤ i.toInt ∧ i.toInt < (n : Int)) : vp_in i n := vp_in_iff.mpr h
theorem kr_ai {g : GG} {ad : Nat → Nat} {S : AS} {k κ : Nat} (hk : sK S k = κ) (h : κ = 40 ∨ κ = 41) : kr_cE g ad S k = .inl (gA g (κ - 40), sL S k, .inl (sI S k)) := by
  rcases h with rfl | rfl <;> simp [kr_cE, hk]
theorem kr_aj {g : GG} {ad : Nat → Nat} {S : AS} {k : Nat} (hk : sK S k = 42) : kr_cE g ad S k = .inl (gA g 2, sL S k, .inr (.inl (sJ S k))) := by simp [kr_cE, hk]
theorem kr_ar {g : GG} {ad : Nat → Nat} {S : AS} {k κ : Nat} (hk : sK S k = κ) (h : 43 ≤ κ ∧ κ < 46) : kr_cE g ad S k = .inl (gA g (κ - 40), sL S k, .inr (.inr (.inr (.inr (fun j => (sR S k j).map ad))))) := by
  have h1 : ¬ κ < 40 := by omega
  have h2 : ¬ κ < 42 := by omega
  have h3 : ¬ κ = 42 := by omega
  simp [kr_cE, hk, h1, h2, h3]
theorem kr_obC : ∀ c, c < kr_nC → Cond.castable (kr_cC c) "java/lang/Object" ∈ kr_NB := by decide +kernel
section KR
variable {M : MM} {d pc : Nat} {lv : List (Nat × Value)} {st : List Value} {S : AS} {r : AR}
/-- a step that reads the heap: what is pushed is a value of the state -/
theorem kr_rd {pc' : Nat} {st' : List Value} (K : kr_AW M d pc' lv st' S r) (V : ∀ g, kr_ok g S → kr_va (sN S) lv st → kr_va (sN S) lv st')
    (f : ∀ (g : GG) (p : Program) (l : Launch) (e : Env) (R : Room) (s : State) (m : MethodId) (args : Array Value) (below : List Frame) (meth : Method) (c : Code) (H : Heap) (locs : List Loc) (cells slots : Nat) (Q : State → Prop) (ls : Array Slot) (ad : Nat → Nat),
      p.tables.exec = Jvm.exec → c.code = mC M → s.vm.findClass (mO M) = some m.cls → (∀ w ∈ kr_TB, w.before args s = true) → Bs g s s.heap → Wd g ad S H → va_S (kr_fr g) s.heap H locs →
      W p l e R s m args below meth c H locs cells slots Q (F0 m pc' ls (st'.map (cv ad))) → W p l e R s m args below meth c H locs cells slots Q (F0 m pc ls (st.map (cv ad)))) : kr_AW M d pc lv st S r := by
  refine ⟨K.1, ?_⟩
  intro g p l e s m args below meth c ad0 n0 c0 s0 mc ms C ad H locs ls cells slots A
  obtain ⟨a1, a2, a3, a4, a5, a6, a7, a8, a9, a10⟩ := A
  exact f g p l e _ s m args below meth c H locs cells slots _ ls ad C.1 C.2.1 C.2.2.2.2.1 C.2.2.2.2.2.1 C.2.2.2.2.2.2.2.2.2.2 a7 a8 (K.2 g p l e s m args below meth c ad0 n0 c0 s0 mc ms C ad H locs ls cells slots ⟨a1, a2, a3, a4, a5, a6, a7, a8, a9, V g a7.1 a10⟩)
/-- a step that changes one place -/
theorem kr_wr {pc' k : Nat} {st' : List Value} {S1 : AS} (K : kr_AW M d pc' lv st' S1 r) (h4 : (sK S k < 39 ∨ (40 ≤ sK S k ∧ sK S k < 46))) (e4 : sK S1 = sK S) (e1 : sN S1 = sN S) (e2 : sC S1 = sC S) (e3 : sS S1 = sS S) (e5 : ∀ g ad k', k' ≠ k → kr_cE g ad S1 k' = kr_cE g ad S k') (e7 : ∀ g, kr_ok g S → kr_ok g S1) (hk : 10 ≤ sK S k) (V : kr_va (sN S) lv st → kr_va (sN S) lv st')
    (f : ∀ (g : GG) (p : Program) (l : Launch) (e : Env) (R : Room) (s : State) (m : MethodId) (args : Array Value) (below : List Frame) (meth : Method) (c : Code) (H : Heap) (locs : List Loc) (cells slots : Nat) (Q : State → Prop) (ls : Array Slot) (ad : Nat → Nat),
      p.tables.exec = Jvm.exec → c.code = mC M → s.vm.findClass (mO M) = some m.cls → (∀ w ∈ kr_TB, w.before args s = true) → Bs g s s.heap → Wd g ad S H → va_S (kr_fr g) s.heap H locs → (kr_ws g ad S)[ix S k]? = some (ad k, kr_cE g ad S k) →
      (∀ (H1 : Heap) (locs1 : List Loc), va_P (gD g) kr_cl ((kr_ws g ad S).set (ix S k) (ad k, kr_cE g ad S1 k)) H1 → va_D (kr_fr g) ((kr_ws g ad S).set (ix S k) (ad k, kr_cE g ad S1 k)) → va_S (kr_fr g) s.heap H1 locs1 → W p l e R s m args below meth c H1 locs1 cells slots Q (F0 m pc' ls (st'.map (cv ad)))) →
      W p l e R s m args below meth c H locs cells slots Q (F0 m pc ls (st.map (cv ad)))) : kr_AW M d pc lv st S r := by
  refine ⟨by rw [← e2, ← e3, ← e1]; exact K.1, ?_⟩
  intro g p l e s m args below meth c ad0 n0 c0 s0 mc ms C ad H locs ls cells slots A
  obtain ⟨a1, a2, a3, a4, a5, a6, a7, a8, a9, a10⟩ := A
  have h4r := h4
  obtain ⟨h4, hkn⟩ := a7.1.ge hk
  have hset := kr_ws_set (g := g) (ad := ad) e1 e4 h4r h4 hkn (e5 g ad)
  refine f g p l e _ s m args below meth c H locs cells slots _ ls ad C.1 C.2.1 C.2.2.2.2.1 C.2.2.2.2.2.1 C.2.2.2.2.2.2.2.2.2.2 a7 a8 (kr_ws_at h4 hkn h4r) (fun H1 locs1 hP1 hD1 hS1 => ?_)
  rw [← hset] at hP1 hD1
  exact K.2 g p l e s m args below meth c ad0 n0 c0 s0 mc ms C ad H1 locs1 ls cells slots ⟨a1.trans e2.symm, a2.trans e3.symm, a3, a4, by rw [e1]; exact a5, a6, ⟨e7 g a7.1, a7.2.1, hP1, hD1⟩, hS1, a9, by rw [e1]; exact V a10⟩
theorem r_iaload {x : Option Nat} {i v : Int32} (h : aI S 40 x i = some v) (hd : decode (mC M) pc = .ok (.iaload, 1)) (K : kr_AW M d (pc + 1) lv (.int v :: st) S r) : kr_AW M d pc lv (.int i :: va_rf x :: st) S r := by
  cases x with
  | none => cases h
  | some k =>
    simp only [aI, Option.bind_some] at h
    split at h
    · next hk =>
      cases h
      refine kr_rd K (fun g hok hv => kr_va_cons trivial (kr_va_tl (kr_va_tl hv))) (fun g p l e R s m args below meth c H locs cells slots Q ls ad hx hb ho ht hB hW hS kk => ?_)
      obtain ⟨h4, hkn⟩ := hW.1.ge (k := k) (by omega)
      exact va_iald hx hb hB.2.1 hW.2.2.1 (ix S k) 0 (by rw [kr_ws_at h4 hkn (by omega), kr_ai hk.1 (Or.inl rfl)]) (kr_tys_at (by decide)) (kr_in_vp hk.2) hd kk
    · cases h
theorem kr_aaC {κ : Nat} {C : String} {x : Option Nat} {i : Int32} {v : Option Nat} (hκ : 43 ≤ κ ∧ κ < 46) (hC : kr_aT (κ - 40) = .object C) (h : aR S κ x i = some v) (hd : decode (mC M) pc = .ok (.aaload, 1)) (K : kr_AW M d (pc + 1) lv (va_rf v :: st) S r) : kr_AW M d pc lv (.int i :: va_rf x :: st) S r := by
  cases x with
  | none => cases h
  | some k =>
    simp only [aR, Option.bind_some] at h
    split at h
    · next hk =>
      cases h
      refine kr_rd K (fun g hok hv => kr_va_cons ?_ (kr_va_tl (kr_va_tl hv))) (fun g p l e R s m args below meth c H locs cells slots Q ls ad hx hb ho ht hB hW hS kk => ?_)
      · cases hq : sR S k i.toNatClampNeg with
        | none => trivial
        | some a => exact hok.2.2.2.2.2.2 _ _ a hq
      · obtain ⟨h4, hkn⟩ := hW.1.ge (k := k) (by omega)
        have ht0 : (kr_tys g)[κ - 40]? = some (gA g (κ - 40), .object C) := by rw [kr_tys_at (by omega), hC]
        refine va_aldq hx hb hB.2.1 hW.2.2.1 (ix S k) (κ - 40) (by rw [kr_ws_at h4 hkn (by omega), kr_ar hk.1 hκ]) ht0 (kr_in_vp hk.2) hd ?_
        rw [List.map_cons, kr_rf] at kk
        exact kk
    · cases h
theorem r_aaload {κ : Nat} {x : Option Nat} {i : Int32} {v : Option Nat} (hκ : κ = 43 ∨ κ = 44 ∨ κ = 45) (h : aR S κ x i = some v) (hd : decode (mC M) pc = .ok (.aaload, 1)) (K : kr_AW M d (pc + 1) lv (va_rf v :: st) S r) : kr_AW M d pc lv (.int i :: va_rf x :: st) S r := by
  rcases hκ with rfl | rfl | rfl
  · exact kr_aaC (by decide) rfl h hd K
  · exact kr_aaC (by decide) rfl h hd K
  · exact kr_aaC (by decide) rfl h hd K
/-- the weights, the script -/
theorem kr_sp {g : GG} (hok : kr_ok g S) {k κ : Nat} (hk : sK S k = κ) (h1 : 1 ≤ κ) (h2 : κ < 5) : k = κ - 1 := by
  obtain ⟨n1, n2, n3, ⟨e0, e1, e2, e3⟩, -⟩ := hok
  rcases Nat.lt_or_ge k 4 with q | q
  · rcases (show k = 0 ∨ k = 1 ∨ k = 2 ∨ k = 3 by omega) with rfl | rfl | rfl | rfl <;> omega
  · rcases Nat.lt_or_ge k (sN S) with q2 | q2
    · have h9 : (10 ≤ sK S k ∧ sK S k < 10 + kr_nC) ∨ (40 ≤ sK S k ∧ sK S k < 46) := (n3 k q q2).resolve_right (by omega)
      omega
    · have := n2 k q2
      omega
theorem r_wload {x : Option Nat} {i v : Int32} (h : aI S 2 x i = some v) (hd : decode (mC M) pc = .ok (.iaload, 1)) (K : kr_AW M d (pc + 1) lv (.int v :: st) S r) : kr_AW M d pc lv (.int i :: va_rf x :: st) S r := by
  cases x with
  | none => cases h
  | some k =>
    simp only [aI, Option.bind_some] at h
    split at h
    · next hk =>
      cases h
      refine kr_rd K (fun g hok hv => kr_va_cons trivial (kr_va_tl (kr_va_tl hv))) (fun g p l e R s m args below meth c H locs cells slots Q ls ad hx hb ho ht hB hW hS kk => ?_)
      have hk1 : k = 1 := kr_sp hW.1 hk.1 (by decide) (by decide)
      subst hk1
      obtain ⟨-, -, -, -, -, -, -, hT, -⟩ := hB
      have e1 : ad 1 = gP g 1 := hW.2.1 1 (by decide)
      have hl3 : sL S 1 = 3 := hW.1.2.2.2.2.1.2
      have hin : vp_in i 3 := kr_in_vp (by rw [← hl3]; exact hk.2)
      obtain ⟨j, hj, ej⟩ := vp_in_of hin (by decide)
      have hv : kr_wt i.toNatClampNeg = sI S 1 i.toNatClampNeg := by
        rw [ej, nI_clamp (by omega)]
        exact (hW.1.2.2.2.2.2.1 j hj).symm
      show W p l e R s m args below meth c H locs cells slots Q (F0 m pc ls (.int i :: .ref (ad 1) :: st.map (cv ad)))
      rw [e1]
      exact va_ti hx hb hT hS hin (congrArg Value.int hv) hd kk
    · cases h
theorem r_sload {X : Nat → Int32} {L : Nat} {i v : Int32} (hX : mX M = some (X, L)) (h : kr_sx X L i = some v) (hd : decode (mC M) pc = .ok (.iaload, 1)) (K : kr_AW M d (pc + 1) lv (.int v :: st) S r) : kr_AW M d pc lv (.int i :: va_rf (some 2) :: st) S r := by
  unfold kr_sx at h
  split at h
  · next hk =>
    cases h
    refine ⟨K.1, ?_⟩
    intro g p l e s m args below meth c ad0 n0 c0 s0 mc ms C ad H locs ls cells slots A
    obtain ⟨a1, a2, a3, a4, a5, a6, a7, a8, a9, a10⟩ := A
    have C' := C
    obtain ⟨hx, hb, hml, hrt, ho, ht, hlocks, hst, htab, hnm, hB⟩ := C
    obtain ⟨h0, -, -, -, -, -, -, -, hSX, hlt, -⟩ := hB
    obtain ⟨eX, eL⟩ := hnm.2 X L hX
    have kk := K.2 g p l e s m args below meth c ad0 n0 c0 s0 mc ms C' ad H locs ls cells slots ⟨a1, a2, a3, a4, a5, a6, a7, a8, a9, kr_va_cons trivial (kr_va_tl (kr_va_tl a10))⟩
    show W p l e _ s m args below meth c H locs cells slots _ (F0 m pc ls (.int i :: .ref (ad 2) :: st.map (cv ad)))
    rw [a7.2.1 2 (by decide)]
    rw [← eX] at kk
    exact va_sld hx hb hSX (Nat.lt_of_lt_of_le hlt h0) (Nat.not_le.mpr hlt) a8 (kr_in_vp (by rw [eL]; exact hk)) hd kk
  · cases h
theorem r_slen {X : Nat → Int32} {L : Nat} (hX : mX M = some (X, L)) (hd : decode (mC M) pc = .ok (.arraylength, 1)) (K : kr_AW M d (pc + 1) lv (.int (Int32.ofNat L) :: st) S r) : kr_AW M d pc lv (va_rf (some 2) :: st) S r := by
  refine ⟨K.1, ?_⟩
  intro g p l e s m args below meth c ad0 n0 c0 s0 mc ms C ad H locs ls cells slots A
  obtain ⟨a1, a2, a3, a4, a5, a6, a7, a8, a9, a10⟩ := A
  have C' := C
  obtain ⟨hx, hb, hml, hrt, ho, ht, hlocks, hst, htab, hnm, hB⟩ := C
  obtain ⟨h0, -, -, -, -, -, -, -, hSX, hlt, -⟩ := hB
  obtain ⟨eX, eL⟩ := hnm.2 X L hX
  have kk := K.2 g p l e s m args below meth c ad0 n0 c0 s0 mc ms C' ad H locs ls cells slots ⟨a1, a2, a3, a4, a5, a6, a7, a8, a9, kr_va_cons trivial (kr_va_tl a10)⟩
  show W p l e _ s m args below meth c H locs cells slots _ (F0 m pc ls (.ref (ad 2) :: st.map (cv ad)))
  rw [a7.2.1 2 (by decide)]
  rw [← eL] at kk
  exact va_slen hx hb hSX (Nat.lt_of_lt_of_le hlt h0) (Nat.not_le.mpr hlt) a8 hd kk
theorem r_alen {x : Option Nat} {v : Int32} (h : aN S x = some v) (hd : decode (mC M) pc = .ok (.arraylength, 1)) (K : kr_AW M d (pc + 1) lv (.int v :: st) S r) : kr_AW M d pc lv (va_rf x :: st) S r := by
  cases x with
  | none => cases h
  | some k =>
    simp only [aN, Option.bind_some] at h
    split at h
    · next hk =>
      cases h
      refine kr_rd K (fun g hok hv => kr_va_cons trivial (kr_va_tl hv)) (fun g p l e R s m args below meth c H locs cells slots Q ls ad hx hb ho ht hB hW hS kk => ?_)
      rcases hk with hk | hk
      · obtain ⟨h4, hkn⟩ := hW.1.ge (k := k) (by omega)
        have h9 : (10 ≤ sK S k ∧ sK S k < 10 + kr_nC) ∨ (40 ≤ sK S k ∧ sK S k < 46) := (hW.1.2.2.1 k h4 hkn).resolve_right (by omega)
        have h6 : sK S k < 46 := by
          rcases h9 with q | q
          · exact absurd q.2 (Nat.not_lt.mpr (Nat.le_trans (by decide) hk.1))
          · exact q.2
        have ht0 : (kr_tys g)[sK S k - 40]? = some (gA g (sK S k - 40), kr_aT (sK S k - 40)) := kr_tys_at (by omega)
        rcases (show sK S k = 40 ∨ sK S k = 41 ∨ sK S k = 42 ∨ (43 ≤ sK S k ∧ sK S k < 46) by omega) with q | q | q | q
        · have ha := (kr_ws_at (g := g) (ad := ad) h4 hkn (by omega)).trans (by rw [kr_ai rfl (Or.inl q)])
          exact va_alen hx hb hB.2.1 hW.2.2.1 (ix S k) (sK S k - 40) ha ht0 rfl hd kk
        · have ha := (kr_ws_at (g := g) (ad := ad) h4 hkn (by omega)).trans (by rw [kr_ai rfl (Or.inr q)])
          exact va_alen hx hb hB.2.1 hW.2.2.1 (ix S k) (sK S k - 40) ha ht0 rfl hd kk
        · rw [q] at ht0
          have ha := (kr_ws_at (g := g) (ad := ad) h4 hkn (by omega)).trans (by rw [kr_aj q])
          exact va_alen hx hb hB.2.1 hW.2.2.1 (ix S k) 2 ha ht0 rfl hd kk
        · have ha := (kr_ws_at (g := g) (ad := ad) h4 hkn (by omega)).trans (by rw [kr_ar rfl q])
          exact va_alen hx hb hB.2.1 hW.2.2.1 (ix S k) (sK S k - 40) ha ht0 rfl hd kk
      · have hk1 : k = 0 := kr_sp hW.1 hk (by decide) (by decide)
        subst hk1
        obtain ⟨-, -, -, -, -, hT, -⟩ := hB
        show W p l e R s m args below meth c H locs cells slots Q (F0 m pc ls (.ref (ad 0) :: st.map (cv ad)))
        rw [hW.2.1 0 (by decide)]
        exact va_tlen hx hb hT hS (by rw [hW.1.2.2.2.2.1.1]) hd kk
    · cases h
theorem kr_u_row {α : Type} {f : Nat → Nat → α} {k j : Nat} {v : α} : kr_u f k j v k = fun b => if b = j then v else f k b := by
  funext b
  simp [kr_u]
theorem r_iastore {x : Option Nat} {i v : Int32} {S1 : AS} (h : bI S x i v = some S1) (hd : decode (mC M) pc = .ok (.iastore, 1)) (K : kr_AW M d (pc + 1) lv st S1 r) : kr_AW M d pc lv (.int v :: .int i :: va_rf x :: st) S r := by
  cases x with
  | none => cases h
  | some k =>
    simp only [bI, Option.bind_some] at h
    split at h
    · next hk =>
      cases h
      refine kr_wr (k := k) K (by omega) rfl rfl rfl rfl (fun g ad k' h => kr_wI_cE h) (fun g hok => kr_wI_ok hok (hok.ge (by omega)).1) (by omega) (fun hv => kr_va_tl (kr_va_tl (kr_va_tl hv))) (fun g p l e R s m args below meth c H locs cells slots Q ls ad hx hb ho ht hB hW hS he kk => ?_)
      rw [kr_ai (S := wI S k i.toNatClampNeg v) (κ := 40) hk.1 (Or.inl rfl)] at kk
      exact va_iast hx hb hB.2.1 hW.2.2.1 hW.2.2.2 hS (ix S k) 0 (he.trans (by rw [kr_ai hk.1 (Or.inl rfl)])) (kr_tys_at (by decide)) (kr_in_vp hk.2) hd (fun H1 locs1 hP1 hD1 hS1 => kk H1 locs1 (by rw [show sI (wI S k i.toNatClampNeg v) k = upd (sI S k) i.toNatClampNeg v from kr_u_row]; exact hP1) (by rw [show sI (wI S k i.toNatClampNeg v) k = upd (sI S k) i.toNatClampNeg v from kr_u_row]; exact hD1) hS1)
    · cases h
theorem kr_anyC {g : GG} {ad : Nat → Nat} {s : State} {H : Heap} {a : Nat} {E : String} (hB : Bs g s s.heap) (hW : Wd g ad S H) (ha : 10 ≤ sK S a ∧ sK S a < 10 + kr_nC) (hE : Cond.castable (kr_cC (sK S a - 10)) E ∈ kr_NB ∨ kr_cC (sK S a - 10) = E) : va_Any E s H (ad a) := by
  obtain ⟨h4, hkn⟩ := hW.1.ge ha.1
  have hc : sK S a - 10 < kr_nC := by omega
  refine va_rAny hB.2.1 hW.2.2.1 (q0 := ix S a) (by rw [kr_ws_at h4 hkn (Or.inl (Nat.lt_of_lt_of_le ha.2 (by decide))), kr_obj rfl ha]) (kr_cl_at hc) ?_
  rcases hE with hE | hE
  · exact vb_asgC (hB.2.2.1 _ hE)
  · rw [← hE]
    exact vb_asgS
theorem kr_aastC {κ lo hi : Nat} {E : String} {x : Option Nat} {i : Int32} {v : Option Nat} {S1 : AS} (hκ : 43 ≤ κ ∧ κ < 46) (hC : kr_aT (κ - 40) = .object E) (hlh : 10 ≤ lo ∧ hi < 10 + kr_nC) (hE : ∀ c, lo ≤ c → c ≤ hi → Cond.castable (kr_cC (c - 10)) E ∈ kr_NB ∨ kr_cC (c - 10) = E) (h : bR S κ lo hi x i v = some S1) (hd : decode (mC M) pc = .ok (.aastore, 1)) (K : kr_AW M d (pc + 1) lv st S1 r) : kr_AW M d pc lv (va_rf v :: .int i :: va_rf x :: st) S r := by
  cases x with
  | none => cases h
  | some k =>
    cases v with
    | none => cases h
    | some a =>
      simp only [bR, Option.bind_some] at h
      split at h
      · next hk =>
        cases h
        obtain ⟨hk1, hk2, hk3⟩ := hk
        refine kr_wr (k := k) K (by omega) rfl rfl rfl rfl (fun g ad k' h => kr_wR_cE h) (fun g hok => kr_wR_ok hok (fun a' ha' => by cases ha'; exact hok.lt (by omega))) (by omega) (fun hv => kr_va_tl (kr_va_tl (kr_va_tl hv))) (fun g p l e R s m args below meth c H locs cells slots Q ls ad hx hb ho ht hB hW hS he kk => ?_)
        rw [kr_ar (S := wR S k i.toNatClampNeg (some a)) (κ := κ) hk1 hκ] at kk
        have er : (fun j => (sR (wR S k i.toNatClampNeg (some a)) k j).map ad) = va_up (fun j => (sR S k j).map ad) i.toNatClampNeg (some (ad a)) := by
          funext j
          rw [show sR (wR S k i.toNatClampNeg (some a)) k = fun b => if b = i.toNatClampNeg then some a else sR S k b from kr_u_row]
          simp only [va_up]
          split <;> rfl
        have ht0 : (kr_tys g)[κ - 40]? = some (gA g (κ - 40), .object E) := by rw [kr_tys_at (by omega), hC]
        exact va_astqM hx hb hB.2.1 hW.2.2.1 hW.2.2.2 hS (ix S k) (κ - 40) (he.trans (by rw [kr_ar hk1 hκ])) ht0 (kr_anyC hB hW ⟨by omega, by omega⟩ (hE _ hk3.1 hk3.2)) (kr_in_vp hk2) hd (fun H1 locs1 hP1 hD1 hS1 => kk H1 locs1 (by rw [er]; exact hP1) (by rw [er]; exact hD1) hS1)
      · cases h
/-- into an Object[]: any object of the run's own -/
theorem r_aastoreO {x : Option Nat} {i : Int32} {v : Option Nat} {S1 : AS} (h : bR S 43 10 (9 + kr_nC) x i v = some S1) (hd : decode (mC M) pc = .ok (.aastore, 1)) (K : kr_AW M d (pc + 1) lv st S1 r) : kr_AW M d pc lv (va_rf v :: .int i :: va_rf x :: st) S r :=
  kr_aastC (by decide) rfl (by decide) (fun c h1 h2 => Or.inl (kr_obC _ (by have : kr_nC = 13 := rfl; omega))) h hd K
theorem r_aastoreK {κ c : Nat} {x : Option Nat} {i : Int32} {v : Option Nat} {S1 : AS} (hκ : 44 ≤ κ ∧ κ < 46) (hc : 10 ≤ c ∧ c < 10 + kr_nC) (hC : kr_aT (κ - 40) = .object (kr_cC (c - 10))) (h : bR S κ c c x i v = some S1) (hd : decode (mC M) pc = .ok (.aastore, 1)) (K : kr_AW M d (pc + 1) lv st S1 r) : kr_AW M d pc lv (va_rf v :: .int i :: va_rf x :: st) S r :=
  kr_aastC ⟨by omega, hκ.2⟩ hC hc (fun c' h1 h2 => by have : c' = c := by omega
                                                      subst this; exact Or.inr rfl) h hd K
end KR
