theorem kr_w_ne {α : Type} {f : Nat → α} {k : Nat} {v : α} {a : Nat} (h : a ≠ k) : kr_w f k v a = f a := by simp [kr_w, h]
theorem kr_w_eq {α : Type} {f : Nat → α} {k : Nat} {v : α} : kr_w f k v k = v := by simp [kr_w]
theorem kr_df : ∀ c, c < kr_nC → ∀ j, j < kr_cN c → defaultValue (kr_cY c j) = if kr_isR (kr_cY c j) = true then Value.null else Value.int 0 := by decide +kernel
theorem kr_mapw {ad : Nat → Nat} {n q : Nat} {x : Option Nat} (h : ∀ a, x = some a → a < n) : x.map (kr_w ad n q) = x.map ad := by
  cases x with
  | none => rfl
  | some a => simp only [Option.map_some, kr_w_ne (Nat.ne_of_lt (h a rfl))]
theorem kr_wN_cE {g : GG} {ad : Nat → Nat} {S : AS} {κ len sl q k : Nat} (hok : kr_ok g S) (hk : k < sN S) : kr_cE g (kr_w ad (sN S) q) (wN S κ len sl) k = kr_cE g ad S k := by
  have hne : k ≠ sN S := Nat.ne_of_lt hk
  have e1 : sK (wN S κ len sl) k = sK S k := kr_w_ne hne
  have e2 : sL (wN S κ len sl) k = sL S k := kr_w_ne hne
  have e3 : sI (wN S κ len sl) k = sI S k := kr_w_ne hne
  have e4 : sR (wN S κ len sl) k = sR S k := kr_w_ne hne
  have e5 : sJ (wN S κ len sl) k = sJ S k := kr_w_ne hne
  have e6 : ∀ j, (sR S k j).map (kr_w ad (sN S) q) = (sR S k j).map ad := fun j => kr_mapw (fun a ha => hok.2.2.2.2.2.2 k j a ha)
  simp only [kr_cE, kr_oL, kr_oV, e1, e2, e3, e4, e5, e6]
theorem kr_wN_ws {g : GG} {ad : Nat → Nat} {S : AS} {κ len sl q : Nat} (hok : kr_ok g S) (hκ : κ < 39 ∨ (40 ≤ κ ∧ κ < 46)) : kr_ws g (kr_w ad (sN S) q) (wN S κ len sl) = kr_ws g ad S ++ [(q, kr_cE g (kr_w ad (sN S) q) (wN S κ len sl) (sN S))] := by
  have h4 := hok.1
  have e : sN (wN S κ len sl) - 4 = (sN S - 4) + 1 := by show sN S + 1 - 4 = _; omega
  have e2 : sN S - 4 + 4 = sN S := by omega
  have ek : ∀ a, a ≠ sN S → sK (wN S κ len sl) a = sK S a := fun a h => kr_w_ne h
  have f1 : (List.range (sN S - 4)).filter (kr_rl (wN S κ len sl)) = (List.range (sN S - 4)).filter (kr_rl S) := List.filter_congr (fun i hi => by
    have := List.mem_range.mp hi
    unfold kr_rl
    rw [ek (i + 4) (by omega)])
  have f2 : kr_rl (wN S κ len sl) (sN S - 4) = true := by
    unfold kr_rl
    rw [e2, show sK (wN S κ len sl) (sN S) = κ from kr_w_eq]
    exact decide_eq_true hκ
  unfold kr_ws
  rw [e, List.range_succ, List.filter_append, f1, List.filter_cons_of_pos f2, List.filter_nil, List.map_append]
  refine congr (congrArg _ (List.map_congr_left fun i hi => ?_)) ?_
  · have hlt : i + 4 < sN S := by have := List.mem_range.mp (List.mem_filter.mp hi).1; omega
    rw [kr_wN_cE hok hlt, kr_w_ne (Nat.ne_of_lt hlt)]
  · simp only [List.map_cons, List.map_nil, e2, kr_w_eq]
theorem kr_own_lt {κ : Nat} (h : kr_own κ) : κ < 39 ∨ (40 ≤ κ ∧ κ < 46) := h.elim (fun q => Or.inl (Nat.lt_of_lt_of_le q.2 (by decide))) Or.inr
theorem kr_wN_ok {g : GG} {S : AS} {κ len sl : Nat} (hok : kr_ok g S) (hκ : kr_own κ) : kr_ok g (wN S κ len sl) := by
  obtain ⟨h1, h2, h3, ⟨k0, k1, k2, k3⟩, ⟨l0, l1⟩, hw, hr⟩ := hok
  have ne : ∀ a, a < 4 → a ≠ sN S := fun a ha => by omega
  have eK : ∀ a, a ≠ sN S → sK (wN S κ len sl) a = sK S a := fun a h => kr_w_ne h
  have eL : ∀ a, a ≠ sN S → sL (wN S κ len sl) a = sL S a := fun a h => kr_w_ne h
  have eI : ∀ a, a ≠ sN S → sI (wN S κ len sl) a = sI S a := fun a h => kr_w_ne h
  refine ⟨Nat.le_succ_of_le h1, fun k hk => ?_, fun k h4 hk => ?_, ⟨?_, ?_, ?_, ?_⟩, ⟨?_, ?_⟩, fun j hj => ?_, fun k j a h => ?_⟩
  · have hk' : sN S + 1 ≤ k := hk
    rw [eK k (by omega)]
    exact h2 k (by omega)
  · have hk' : k < sN S + 1 := hk
    by_cases q : k = sN S
    · subst q
      rw [show sK (wN S κ len sl) (sN S) = κ from kr_w_eq]
      exact Or.inl hκ
    · rw [eK k q]
      exact h3 k h4 (by omega)
  · rw [eK 0 (ne 0 (by decide))]; exact k0
  · rw [eK 1 (ne 1 (by decide))]; exact k1
  · rw [eK 2 (ne 2 (by decide))]; exact k2
  · rw [eK 3 (ne 3 (by decide))]; exact k3
  · rw [eL 0 (ne 0 (by decide))]; exact l0
  · rw [eL 1 (ne 1 (by decide))]; exact l1
  · rw [eI 1 (ne 1 (by decide))]; exact hw j hj
  · show a < sN S + 1
    by_cases q : k = sN S
    · subst q
      rw [show sR (wN S κ len sl) (sN S) = fun _ => none from kr_w_eq] at h
      cases h
    · rw [show sR (wN S κ len sl) k = sR S k from kr_w_ne q] at h
      have := hr k j a h
      omega
theorem kr_cvw {ad : Nat → Nat} {n q : Nat} {v : Value} (h : kr_vl n v) : cv (kr_w ad n q) v = cv ad v := by
  cases v <;> first | rfl | exact congrArg Value.ref (kr_w_ne (Nat.ne_of_lt h))
theorem kr_lvw {ad : Nat → Nat} {n q : Nat} {lv : List (Nat × Value)} {st : List Value} (h : kr_va n lv st) : lv.map (fun z => (z.1, cv (kr_w ad n q) z.2)) = lv.map (fun z => (z.1, cv ad z.2)) := List.map_congr_left fun z hz => by rw [kr_cvw (h.1 z hz)]
theorem kr_stw {ad : Nat → Nat} {n q : Nat} {lv : List (Nat × Value)} {st : List Value} (h : kr_va n lv st) : st.map (cv (kr_w ad n q)) = st.map (cv ad) := List.map_congr_left fun z hz => kr_cvw (h.2 z hz)
section KR
variable {M : MM} {d pc : Nat} {lv : List (Nat × Value)} {st : List Value} {S : AS} {r : AR}
/-- a step that makes a cell -/
theorem kr_mk {pc' κ len sl : Nat} {st0 : List Value} (hκ : kr_own κ) (K : kr_AW M d pc' lv (.ref (sN S) :: st) (wN S κ len sl) r) (hst : kr_va (sN S) lv st0 → kr_va (sN S) lv st)
    (f : ∀ (g : GG) (p : Program) (l : Launch) (e : Env) (R : Room) (s : State) (m : MethodId) (args : Array Value) (below : List Frame) (meth : Method) (c : Code) (H : Heap) (locs : List Loc) (cells slots : Nat) (Q : State → Prop) (ls : Array Slot) (ad : Nat → Nat),
      p.tables.exec = Jvm.exec → c.code = mC M → s.vm.findClass (mO M) = some m.cls → (∀ w ∈ kr_TB, w.before args s = true) → Bs g s s.heap → Wd g ad S H → va_S (kr_fr g) s.heap H locs → cells + 1 ≤ R.cells → slots + sl ≤ R.slots →
      (∀ (q : Nat) (H1 : Heap), va_P (gD g) kr_cl (kr_ws g ad S ++ [(q, kr_cE g (kr_w ad (sN S) q) (wN S κ len sl) (sN S))]) H1 → va_D (kr_fr g) (kr_ws g ad S ++ [(q, kr_cE g (kr_w ad (sN S) q) (wN S κ len sl) (sN S))]) → va_S (kr_fr g) s.heap H1 locs → W p l e R s m args below meth c H1 locs (cells + 1) (slots + sl) Q (F0 m pc' ls (.ref q :: st.map (cv ad)))) →
      W p l e R s m args below meth c H locs cells slots Q (F0 m pc ls (st0.map (cv ad)))) : kr_AW M d pc lv st0 S r := by
  have hC : sC S + 1 ≤ sC r.2 := K.1.1
  have hS : sS S + sl ≤ sS r.2 := K.1.2.1
  have hN : sN S + 1 ≤ sN r.2 := K.1.2.2
  refine ⟨⟨by omega, by omega, by omega⟩, ?_⟩
  intro g p l e s m args below meth c ad0 n0 c0 s0 mc ms C ad H locs ls cells slots A
  obtain ⟨a1, a2, a3, a4, a5, a6, a7, a8, a9, a10⟩ := A
  have a11 := hst a10
  refine f g p l e _ s m args below meth c H locs cells slots _ ls ad C.1 C.2.1 C.2.2.2.2.1 C.2.2.2.2.2.1 C.2.2.2.2.2.2.2.2.2.2 a7 a8 (show cells + 1 ≤ mc by omega) (show slots + sl ≤ ms by omega) (fun q H1 hP1 hD1 hS1 => ?_)
  have kk := K.2 g p l e s m args below meth c ad0 n0 c0 s0 mc ms C (kr_w ad (sN S) q) H1 locs ls (cells + 1) (slots + sl) ⟨by show c0 + (cells + 1) = sC S + 1; omega, by show s0 + (slots + sl) = sS S + sl; omega, a3, a4, Nat.le_succ_of_le a5, fun k hk => (kr_w_ne (Nat.ne_of_lt (Nat.lt_of_lt_of_le hk a5))).trans (a6 k hk), ⟨kr_wN_ok a7.1 hκ, fun i hi => (kr_w_ne (Nat.ne_of_lt (Nat.lt_of_lt_of_le hi a7.1.1))).trans (a7.2.1 i hi), by rw [kr_wN_ws a7.1 (kr_own_lt hκ)]; exact hP1, by rw [kr_wN_ws a7.1 (kr_own_lt hκ)]; exact hD1⟩, hS1, by rw [kr_lvw a11]; exact a9, kr_va_cons (Nat.lt_succ_self _) (kr_va_mono (Nat.le_succ _) a11)⟩
  rw [List.map_cons, kr_stw a11, show cv (kr_w ad (sN S) q) (.ref (sN S)) = .ref q from congrArg Value.ref kr_w_eq] at kk
  exact kk
theorem r_new {κ i : Nat} (hκ : 10 ≤ κ ∧ κ < 10 + kr_nC) (hw : Cond.classLink (mO M) i (kr_cC (κ - 10)) ∈ kr_TB) (hi : Cond.instantiable (kr_cC (κ - 10)) (kr_cN (κ - 10)) ∈ kr_TB) (hini : Cond.initialized (kr_cC (κ - 10)) ∈ kr_TB) (hd : decode (mC M) pc = .ok (.new i, 3)) (K : kr_AW M d (pc + 3) lv (va_rf (some (sN S)) :: st) (wN S κ 0 (kr_cN (κ - 10))) r) : kr_AW M d pc lv st S r := by
  have hc : κ - 10 < kr_nC := by omega
  refine kr_mk (Or.inl hκ) K (fun h => h) (fun g p l e R s m args below meth c H locs cells slots Q ls ad hx hb ho ht hB hW hS hc1 hs1 kk => ?_)
  have ek : ∀ q, kr_cE g (kr_w ad (sN S) q) (wN S κ 0 (kr_cN (κ - 10))) (sN S) = .inr (κ - 10, (List.range (kr_cN (κ - 10))).map (fun j => if kr_isR (kr_cY (κ - 10) j) = true then Value.null else Value.int 0)) := fun q => by
    rw [kr_obj (show sK (wN S κ 0 (kr_cN (κ - 10))) (sN S) = κ from kr_w_eq) hκ]
    simp only [kr_oL, kr_oV, show sR (wN S κ 0 (kr_cN (κ - 10))) (sN S) = fun _ => none from kr_w_eq, show sI (wN S κ 0 (kr_cN (κ - 10))) (sN S) = fun _ => 0 from kr_w_eq]
    rfl
  simp only [ek] at kk
  exact va_new hx hb ht (kr_in _ hc) _ (kr_ty _ hc) ho (ht _ hw) (ht _ hi) (ht _ hini) hB.2.1 hW.2.2.1 hW.2.2.2 hS (fun q h => Nat.le_trans hB.1 h) (kr_cl_at hc) (fun j hj => by rw [kr_df _ hc j hj]; simp [vp_V, hj]) hc1 hs1 hd kk
theorem kr_nAb {n : Int32} (h : 0 ≤ n.toInt ∧ n.toInt ≤ 100000) : ¬ n < 0 ∧ n.toNatClampNeg ≤ 100000 := by
  refine ⟨fun q => ?_, ?_⟩
  · have := Int32.lt_iff_toInt_lt.mp q
    have e0 : (0 : Int32).toInt = 0 := rfl
    omega
  · have e : n.toNatClampNeg = n.toInt.toNat := rfl
    omega
theorem kr_RA {s : State} {a b : ClassId} {ty : FieldType} (h1 : va_RA s a ty) (h2 : va_RA s b ty) : a = b := by
  cases ty <;> first
    | exact Option.some.inj (h1.symm.trans h2)
    | (obtain ⟨_, _, _, _, _, e1⟩ := h1; obtain ⟨_, _, _, _, _, e2⟩ := h2; exact Option.some.inj (e1.symm.trans e2))
/-- newarray of ints, booleans, longs -/
theorem kr_naC {κ t : Nat} {ty : FieldType} {aty : ArrayType} {a0 : Nat → vp_A} {n : Int32} {S1 : AS} (hκ : 40 ≤ κ ∧ κ < 43) (htκ : κ = 40 + t) (hT : kr_aT t = ty) (hty : newarray.typeOf aty = ty) (hw : Cond.arrayClass ty ∈ kr_TB) (hcb : componentBytes ty ≤ 8)
    (ha0 : ∀ (N : Nat) (cA : ClassId), vp_cell cA (a0 N) = arrV cA N (fun _ => defaultValue ty)) (he : ∀ (g : GG) (ad : Nat → Nat) (S : AS) (k N : Nat), sK S k = κ → sL S k = N → sI S k = (fun _ => 0) → sJ S k = (fun _ => 0) → kr_cE g ad S k = .inl (gA g t, a0 N))
    (h : nA S κ n = some S1) (hd : decode (mC M) pc = .ok (.newarray aty, 2)) (K : kr_AW M d (pc + 2) lv (va_rf (some (sN S)) :: st) S1 r) : kr_AW M d pc lv (.int n :: st) S r := by
  unfold nA at h
  split at h
  · next hn =>
    cases h
    obtain ⟨hn0, hnb⟩ := kr_nAb hn
    refine kr_mk (Or.inr ⟨hκ.1, by omega⟩) K kr_va_tl (fun g p l e R s m args below meth c H locs cells slots Q ls ad hx hb ho ht hB hW hS hc1 hs1 kk => ?_)
    have ek : ∀ q, kr_cE g (kr_w ad (sN S) q) (wN S κ n.toNatClampNeg n.toNatClampNeg) (sN S) = .inl (gA g t, a0 n.toNatClampNeg) := fun q => he g _ _ _ _ kr_w_eq kr_w_eq kr_w_eq kr_w_eq
    simp only [ek] at kk
    refine va_newa hx hb (by rw [hty]; exact ht _ hw) hty hB.2.1 hW.2.2.1 hW.2.2.2 hS (fun q h => Nat.le_trans hB.1 h) (ha0 n.toNatClampNeg) hn0 rfl (Nat.le_trans (Nat.mul_le_mul hnb hcb) (by decide)) hc1 hs1 hd (fun q cA H1 hK1 hP1 hD1 hS1 => ?_)
    have hl : (kr_tys g).length = 6 := by simp [kr_tys]
    have e1 : va_RA s cA ty := (hK1.2 6 (cA, ty) (by rw [List.getElem?_append_right (by omega), hl]; rfl)).2
    have e2 : va_RA s (gA g t) ty := by
      have h2 := (hB.2.1.2 t (gA g t, kr_aT t) (kr_tys_at (by omega))).2
      rw [hT] at h2
      exact h2
    cases kr_RA e1 e2
    exact kk q H1 hP1 hD1 hS1
  · cases h
theorem r_newI {n : Int32} {S1 : AS} (h : nA S 40 n = some S1) (hw : Cond.arrayClass .int ∈ kr_TB) (hd : decode (mC M) pc = .ok (.newarray .int, 2)) (K : kr_AW M d (pc + 2) lv (va_rf (some (sN S)) :: st) S1 r) : kr_AW M d pc lv (.int n :: st) S r :=
  kr_naC (t := 0) (a0 := fun N => (N, .inl (fun _ => 0))) (by decide) rfl rfl rfl hw (by decide) (fun _ _ => rfl) (fun g ad S k N h1 h2 h3 _ => by rw [kr_ai h1 (Or.inl rfl), h2, h3]) h hd K
theorem kr_nqC {κ i : Nat} {C : String} {n : Int32} {S1 : AS} (hκ : 43 ≤ κ ∧ κ < 46) (hT : kr_aT (κ - 40) = .object C) (hAO : ∀ g s, Bs g s s.heap → va_AO C s) (hw : Cond.classLink (mO M) i C ∈ kr_TB)
    (h : nA S κ n = some S1) (hd : decode (mC M) pc = .ok (.anewarray i, 3)) (K : kr_AW M d (pc + 3) lv (va_rf (some (sN S)) :: st) S1 r) : kr_AW M d pc lv (.int n :: st) S r := by
  unfold nA at h
  split at h
  · next hn =>
    cases h
    obtain ⟨hn0, hnb⟩ := kr_nAb hn
    refine kr_mk (Or.inr ⟨by omega, by omega⟩) K kr_va_tl (fun g p l e R s m args below meth c H locs cells slots Q ls ad hx hb ho ht hB hW hS hc1 hs1 kk => ?_)
    have ek : ∀ q, kr_cE g (kr_w ad (sN S) q) (wN S κ n.toNatClampNeg n.toNatClampNeg) (sN S) = .inl (gA g (κ - 40), n.toNatClampNeg, .inr (.inr (.inr (.inr (fun _ => none))))) := fun q => by
      rw [kr_ar (show sK (wN S κ n.toNatClampNeg n.toNatClampNeg) (sN S) = κ from kr_w_eq) hκ, show sL (wN S κ n.toNatClampNeg n.toNatClampNeg) (sN S) = n.toNatClampNeg from kr_w_eq, show sR (wN S κ n.toNatClampNeg n.toNatClampNeg) (sN S) = fun _ => none from kr_w_eq]
      rfl
    simp only [ek] at kk
    refine va_newq hx hb ho (ht _ hw) (hAO g s hB) hB.2.1 hW.2.2.1 hW.2.2.2 hS (fun q h => Nat.le_trans hB.1 h) hn0 rfl (Nat.le_trans (Nat.mul_le_mul_right 4 hnb) (by decide)) hc1 hs1 hd (fun q cA H1 hK1 hP1 hD1 hS1 => ?_)
    have hl : (kr_tys g).length = 6 := by simp [kr_tys]
    have e1 : va_RA s cA (.object C) := (hK1.2 6 (cA, .object C) (by rw [List.getElem?_append_right (by omega), hl]; rfl)).2
    have e2 : va_RA s (gA g (κ - 40)) (.object C) := by
      have h2 := (hB.2.1.2 (κ - 40) (gA g (κ - 40), kr_aT (κ - 40)) (kr_tys_at (by omega))).2
      rw [hT] at h2
      exact h2
    cases kr_RA e1 e2
    exact kk q H1 hP1 hD1 hS1
  · cases h
theorem r_newO {i : Nat} {n : Int32} {S1 : AS} (h : nA S 43 n = some S1) (hw : Cond.classLink (mO M) i "java/lang/Object" ∈ kr_TB) (hd : decode (mC M) pc = .ok (.anewarray i, 3)) (K : kr_AW M d (pc + 3) lv (va_rf (some (sN S)) :: st) S1 r) : kr_AW M d pc lv (.int n :: st) S r :=
  kr_nqC (by decide) rfl (fun g s hB => hB.2.2.2.2.2.2.2.2.2.2.2.1) hw h hd K
theorem r_newP {i : Nat} {n : Int32} {S1 : AS} (h : nA S 44 n = some S1) (hw : Cond.classLink (mO M) i "KeyringCourt$Person" ∈ kr_TB) (hd : decode (mC M) pc = .ok (.anewarray i, 3)) (K : kr_AW M d (pc + 3) lv (va_rf (some (sN S)) :: st) S1 r) : kr_AW M d pc lv (.int n :: st) S r :=
  kr_nqC (by decide) rfl (fun g s hB => hB.2.2.2.2.2.2.2.2.2.2.2.2.1) hw h hd K
theorem r_newV {i : Nat} {n : Int32} {S1 : AS} (h : nA S 45 n = some S1) (hw : Cond.classLink (mO M) i "KeyringCourt$Service" ∈ kr_TB) (hd : decode (mC M) pc = .ok (.anewarray i, 3)) (K : kr_AW M d (pc + 3) lv (va_rf (some (sN S)) :: st) S1 r) : kr_AW M d pc lv (.int n :: st) S r :=
  kr_nqC (by decide) rfl (fun g s hB => hB.2.2.2.2.2.2.2.2.2.2.2.2.2.1) hw h hd K
/-- the two statics -/
theorem r_getD {i : Nat} (hw : Cond.fieldLink (mO M) i kr_ddC kr_ddF kr_ddT ∈ kr_TB) (hd : decode (mC M) pc = .ok (.getstatic i, 3)) (K : kr_AW M d (pc + 3) lv (va_rf (some 0) :: st) S r) : kr_AW M d pc lv st S r :=
  kr_rd K (fun g hok hv => kr_va_cons (Nat.lt_of_lt_of_le (by decide) hok.1) hv) (fun g p l e R s m args below meth c H locs cells slots Q ls ad hx hb ho ht hB hW hS kk => by
    have kk2 : W p l e R s m args below meth c H locs cells slots Q (F0 m (pc + 3) ls (.ref (ad 0) :: st.map (cv ad))) := kk
    rw [hW.2.1 0 (by decide)] at kk2
    exact va_gets hx hb hB.2.2.2.2.1 hS ho (ht _ hw) (fun _ h => h) hd kk2)
theorem r_getW {i : Nat} (hw : Cond.fieldLink (mO M) i "KeyringCourt$Shown" "WEIGHTS" "[I" ∈ kr_TB) (hd : decode (mC M) pc = .ok (.getstatic i, 3)) (K : kr_AW M d (pc + 3) lv (va_rf (some 1) :: st) S r) : kr_AW M d pc lv st S r :=
  kr_rd K (fun g hok hv => kr_va_cons (Nat.lt_of_lt_of_le (by decide) hok.1) hv) (fun g p l e R s m args below meth c H locs cells slots Q ls ad hx hb ho ht hB hW hS kk => by
    have kk2 : W p l e R s m args below meth c H locs cells slots Q (F0 m (pc + 3) ls (.ref (ad 1) :: st.map (cv ad))) := kk
    rw [hW.2.1 1 (by decide)] at kk2
    exact va_gets hx hb hB.2.2.2.2.2.2.1 hS ho (ht _ hw) (fun _ h => h) hd kk2)
/-- two places are the same cell just if they are the same -/
theorem kr_inj {g : GG} {ad : Nat → Nat} {H : Heap} (hW : Wd g ad S H) (h0 : gP g 0 < gB g) {a b : Nat} (ha : a < sN S ∧ (a = 0 ∨ (4 ≤ a ∧ (sK S a < 39 ∨ (40 ≤ sK S a ∧ sK S a < 46))))) (hb : b < sN S ∧ (b = 0 ∨ (4 ≤ b ∧ (sK S b < 39 ∨ (40 ≤ sK S b ∧ sK S b < 46))))) : ad a = ad b ↔ a = b := by
  refine ⟨fun e => ?_, fun e => by rw [e]⟩
  have own : ∀ {a : Nat}, a < sN S → (4 ≤ a ∧ (sK S a < 39 ∨ (40 ≤ sK S a ∧ sK S a < 46))) → gB g ≤ ad a := fun h1 h2 => hW.2.2.2.2 _ _ (kr_ws_at (g := g) (ad := ad) h2.1 h1 h2.2)
  have e0 : ad 0 = gP g 0 := hW.2.1 0 (by decide)
  rcases ha with ⟨la, rfl | ha⟩ <;> rcases hb with ⟨lb, rfl | hb⟩
  · rfl
  · have := own lb hb
    omega
  · have := own la ha
    omega
  · exact ix_inj ha.1 la ha.2 hb.1 lb hb.2 (hW.2.2.2.1 _ _ _ _ (kr_ws_at (g := g) (ad := ad) ha.1 la ha.2) (kr_ws_at (g := g) (ad := ad) hb.1 lb hb.2) e)
theorem kr_acO {g : GG} {ad : Nat → Nat} {H : Heap} (hW : Wd g ad S H) (h0 : gP g 0 < gB g) {x y : Option Nat} (hx : kr_ac S x = some ()) (hy : kr_ac S y = some ()) : x.map ad = y.map ad ↔ x = y := by
  refine ⟨fun e => ?_, fun e => by rw [e]⟩
  have key : ∀ {x : Option Nat}, kr_ac S x = some () → ∀ a, x = some a → a < sN S ∧ (a = 0 ∨ (4 ≤ a ∧ (sK S a < 39 ∨ (40 ≤ sK S a ∧ sK S a < 46)))) := by
    intro x hx a ha
    subst ha
    unfold kr_ac at hx
    split at hx
    · next h =>
      simp only [Option.all_some, Bool.and_eq_true, bne_iff_ne, ne_eq, Bool.or_eq_true, beq_iff_eq, decide_eq_true_eq] at h
      exact ⟨hW.1.lt h.1.1, h.1.2.imp id (fun q => ⟨q, h.2⟩)⟩
    · cases hx
  cases x with
  | none =>
    cases y with
    | none => rfl
    | some b => cases e
  | some a =>
    cases y with
    | none => cases e
    | some b => exact congrArg some ((kr_inj hW h0 (key hx a rfl) (key hy b rfl)).mp (Option.some.inj e))
theorem kr_z0 {g : GG} {s : State} (hB : Bs g s s.heap) : gP g 0 < gB g := by
  obtain ⟨-, -, -, -, -, ⟨cell, -, -, -, -, -, -, hn⟩, -⟩ := hB
  exact Nat.not_le.mp hn
theorem kr_ac2 {pc' : Nat} {P : Prop} [Decidable P] {p2 : Nat} {st0 : List Value} (K1 : P → kr_AW M d pc' lv st S r) (K2 : ¬ P → kr_AW M d p2 lv st S r) (V : kr_va (sN S) lv st0 → kr_va (sN S) lv st)
    (f : ∀ (g : GG) (p : Program) (l : Launch) (e : Env) (R : Room) (s : State) (m : MethodId) (args : Array Value) (below : List Frame) (meth : Method) (c : Code) (H : Heap) (locs : List Loc) (cells slots : Nat) (Q : State → Prop) (ls : Array Slot) (ad : Nat → Nat),
      p.tables.exec = Jvm.exec → c.code = mC M → Bs g s s.heap → Wd g ad S H → (P → W p l e R s m args below meth c H locs cells slots Q (F0 m pc' ls (st.map (cv ad)))) → (¬ P → W p l e R s m args below meth c H locs cells slots Q (F0 m p2 ls (st.map (cv ad)))) → W p l e R s m args below meth c H locs cells slots Q (F0 m pc ls (st0.map (cv ad)))) : kr_AW M d pc lv st0 S r := by
  refine ⟨if h : P then (K1 h).1 else (K2 h).1, ?_⟩
  intro g p l e s m args below meth c ad0 n0 c0 s0 mc ms C ad H locs ls cells slots A
  obtain ⟨a1, a2, a3, a4, a5, a6, a7, a8, a9, a10⟩ := A
  exact f g p l e _ s m args below meth c H locs cells slots _ ls ad C.1 C.2.1 C.2.2.2.2.2.2.2.2.2.2 a7 (fun h => (K1 h).2 g p l e s m args below meth c ad0 n0 c0 s0 mc ms C ad H locs ls cells slots ⟨a1, a2, a3, a4, a5, a6, a7, a8, a9, V a10⟩) (fun h => (K2 h).2 g p l e s m args below meth c ad0 n0 c0 s0 mc ms C ad H locs ls cells slots ⟨a1, a2, a3, a4, a5, a6, a7, a8, a9, V a10⟩)
theorem r_acmp_eq {x y : Option Nat} {off : Int} {tgt : Nat} (h1 : kr_ac S x = some ()) (h2 : kr_ac S y = some ()) (hd : decode (mC M) pc = .ok (.if_acmp .eq off, 3)) (ht : (pc : Int) + off = (tgt : Int)) (K1 : x = y → kr_AW M d tgt lv st S r) (K2 : ¬ x = y → kr_AW M d (pc + 3) lv st S r) : kr_AW M d pc lv (va_rf y :: va_rf x :: st) S r :=
  kr_ac2 K1 K2 (fun hv => kr_va_tl (kr_va_tl hv)) (fun g p l e R s m args below meth c H locs cells slots Q ls ad hx hb hB hW k1 k2 => by
    rw [List.map_cons, List.map_cons, kr_rf, kr_rf]
    exact lv_acmp_eq hx hb hd ht (fun h => k1 ((kr_acO hW (kr_z0 hB) h1 h2).mp h)) (fun h => k2 (fun z => h ((kr_acO hW (kr_z0 hB) h1 h2).mpr z))))
theorem r_acmp_ne {x y : Option Nat} {off : Int} {tgt : Nat} (h1 : kr_ac S x = some ()) (h2 : kr_ac S y = some ()) (hd : decode (mC M) pc = .ok (.if_acmp .ne off, 3)) (ht : (pc : Int) + off = (tgt : Int)) (K1 : x = y → kr_AW M d (pc + 3) lv st S r) (K2 : ¬ x = y → kr_AW M d tgt lv st S r) : kr_AW M d pc lv (va_rf y :: va_rf x :: st) S r :=
  kr_ac2 K1 K2 (fun hv => kr_va_tl (kr_va_tl hv)) (fun g p l e R s m args below meth c H locs cells slots Q ls ad hx hb hB hW k1 k2 => by
    rw [List.map_cons, List.map_cons, kr_rf, kr_rf]
    exact lv_acmp_ne hx hb hd ht (fun h => k2 (fun z => h ((kr_acO hW (kr_z0 hB) h1 h2).mpr z))) (fun h => k1 ((kr_acO hW (kr_z0 hB) h1 h2).mp h)))
/-- a place of a class is an object of it -/
theorem kr_rcv {g : GG} {ad : Nat → Nat} {s : State} {H : Heap} {a κ : Nat} (hB : Bs g s s.heap) (hW : Wd g ad S H) (ha : sK S a = κ) (hκ : 10 ≤ κ ∧ κ < 10 + kr_nC) : ∃ cell : Cell, H[ad a]? = some cell ∧ cell.vm.isStatics = false ∧ s.vm.findClass (kr_cC (κ - 10)) = some cell.cls := by
  obtain ⟨h4, hkn⟩ := hW.1.ge (k := a) (by omega)
  exact va_recv hB.2.1 hW.2.2.1 (kr_cl_at (c := κ - 10) (by omega)) (q0 := ix S a) (by rw [kr_ws_at h4 hkn (by rw [ha]; exact Or.inl (Nat.lt_of_lt_of_le hκ.2 (by decide))), kr_obj ha hκ])
theorem r_cast {κ i : Nat} {x : Option Nat} (h : kr_cc S κ x = some ()) (hκ : 10 ≤ κ ∧ κ < 10 + kr_nC) (hw : Cond.classLink (mO M) i (kr_cC (κ - 10)) ∈ kr_TB) (hd : decode (mC M) pc = .ok (.checkcast i, 3)) (K : kr_AW M d (pc + 3) lv (va_rf x :: st) S r) : kr_AW M d pc lv (va_rf x :: st) S r := by
  refine kr_rd K (fun g hok hv => hv) (fun g p l e R s m args below meth c H locs cells slots Q ls ad hx hb ho ht hB hW hS kk => ?_)
  cases x with
  | none => exact lv_castN hx hb hd kk
  | some a =>
    have ha : sK S a = κ := by
      unfold kr_cc at h
      split at h
      · next hq => simpa using hq
      · cases h
    obtain ⟨hS1, hfc⟩ := hB.2.1.1 (κ - 10) _ (kr_cl_at (by omega))
    exact va_castS hx hb ho (ht _ hw) hfc (kr_rcv hB hW ha hκ) hd kk
end KR
