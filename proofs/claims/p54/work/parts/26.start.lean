/-! ===== the start: the machine's tables as the ghosts, the empty world ===== -/
def kr_S0 : AS := (4, (fun k => match k with | 0 => 1 | 1 => 2 | 2 => 3 | 3 => 4 | _ => 0), (fun k => match k with | 1 => 3 | _ => 0), (fun k j => match k with | 1 => kr_wt j | _ => 0), (fun _ _ => none), (fun _ _ => 0), 0, 0)
theorem kr_ok0 (g : GG) : kr_ok g kr_S0 := by
  refine ⟨Nat.le_refl _, ?_, ?_, ⟨rfl, rfl, rfl, rfl⟩, ⟨rfl, rfl⟩, fun j _ => rfl, fun k j a h => by cases h⟩
  · intro k hk
    match k, hk with
    | n + 4, _ => rfl
  · intro k h1 h2
    exact absurd (Nat.lt_of_le_of_lt h1 h2) (Nat.lt_irrefl _)
theorem kr_cl_len : kr_cl.length = kr_nC := by simp [kr_cl]
theorem kr_clsof {s : State} {args : Array Value} (hts : ∀ w ∈ lw_tbl, w.before args s = true) : ∃ D : va_G, ∀ (c : Nat) (q : vw_C), kr_cl[c]? = some q → u_Kn s q.1 q.2.1 q.2.2 (D.1 c) (D.2 c) := by
  have hb : ∀ w ∈ kr_TB, w.before args s = true := fun w hw => hts w (List.mem_filter.mp hw).1
  have h : ∀ c : Nat, ∃ z : va_G, c < kr_nC → u_Kn s (kr_cC c) (kr_cF c) (kr_cN c) (z.1 0) (z.2 0) := by
    intro c
    by_cases hc : c < kr_nC
    · obtain ⟨cC, iS, h⟩ := u_known hb (kr_in c hc) (hts _ (kr_ins c hc))
      exact ⟨(fun _ => cC, fun _ => iS), fun _ => h⟩
    · exact ⟨(fun _ => 0, fun _ _ => 0), fun q => absurd q hc⟩
  obtain ⟨f, hf⟩ := Classical.axiomOfChoice h
  refine ⟨(fun c => (f c).1 0, fun c => (f c).2 0), fun c q hq => ?_⟩
  have hc : c < kr_nC := by
    have := (List.getElem?_eq_some_iff.mp hq).1
    rwa [kr_cl_len] at this
  rw [kr_cl_at hc] at hq
  cases hq
  exact hf c hc
theorem kr_arrP {s : State} {args : Array Value} {ty : FieldType} (h : (Cond.arrayClass ty).before args s = true) (hty : ty = .int ∨ ty = .boolean ∨ ty = .long) : ∃ cA : ClassId, ArrOfT s cA ty ∧ va_RA s cA ty := by
  obtain ⟨cA, kA, comp, h1, h2, h3⟩ := Cond.arrayClass_spec h
  refine ⟨cA, fun n z => ⟨fun k h => (by cases h), kA, h2, comp, h3⟩, ?_⟩
  rcases hty with rfl | rfl | rfl <;> exact h1
theorem kr_arrO {s : State} {args : Array Value} {C : String} (h : (Cond.arrayOver (.object C)).before args s = true) : ∃ cA : ClassId, ArrOfT s cA (.object C) ∧ va_RA s cA (.object C) := by
  obtain ⟨comp, c, k, h1, h2, h3, h4, h5⟩ := Cond.arrayOver_spec h
  exact ⟨c, fun n z => ⟨fun k h => (by cases h), k, h3, comp, h4⟩, k, comp, h3, h4, h1, h5⟩
theorem kr_Kof {s : State} {args : Array Value} (hts : ∀ w ∈ lw_tbl, w.before args s = true) : ∃ (D : va_G) (A : Nat → ClassId), ∀ (b : Nat) (P : Nat → Nat) (X : Nat → Int32) (L : Nat), va_K D kr_cl (kr_tys (D.1, D.2, A, b, P, X, L)) s := by
  obtain ⟨D, hD⟩ := kr_clsof hts
  obtain ⟨a0, h0⟩ := kr_arrP (hts _ v_ac_int) (Or.inl rfl)
  obtain ⟨a1, h1⟩ := kr_arrP (hts _ v_ac_int) (Or.inl rfl)
  obtain ⟨a2, h2⟩ := kr_arrP (hts _ v_ac_int) (Or.inl rfl)
  obtain ⟨a3, h3⟩ := kr_arrO (hts _ v_ao_O)
  obtain ⟨a4, h4⟩ := kr_arrO (hts _ v_ao_P)
  obtain ⟨a5, h5⟩ := kr_arrO (hts _ v_ao_S)
  refine ⟨D, fun t => match t with | 0 => a0 | 1 => a1 | 2 => a2 | 3 => a3 | 4 => a4 | _ => a5, fun b P X L => ⟨hD, fun k q hq => ?_⟩⟩
  have hk : k < 6 := by
    have := (List.getElem?_eq_some_iff.mp hq).1
    simpa [kr_tys] using this
  rw [kr_tys_at hk] at hq
  cases hq
  match k, hk with
  | 0, _ => exact h0
  | 1, _ => exact h1
  | 2, _ => exact h2
  | 3, _ => exact h3
  | 4, _ => exact h4
  | 5, _ => exact h5
theorem kr_nb_tab {w : Cond} (h : kr_nb w = true) : w.onTables = true := by
  cases w <;> first
    | rfl
    | (simp [kr_nb] at h)
/-- what is asked of the pure function: true, for every script, within the room -/
def kr_pure : Prop := ∀ (X : Nat → Int32) (L : Nat), L ≤ 260 → ∃ S' : AS, f_W_law X L kr_S0 = some (1, S') ∧ sC S' ≤ 663887 ∧ sS S' ≤ 7110038
theorem whole_start (hp : kr_pure) {p : Program} {e : Env} {s : State} {m : MethodId} {below : List Frame} {meth : Method} {c : Code} (l : Launch) (hflags : l.flags = flags0) {b L : Nat} {xs : Nat → Int32} (hL : L ≤ 260)
    (hx : p.tables.exec = Jvm.exec) (hb : c.code = code) (hr : meth.sig.returnType = ret) (hml : c.maxLocals = 22) (hown : s.vm.findClass "KeyringCourtLaw" = some m.cls) (hts : ∀ w ∈ lw_tbl, w.before #[Value.ref b] s = true) (hX : va_X b L xs s s.heap) (hbl : b < s.heap.size) (hlocks : meth.locks = false) (hgv : (Jvm.Cond.and given_1 narrow_1).before #[Value.ref b] s = true)
    (htab : c.exceptionTable.toList = []) (hnm : meth.name = "law") : W p l e room_1 s m #[Value.ref b] below meth c s.heap [] 0 0 (lw_Z below #[Value.ref b] s) (entryFrame m ([Value.ref b] : List Value).toArray 22) := by
  obtain ⟨S', hf, hc1, hs1⟩ := hp xs L hL
  have hfl := flat_of_before _ hgv
  obtain ⟨D, A, hK⟩ := kr_Kof hts
  have hA : ∀ a : Nat, a < s.heap.size → ¬ s.heap.size ≤ a := fun a h => Nat.not_le.mpr h
  obtain ⟨q0, e0, hT0⟩ := va_Tof (tm := .static kr_ddC kr_ddF kr_ddT) (ty := .object "java/lang/Object") (N := 0) (f := fun _ => .null) (A := fun q => s.heap.size ≤ q) (by decide) (hfl _ (by decide +kernel)) (va_eqt (hfl _ (by decide +kernel))) (fun j h => absurd h (Nat.not_lt_zero j)) hA
  obtain ⟨q1, e1, hT1⟩ := va_Tof (tm := .static "KeyringCourt$Shown" "WEIGHTS" "[I") (ty := .int) (N := 3) (f := fun j => .int (kr_wt j)) (A := fun q => s.heap.size ≤ q) (by decide) (hfl _ (by decide +kernel)) (va_eqt (hfl _ (by decide +kernel))) (fun j h => match j, h with
    | 0, _ => va_eqt (hfl _ (by decide +kernel))
    | 1, _ => va_eqt (hfl _ (by decide +kernel))
    | 2, _ => va_eqt (hfl _ (by decide +kernel))) hA
  obtain ⟨q3, hM⟩ := va_Mi.of (C := "[Ljava/lang/Object;") (hfl _ (by decide +kernel))
  have hts' : ∀ w ∈ kr_TB, w.before #[Value.ref b] s = true := fun w hw => hts w (List.mem_filter.mp hw).1
  let P : Nat → Nat := fun i => match i with | 0 => q0 | 1 => q1 | 2 => b | _ => q3
  have hB : Bs (D.1, D.2, A, s.heap.size, P, xs, L) s s.heap := by
    refine ⟨Nat.le_refl _, hK _ _ _ _, fun w hw => va_Nw.of (kr_nb_tab (List.mem_filter.mp hw).2) (hts w (List.mem_filter.mp hw).1), ?_, va_Zof (hts _ v_ls_D) (hts _ v_in_D) e0 hA, hT0, va_Zof (hts _ v_ls_W) (hts _ v_in_W) e1 hA, hT1, hX, hbl, hM, va_AO.of (hts _ v_ao_O), va_AO.of (hts _ v_ao_P), va_AO.of (hts _ v_ao_S), vx_Zqof (hts _ v_ls_U) (hts _ v_in_T) (hfl _ (by decide +kernel)) hA, vx_Zqof (hts _ v_ls_X) (hts _ v_in_T) (hfl _ (by decide +kernel)) hA⟩
    intro q hq
    simp only [kr_ncs, List.mem_cons, List.not_mem_nil, or_false] at hq
    rcases hq with rfl | rfl | rfl | rfl | rfl | rfl <;> exact va_Nc.of (hfl _ (by decide +kernel))
  have hst : l.stackTraces = false := by
    rw [Launch.stackTraces, hflags]
    decide +kernel
  have hle := lv_entry [Value.ref b] (n := 22) (show (1 : Nat) ≤ 22 by decide)
  have key := (s_W_law hf).2 (D.1, D.2, A, s.heap.size, P, xs, L) p l e s m #[Value.ref b] below meth c P 4 0 0 663887 7110038 ⟨hx, hb, hml, hr, hown, hts', hlocks, hst, htab, ⟨hnm, fun X' L' h => by cases h; exact ⟨rfl, rfl⟩⟩, hB⟩ P s.heap [] _ 0 0
    ⟨rfl, rfl, by show sC S' ≤ _; omega, by show sS S' ≤ _; omega, Nat.le_refl _, kr_ext_rf, ⟨kr_ok0 _, fun _ _ => rfl, (fun k q h => nomatch h), ⟨(fun i j p q h => nomatch h), (fun k q h => nomatch h)⟩⟩, va_S.rf, hle, ⟨fun q hq => by
      rw [List.mem_singleton] at hq
      subst hq
      exact (by decide : 2 < 4), fun v hv => by cases hv⟩⟩
  rw [lg_entry_eq]
  intro T hT X
  obtain ⟨t, a1, o, b1, b2, hq⟩ := key T hT X
  refine ⟨t, a1, o, b1, b2, ?_⟩
  rcases hq with ⟨⟨⟨v, ad', h1, h2, -⟩, -⟩, Lc, ⟨e1, e2, e3⟩, e4⟩ | ⟨q, -, E, ce, Lc, ⟨⟨ad', h1, -⟩, -⟩, -⟩
  · cases h1
    refine ⟨h2, ⟨_, h2⟩, e2, e3.weaken (fun x hx hlt => absurd hlt (Nat.not_lt.mpr (e4 x hx))) (Nat.le_refl _) (Nat.le_refl _)⟩
  · cases h1
