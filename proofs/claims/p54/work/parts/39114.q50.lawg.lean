/-! ===== the law with the reference beside it from the start on ===== -/
def f_W_lawg (X : Nat → Int32) (L : Nat) (S92 : AS) : Option (Int32 × AS) :=
  (nA S92 40 (14 : Int32)).bind fun S93 =>
  (nA S93 40 (35 : Int32)).bind fun S94 =>
  (nA S94 40 (36 : Int32)).bind fun S95 =>
  (nA S95 40 (60 : Int32)).bind fun S96 =>
  (nA S96 40 (20 : Int32)).bind fun S97 =>
  (nA S97 40 (30 : Int32)).bind fun S98 =>
  (nA S98 40 (60 : Int32)).bind fun S99 =>
  (nA S99 40 (45 : Int32)).bind fun S100 =>
  (nA S100 40 (60 : Int32)).bind fun S101 =>
  (nA S101 40 (50 : Int32)).bind fun S102 =>
  (nA S102 40 (60 : Int32)).bind fun S103 =>
  (nA S103 40 (20 : Int32)).bind fun S104 =>
  (nA S104 40 (16 : Int32)).bind fun S105 =>
  (nA S105 40 (20 : Int32)).bind fun S106 =>
  (bI S106 (some (sN S92)) (5 : Int32) (1 : Int32)).bind fun S107 =>
  (bI S107 (some (sN S92)) (10 : Int32) (7 : Int32)).bind fun S108 =>
  f_W_law_L103 X L kr_FU S108 (some (sN kr_S0)) (some (sN S92)) (some (sN S93)) (some (sN S94)) (some (sN S95)) (some (sN S96)) (some (sN S97)) (some (sN S98)) (some (sN S99)) (some (sN S100)) (some (sN S101)) (some (sN S102)) (some (sN S103)) (some (sN S104)) (some (sN S105)) (0 : Int32)
set_option maxRecDepth 20000 in
set_option maxHeartbeats 4000000 in
theorem s_W_lawg {X : Nat → Int32} {L : Nat} {S92 : AS} {r : (Int32 × AS)} (h : f_W_lawg X L S92 = some r) (hg : gs kr_Z1 S92) : kr_AW (m_W_law X L) 16 0 [(0, va_rf (some 2))] [] kr_S0 (kr_eI r) := by
  have eS92 : f_K_init (nO kr_S0 22) (some (sN kr_S0)) = some kr_Z1 := (Option.some_get kr_ya).symm
  unfold f_W_lawg at h
  refine r_newO_ (κ := 22) (show some (nO kr_S0 22) = some (nO kr_S0 22) from rfl) (by decide) w71 w72 w43 d_W_law_0 ?_
  refine r_dup (kr_rfcat _) d_W_law_3 ?_
  refine r_callI (M1 := m_K_init) (As := []) (s_K_init eS92) mok_K_init rfl rfl rfl w73 w74 (by decide) (kr_c8 (kr_cR kr_c0)) d_W_law_4 (kr_k0 ?_) kr_kn
  refine r_astore_n (i := 1) (lv' := [(1, va_rf (some (sN kr_S0))), (0, va_rf (some 2))]) (by show (1 : Nat) < 22; decide) (by show kr_st _ 1 _ = _; simp [kr_st, kr_rfcat, kr_icat]) d_W_law_7 ?_
  refine kr_ghost hg ?_
  refine r_bipush (v := (14 : Int32)) (by decide) d_W_law_8 ?_
  have h2 := kr_ob h
  clear h
  obtain ⟨S93, eS93, h⟩ := h2
  refine r_newI eS93 w100 d_W_law_10 ?_
  refine r_astore_n (i := 2) (lv' := [(2, va_rf (some (sN S92))), (1, va_rf (some (sN kr_S0))), (0, va_rf (some 2))]) (by show (2 : Nat) < 22; decide) (by show kr_st _ 2 _ = _; simp [kr_st, kr_rfcat, kr_icat]) d_W_law_12 ?_
  refine r_bipush (v := (35 : Int32)) (by decide) d_W_law_13 ?_
  have h2 := kr_ob h
  clear h
  obtain ⟨S94, eS94, h⟩ := h2
  refine r_newI eS94 w100 d_W_law_15 ?_
  refine r_astore_n (i := 3) (lv' := [(3, va_rf (some (sN S93))), (2, va_rf (some (sN S92))), (1, va_rf (some (sN kr_S0))), (0, va_rf (some 2))]) (by show (3 : Nat) < 22; decide) (by show kr_st _ 3 _ = _; simp [kr_st, kr_rfcat, kr_icat]) d_W_law_17 ?_
  refine r_bipush (v := (36 : Int32)) (by decide) d_W_law_18 ?_
  have h2 := kr_ob h
  clear h
  obtain ⟨S95, eS95, h⟩ := h2
  refine r_newI eS95 w100 d_W_law_20 ?_
  refine r_astore (i := 4) (lv' := [(4, va_rf (some (sN S94))), (3, va_rf (some (sN S93))), (2, va_rf (some (sN S92))), (1, va_rf (some (sN kr_S0))), (0, va_rf (some 2))]) (by show (4 : Nat) < 22; decide) (by show kr_st _ 4 _ = _; simp [kr_st, kr_rfcat, kr_icat]) d_W_law_22 ?_
  refine r_bipush (v := (60 : Int32)) (by decide) d_W_law_24 ?_
  have h2 := kr_ob h
  clear h
  obtain ⟨S96, eS96, h⟩ := h2
  refine r_newI eS96 w100 d_W_law_26 ?_
  refine r_astore (i := 5) (lv' := [(5, va_rf (some (sN S95))), (4, va_rf (some (sN S94))), (3, va_rf (some (sN S93))), (2, va_rf (some (sN S92))), (1, va_rf (some (sN kr_S0))), (0, va_rf (some 2))]) (by show (5 : Nat) < 22; decide) (by show kr_st _ 5 _ = _; simp [kr_st, kr_rfcat, kr_icat]) d_W_law_28 ?_
  refine r_bipush (v := (20 : Int32)) (by decide) d_W_law_30 ?_
  have h2 := kr_ob h
  clear h
  obtain ⟨S97, eS97, h⟩ := h2
  refine r_newI eS97 w100 d_W_law_32 ?_
  refine r_astore (i := 6) (lv' := [(6, va_rf (some (sN S96))), (5, va_rf (some (sN S95))), (4, va_rf (some (sN S94))), (3, va_rf (some (sN S93))), (2, va_rf (some (sN S92))), (1, va_rf (some (sN kr_S0))), (0, va_rf (some 2))]) (by show (6 : Nat) < 22; decide) (by show kr_st _ 6 _ = _; simp [kr_st, kr_rfcat, kr_icat]) d_W_law_34 ?_
  refine r_bipush (v := (30 : Int32)) (by decide) d_W_law_36 ?_
  have h2 := kr_ob h
  clear h
  obtain ⟨S98, eS98, h⟩ := h2
  refine r_newI eS98 w100 d_W_law_38 ?_
  refine r_astore (i := 7) (lv' := [(7, va_rf (some (sN S97))), (6, va_rf (some (sN S96))), (5, va_rf (some (sN S95))), (4, va_rf (some (sN S94))), (3, va_rf (some (sN S93))), (2, va_rf (some (sN S92))), (1, va_rf (some (sN kr_S0))), (0, va_rf (some 2))]) (by show (7 : Nat) < 22; decide) (by show kr_st _ 7 _ = _; simp [kr_st, kr_rfcat, kr_icat]) d_W_law_40 ?_
  refine r_bipush (v := (60 : Int32)) (by decide) d_W_law_42 ?_
  have h2 := kr_ob h
  clear h
  obtain ⟨S99, eS99, h⟩ := h2
  refine r_newI eS99 w100 d_W_law_44 ?_
  refine r_astore (i := 8) (lv' := [(8, va_rf (some (sN S98))), (7, va_rf (some (sN S97))), (6, va_rf (some (sN S96))), (5, va_rf (some (sN S95))), (4, va_rf (some (sN S94))), (3, va_rf (some (sN S93))), (2, va_rf (some (sN S92))), (1, va_rf (some (sN kr_S0))), (0, va_rf (some 2))]) (by show (8 : Nat) < 22; decide) (by show kr_st _ 8 _ = _; simp [kr_st, kr_rfcat, kr_icat]) d_W_law_46 ?_
  refine r_bipush (v := (45 : Int32)) (by decide) d_W_law_48 ?_
  have h2 := kr_ob h
  clear h
  obtain ⟨S100, eS100, h⟩ := h2
  refine r_newI eS100 w100 d_W_law_50 ?_
  refine r_astore (i := 9) (lv' := [(9, va_rf (some (sN S99))), (8, va_rf (some (sN S98))), (7, va_rf (some (sN S97))), (6, va_rf (some (sN S96))), (5, va_rf (some (sN S95))), (4, va_rf (some (sN S94))), (3, va_rf (some (sN S93))), (2, va_rf (some (sN S92))), (1, va_rf (some (sN kr_S0))), (0, va_rf (some 2))]) (by show (9 : Nat) < 22; decide) (by show kr_st _ 9 _ = _; simp [kr_st, kr_rfcat, kr_icat]) d_W_law_52 ?_
  refine r_bipush (v := (60 : Int32)) (by decide) d_W_law_54 ?_
  have h2 := kr_ob h
  clear h
  obtain ⟨S101, eS101, h⟩ := h2
  refine r_newI eS101 w100 d_W_law_56 ?_
  refine r_astore (i := 10) (lv' := [(10, va_rf (some (sN S100))), (9, va_rf (some (sN S99))), (8, va_rf (some (sN S98))), (7, va_rf (some (sN S97))), (6, va_rf (some (sN S96))), (5, va_rf (some (sN S95))), (4, va_rf (some (sN S94))), (3, va_rf (some (sN S93))), (2, va_rf (some (sN S92))), (1, va_rf (some (sN kr_S0))), (0, va_rf (some 2))]) (by show (10 : Nat) < 22; decide) (by show kr_st _ 10 _ = _; simp [kr_st, kr_rfcat, kr_icat]) d_W_law_58 ?_
  refine r_bipush (v := (50 : Int32)) (by decide) d_W_law_60 ?_
  have h2 := kr_ob h
  clear h
  obtain ⟨S102, eS102, h⟩ := h2
  refine r_newI eS102 w100 d_W_law_62 ?_
  refine r_astore (i := 11) (lv' := [(11, va_rf (some (sN S101))), (10, va_rf (some (sN S100))), (9, va_rf (some (sN S99))), (8, va_rf (some (sN S98))), (7, va_rf (some (sN S97))), (6, va_rf (some (sN S96))), (5, va_rf (some (sN S95))), (4, va_rf (some (sN S94))), (3, va_rf (some (sN S93))), (2, va_rf (some (sN S92))), (1, va_rf (some (sN kr_S0))), (0, va_rf (some 2))]) (by show (11 : Nat) < 22; decide) (by show kr_st _ 11 _ = _; simp [kr_st, kr_rfcat, kr_icat]) d_W_law_64 ?_
  refine r_bipush (v := (60 : Int32)) (by decide) d_W_law_66 ?_
  have h2 := kr_ob h
  clear h
  obtain ⟨S103, eS103, h⟩ := h2
  refine r_newI eS103 w100 d_W_law_68 ?_
  refine r_astore (i := 12) (lv' := [(12, va_rf (some (sN S102))), (11, va_rf (some (sN S101))), (10, va_rf (some (sN S100))), (9, va_rf (some (sN S99))), (8, va_rf (some (sN S98))), (7, va_rf (some (sN S97))), (6, va_rf (some (sN S96))), (5, va_rf (some (sN S95))), (4, va_rf (some (sN S94))), (3, va_rf (some (sN S93))), (2, va_rf (some (sN S92))), (1, va_rf (some (sN kr_S0))), (0, va_rf (some 2))]) (by show (12 : Nat) < 22; decide) (by show kr_st _ 12 _ = _; simp [kr_st, kr_rfcat, kr_icat]) d_W_law_70 ?_
  refine r_bipush (v := (20 : Int32)) (by decide) d_W_law_72 ?_
  have h2 := kr_ob h
  clear h
  obtain ⟨S104, eS104, h⟩ := h2
  refine r_newI eS104 w100 d_W_law_74 ?_
  refine r_astore (i := 13) (lv' := [(13, va_rf (some (sN S103))), (12, va_rf (some (sN S102))), (11, va_rf (some (sN S101))), (10, va_rf (some (sN S100))), (9, va_rf (some (sN S99))), (8, va_rf (some (sN S98))), (7, va_rf (some (sN S97))), (6, va_rf (some (sN S96))), (5, va_rf (some (sN S95))), (4, va_rf (some (sN S94))), (3, va_rf (some (sN S93))), (2, va_rf (some (sN S92))), (1, va_rf (some (sN kr_S0))), (0, va_rf (some 2))]) (by show (13 : Nat) < 22; decide) (by show kr_st _ 13 _ = _; simp [kr_st, kr_rfcat, kr_icat]) d_W_law_76 ?_
  refine r_bipush (v := (16 : Int32)) (by decide) d_W_law_78 ?_
  have h2 := kr_ob h
  clear h
  obtain ⟨S105, eS105, h⟩ := h2
  refine r_newI eS105 w100 d_W_law_80 ?_
  refine r_astore (i := 14) (lv' := [(14, va_rf (some (sN S104))), (13, va_rf (some (sN S103))), (12, va_rf (some (sN S102))), (11, va_rf (some (sN S101))), (10, va_rf (some (sN S100))), (9, va_rf (some (sN S99))), (8, va_rf (some (sN S98))), (7, va_rf (some (sN S97))), (6, va_rf (some (sN S96))), (5, va_rf (some (sN S95))), (4, va_rf (some (sN S94))), (3, va_rf (some (sN S93))), (2, va_rf (some (sN S92))), (1, va_rf (some (sN kr_S0))), (0, va_rf (some 2))]) (by show (14 : Nat) < 22; decide) (by show kr_st _ 14 _ = _; simp [kr_st, kr_rfcat, kr_icat]) d_W_law_82 ?_
  refine r_bipush (v := (20 : Int32)) (by decide) d_W_law_84 ?_
  have h2 := kr_ob h
  clear h
  obtain ⟨S106, eS106, h⟩ := h2
  refine r_newI eS106 w100 d_W_law_86 ?_
  refine r_astore (i := 15) (lv' := [(15, va_rf (some (sN S105))), (14, va_rf (some (sN S104))), (13, va_rf (some (sN S103))), (12, va_rf (some (sN S102))), (11, va_rf (some (sN S101))), (10, va_rf (some (sN S100))), (9, va_rf (some (sN S99))), (8, va_rf (some (sN S98))), (7, va_rf (some (sN S97))), (6, va_rf (some (sN S96))), (5, va_rf (some (sN S95))), (4, va_rf (some (sN S94))), (3, va_rf (some (sN S93))), (2, va_rf (some (sN S92))), (1, va_rf (some (sN kr_S0))), (0, va_rf (some 2))]) (by show (15 : Nat) < 22; decide) (by show kr_st _ 15 _ = _; simp [kr_st, kr_rfcat, kr_icat]) d_W_law_88 ?_
  refine r_aload_n (i := 2) (x := (some (sN S92))) 13 rfl d_W_law_90 ?_
  refine r_iconst (v := (5 : Int32)) (by decide) d_W_law_91 ?_
  refine r_iconst (v := (1 : Int32)) (by decide) d_W_law_92 ?_
  have h2 := kr_ob h
  clear h
  obtain ⟨S107, eS107, h⟩ := h2
  refine r_iastore eS107 d_W_law_93 ?_
  refine r_aload_n (i := 2) (x := (some (sN S92))) 13 rfl d_W_law_94 ?_
  refine r_bipush (v := (10 : Int32)) (by decide) d_W_law_95 ?_
  refine r_bipush (v := (7 : Int32)) (by decide) d_W_law_97 ?_
  have h2 := kr_ob h
  clear h
  obtain ⟨S108, eS108, h⟩ := h2
  refine r_iastore eS108 d_W_law_99 ?_
  refine r_iconst (v := (0 : Int32)) (by decide) d_W_law_100 ?_
  refine r_istore (i := 16) (lv' := [(16, .int (0 : Int32)), (15, va_rf (some (sN S105))), (14, va_rf (some (sN S104))), (13, va_rf (some (sN S103))), (12, va_rf (some (sN S102))), (11, va_rf (some (sN S101))), (10, va_rf (some (sN S100))), (9, va_rf (some (sN S99))), (8, va_rf (some (sN S98))), (7, va_rf (some (sN S97))), (6, va_rf (some (sN S96))), (5, va_rf (some (sN S95))), (4, va_rf (some (sN S94))), (3, va_rf (some (sN S93))), (2, va_rf (some (sN S92))), (1, va_rf (some (sN kr_S0))), (0, va_rf (some 2))]) (by show (16 : Nat) < 22; decide) (by show kr_st _ 16 _ = _; simp [kr_st, kr_rfcat, kr_icat]) d_W_law_101 ?_
  exact kr_sub [16, 15, 14, 13, 12, 11, 10, 9, 8, 7, 6, 5, 4, 3, 2, 1, 0] rfl (s_W_law_L103 kr_FU h)
/-- what is asked of the pure function: true, for every script, within the room; the reference beside -/
def kr_pureg : Prop := ∀ (X : Nat → Int32) (L : Nat), L ≤ 260 → ∃ S' : AS, f_W_lawg X L kr_Z3 = some (1, S') ∧ sC S' ≤ 663887 ∧ sS S' ≤ 7110038
theorem whole_startg (hp : kr_pureg) {p : Program} {e : Env} {s : State} {m : MethodId} {below : List Frame} {meth : Method} {c : Code} (l : Launch) (hflags : l.flags = flags0) {b L : Nat} {xs : Nat → Int32} (hL : L ≤ 260)
    (hx : p.tables.exec = Jvm.exec) (hb : c.code = code) (hr : meth.sig.returnType = ret) (hml : c.maxLocals = 22) (hown : s.vm.findClass "KeyringCourtLaw" = some m.cls) (hts : ∀ w ∈ lw_tbl, w.before #[Value.ref b] s = true) (hX : va_X b L xs s s.heap) (hbl : b < s.heap.size) (hlocks : meth.locks = false) (hgv : (Jvm.Cond.and given_1 narrow_1).before #[Value.ref b] s = true)
    (htab : c.exceptionTable.toList = []) (hnm : meth.name = "law") : W p l e room_1 s m #[Value.ref b] below meth c s.heap [] 0 0 (lw_Z below #[Value.ref b] s) (entryFrame m ([Value.ref b] : List Value).toArray 22) := by
  obtain ⟨S', hf, hc1, hs1⟩ := hp xs L hL
  have hfl := flat_of_before _ hgv
  obtain ⟨D, A, hK⟩ := kr_Kof hts
  have hA : ∀ a : Nat, a < s.heap.size → ¬ s.heap.size ≤ a := fun a h => Nat.not_le.mpr h
  obtain ⟨q0, e0, hT0⟩ := va_Tof (tm := .static kr_ddC kr_ddF kr_ddT) (ty := .object "java/lang/Object") (N := 0) (f := fun _ => .null) (A := fun q => s.heap.size ≤ q) (by decide) (hfl _ (by decide +kernel)) (va_eqt (hfl _ (by decide +kernel))) (fun j h => absurd h (Nat.not_lt_zero j)) hA
  obtain ⟨q1, e1, hT1⟩ := va_Tof (tm := .static "KeyringCourt$Shown" "WEIGHTS" "[I") (ty := .int) (N := 3) (f := fun j => .int (kr_wt j)) (A := fun q => s.heap.size ≤ q) (by decide) (hfl _ (by decide +kernel)) (va_eqt (hfl _ (by decide +kernel))) (fun j h => match j, h with
    | 0, _ => va_eqt (hfl _ (by decide +kernel))
    | 1, _ => va_eqt (hfl _ (by decide +kernel))
    | 2, _ => va_eqt (hfl _ (by decide +kernel))) hA
  obtain ⟨q3, hM⟩ := va_Mi.of (C := "[Ljava/lang/Object;") (hfl _ (by decide +kernel))
  have hts' : ∀ w ∈ kr_TB, w.before #[Value.ref b] s = true := fun w hw => hts w (List.mem_filter.mp hw).1
  let P : Nat → Nat := fun i => match i with | 0 => q0 | 1 => q1 | 2 => b | _ => q3
  have hB : Bs (D.1, D.2, A, s.heap.size, P, xs, L) s s.heap := by
    refine ⟨Nat.le_refl _, hK _ _ _ _, fun w hw => va_Nw.of (kr_nb_tab (List.mem_filter.mp hw).2) (hts w (List.mem_filter.mp hw).1), ?_, va_Zof (hts _ v_ls_D) (hts _ v_in_D) e0 hA, hT0, va_Zof (hts _ v_ls_W) (hts _ v_in_W) e1 hA, hT1, hX, hbl, hM, va_AO.of (hts _ v_ao_O), va_AO.of (hts _ v_ao_P), va_AO.of (hts _ v_ao_S), vx_Zqof (hts _ v_ls_U) (hts _ v_in_T) (hfl _ (by decide +kernel)) hA, vx_Zqof (hts _ v_ls_X) (hts _ v_in_T) (hfl _ (by decide +kernel)) hA⟩
    intro q hq
    simp only [kr_ncs, List.mem_cons, List.not_mem_nil, or_false] at hq
    rcases hq with rfl | rfl | rfl | rfl | rfl | rfl <;> exact va_Nc.of (hfl _ (by decide +kernel))
  have hst : l.stackTraces = false := by
    rw [Launch.stackTraces, hflags]
    decide +kernel
  have hle := lv_entry [Value.ref b] (n := 22) (show (1 : Nat) ≤ 22 by decide)
  have key := (s_W_lawg hf kr_gs3).2 (D.1, D.2, A, s.heap.size, P, xs, L) p l e s m #[Value.ref b] below meth c P 4 0 0 663887 7110038 ⟨hx, hb, hml, hr, hown, hts', hlocks, hst, htab, ⟨hnm, fun X' L' h => by cases h; exact ⟨rfl, rfl⟩⟩, hB⟩ P s.heap [] _ 0 0
    ⟨rfl, rfl, by show sC S' ≤ _; omega, by show sS S' ≤ _; omega, Nat.le_refl _, kr_ext_rf, ⟨kr_ok0 _, fun _ _ => rfl, (fun k q h => nomatch h), ⟨(fun i j p q h => nomatch h), (fun k q h => nomatch h)⟩⟩, va_S.rf, hle, ⟨fun q hq => by
      rw [List.mem_singleton] at hq
      subst hq
      exact (by decide : 2 < 4), fun v hv => by cases hv⟩⟩
  rw [lg_entry_eq]
  intro T hT X
  obtain ⟨t, a1, o, b1, b2, hq⟩ := key T hT X
  refine ⟨t, a1, o, b1, b2, ?_⟩
  rcases hq with ⟨⟨⟨v, ad', h1, h2, -⟩, -⟩, Lc, ⟨e1, e2, e3⟩, e4⟩ | ⟨q, -, E, ce, Lc, ⟨⟨ad', h1, -⟩, -⟩, -⟩
  · cases h1
    refine ⟨h2, ⟨_, h2⟩, e2, e3.weaken (fun x hx hlt => absurd hlt (Nat.not_lt.mpr (e4 x hx))) (Nat.le_refl _) (Nat.le_refl _)⟩
  · cases h1
theorem nA_N {S S1 : AS} {κ : Nat} {n : Int32} (h : nA S κ n = some S1) : sN S1 = sN S + 1 := by
  unfold nA at h
  split at h
  · cases h
    rfl
  · cases h
theorem rows_c {S Z : AS} {n : Int32} {l : List Int32} (h : kr_rows S (n :: l) = some Z) : ∃ S1, nA S 40 n = some S1 ∧ sN S1 = sN S + 1 ∧ kr_rows S1 l = some Z := by
  obtain ⟨S1, e, h⟩ := kr_ob (show (nA S 40 n).bind (fun S1 => kr_rows S1 l) = some Z from h)
  exact ⟨S1, e, nA_N e, h⟩
theorem kr_pg : kr_pureg := fun X L hL => by
  have hz : kr_rows kr_Z3 [14, 35, 36, 60, 20, 30, 60, 45, 60, 50, 60, 20, 16, 20] = some kr_Z := (Option.some_get kr_yd).symm
  obtain ⟨S93, e93, n93, h93⟩ := rows_c hz
  rw [kr_n2] at n93
  have n93 : sN S93 = 128 := n93
  obtain ⟨S94, e94, n94, h94⟩ := rows_c h93
  rw [n93] at n94
  have n94 : sN S94 = 129 := n94
  obtain ⟨S95, e95, n95, h95⟩ := rows_c h94
  rw [n94] at n95
  have n95 : sN S95 = 130 := n95
  obtain ⟨S96, e96, n96, h96⟩ := rows_c h95
  rw [n95] at n96
  have n96 : sN S96 = 131 := n96
  obtain ⟨S97, e97, n97, h97⟩ := rows_c h96
  rw [n96] at n97
  have n97 : sN S97 = 132 := n97
  obtain ⟨S98, e98, n98, h98⟩ := rows_c h97
  rw [n97] at n98
  have n98 : sN S98 = 133 := n98
  obtain ⟨S99, e99, n99, h99⟩ := rows_c h98
  rw [n98] at n99
  have n99 : sN S99 = 134 := n99
  obtain ⟨S100, e100, n100, h100⟩ := rows_c h99
  rw [n99] at n100
  have n100 : sN S100 = 135 := n100
  obtain ⟨S101, e101, n101, h101⟩ := rows_c h100
  rw [n100] at n101
  have n101 : sN S101 = 136 := n101
  obtain ⟨S102, e102, n102, h102⟩ := rows_c h101
  rw [n101] at n102
  have n102 : sN S102 = 137 := n102
  obtain ⟨S103, e103, n103, h103⟩ := rows_c h102
  rw [n102] at n103
  have n103 : sN S103 = 138 := n103
  obtain ⟨S104, e104, n104, h104⟩ := rows_c h103
  rw [n103] at n104
  have n104 : sN S104 = 139 := n104
  obtain ⟨S105, e105, n105, h105⟩ := rows_c h104
  rw [n104] at n105
  have n105 : sN S105 = 140 := n105
  obtain ⟨S106, e106, n106, h106⟩ := rows_c h105
  rw [n105] at n106
  have n106 : sN S106 = 141 := n106
  have eZ : S106 = kr_Z := Option.some.inj h106
  subst eZ
  have go : Ho (f_W_lawg X L kr_Z3) (fun q => q.1 = 1 ∧ ∃ T', L54 170 2880 T' q.2) := by
    unfold f_W_lawg
    refine o_bd e93 (o_bd e94 (o_bd e95 (o_bd e96 (o_bd e97 (o_bd e98 (o_bd e99 (o_bd e100 (o_bd e101 (o_bd e102 (o_bd e103 (o_bd e104 (o_bd e105 (o_bd e106 ?_)))))))))))))
    rw [show sN kr_S0 = 4 from rfl, kr_n2, n93, n94, n95, n96, n97, n98, n99, n100, n101, n102, n103, n104, n105]
    have r127 := z_SI.lr.1
    refine o_bI r127 (n := 5) rfl (by decide) (o_bI r127.w (n := 10) rfl (by decide) ?_)
    refine x_103 hL 4 0 kr_FU _ rfl (show 4 < 2000 by decide) (LF_w (LF_w (LF_rf kr_Z) (by decide)) (by decide)) (fun q j _ _ h => ?_) (fun s hs => absurd hs (Nat.not_lt_zero _))
    unfold A1
    rw [ti_sI_ne (k := 139) (j := 13) (by omega), ti_sI_ne (k := 139) (j := 9) (by omega), ti_sI_ne (k := 139) (j := 5) (by omega), ti_sI_ne (k := 139) (j := 1) (by omega)]
  obtain ⟨⟨v, S'⟩, e, q1, T', L1⟩ := go
  have q1 : v = 1 := q1
  have c := L1.2.2.2.2.1
  rw [q1] at e
  have c1 : sC S' ≤ 200 + 20 * 2880 := c.1
  have c2 : sS S' ≤ 12000 + 1000 * 2880 := c.2
  exact ⟨S', e, by omega, by omega⟩
