/-! ===== sessions end, with what belongs to them ===== -/
section
variable {T : Nat → Nat} {S0 m0 S m : AS} {d n nf nt : Nat}
theorem EE_fam (st : ST T S0 m0 n nf nt) (he : EE d T S0 m0 n nf S m) {i : Nat} (hi : i < nf) : ∃ c s, c < 60 ∧ s < n ∧ sI m 99 i = Int32.ofNat c ∧ sI m 93 c = Int32.ofNat s ∧ sR S (lel S0 23 i) 0 = some (lel S0 19 s) := by
  obtain ⟨c, s, h1, h2, h3, h4, h5⟩ := (st.2.2.2.2.2.1 i hi).2.1
  exact ⟨c, s, h1, h2, (he.2.1.2.2 99 i (by rfl)).trans h3, (he.2.1.2.2 93 c (by rfl)).trans h4, by rw [he.1.1]; exact h5⟩
/-- the lists' rows are those of the start -/
theorem EE_get (he : EE d T S0 m0 n nf S m) {l i : Nat} (h : sR S0 ((sR S0 l 1).getD 0) i = some (lel S0 l i)) : sR S ((sR S l 1).getD 0) i = some (lel S0 l i) := by
  rw [he.1.1]
  exact h
theorem ET (st : ST T S0 m0 n nf nt) (he : EE d T S0 m0 n nf S m) : sI S 19 2 = Int32.ofNat n ∧ sI m 57 30 = Int32.ofNat n ∧ sI S 23 2 = Int32.ofNat nf ∧ sI m 57 46 = Int32.ofNat nf := by
  obtain ⟨-, -, -, h1, h2, h3, h4, -⟩ := st.2.2.2.1
  have t17 := st.1.1.2.2.2.2.1
  have t23 := st.1.1.2.2.2.2.2
  exact ⟨(KE_ty he.1 (k := 19) t17 (by decide) (by decide)).trans h1, (he.2.1.2.2 57 30 (by rfl)).trans h2, (KE_ty he.1 (k := 23) t23 (by decide) (by decide)).trans h3, (he.2.1.2.2 57 46 (by rfl)).trans h4⟩
/-- the families of a session end -/
theorem h_eFs_L (st : ST T S0 m0 n nf nt) {s : Nat} (hs : s < n) : ∀ (k i fu fu' : Nat) (S m : AS), i + k = nf → EE d T S0 m0 n nf S m →
    H2 (f_K_endFamiliesOf_L2 fu S (some 4) (some (lel S0 19 s)) (Int32.ofNat i)) (f_M_endFamiliesOf_L2 fu' m (some 57) (Int32.ofNat s) (Int32.ofNat i)) (fun a m' => ∃ S', a = (.inl (), S') ∧ EE d T S0 m0 n nf S' m' ∧ sI m' 89 = sI m 89 ∧ sI S' 4 9 = sI S 4 9)
  | _, _, 0, _, _, _, _, _ => h2_l0
  | _, _, _ + 1, 0, _, _, _, _ => h2_m0
  | 0, i, fu + 1, fu' + 1, S, m, hk, he => by
    unfold f_K_endFamiliesOf_L2 f_K_endFamiliesOf_C2 f_M_endFamiliesOf_L2 f_M_endFamiliesOf_C2
    have hkf := st.1.2.1
    obtain ⟨-, -, e23, e46⟩ := ET st he
    obtain ⟨n60, nf60, -⟩ := st.2.2.2.1
    have le : Int32.ofNat nf ≤ Int32.ofNat i := (ole (by omega) (by omega)).mpr (by omega)
    refine l_of (st_gRe (show sR S 4 13 = some 23 by rw [he.1.1]; exact hkf.1 13 23 rfl)) (l_of st_rv (l_of st_size (l_of (st_T (by rw [e23]; exact le)) ?_)))
    exact m_of (st_gIe e46) (m_of (st_T le) (h2_ret ⟨S, rfl, he, rfl, rfl⟩))
  | k + 1, i, fu + 1, fu' + 1, S, m, hk, he => by
    unfold f_K_endFamiliesOf_L2 f_K_endFamiliesOf_C2 f_M_endFamiliesOf_L2 f_M_endFamiliesOf_C2
    have hkf := st.1.2.1
    have hm := MF_e st.2.2.1 he.2.1.1
    obtain ⟨-, -, e23, e46⟩ := ET st he
    obtain ⟨n60, nf60, -⟩ := st.2.2.2.1
    have le : ¬ Int32.ofNat nf ≤ Int32.ofNat i := fun q => by
      have := (ole (by omega) (by omega)).mp q
      omega
    have r13 : sR S 4 13 = some 23 := by rw [he.1.1]; exact hkf.1 13 23 rfl
    have hi : i < nf := by omega
    obtain ⟨c, s', c60, s'n, m99, m93, k0⟩ := EE_fam st he hi
    refine l_of (st_gRe r13) (l_of st_rv (l_of st_size (l_of (st_F (by rw [e23]; exact le)) ?_)))
    refine l_of (st_gRe r13) (l_of st_rv (l_of (st_get (oc (by omega)) (EE_get he (ST_f st hi).2)) (l_of st_cc (l_of (st_gRe k0) (l_of st_ac (l_of st_ac ?_))))))
    refine m_of (st_gIe e46) (m_of (st_F le) (m_of (st_gRe (hm 40 93 rfl)) (m_of (st_gRe (hm 47 99 rfl)) (m_of (st_aIe (oc (by omega)) m99) (m_of (st_aIe (oc (by omega)) m93) ?_)))))
    by_cases q : s' = s
    · subst q
      refine l_of (st_T rfl) (m_of (st_T rfl) (l_of st_rv (m_of st_rv ?_)))
      refine h2_xd (h_eF st he hi) (fun v S' m' p => ?_) (fun v S' m' p => ?_)
      · obtain ⟨S2, e, he', -, -, e89, e49⟩ := p
        cases e
        unfold f_K_endFamiliesOf_B38 f_M_endFamiliesOf_B30
        refine l_of st_val (m_of st_val ?_)
        rw [o1]
        refine h2_mono (h_eFs_L st hs k (i + 1) fu fu' S' m' (by omega) he') (fun a b p => ?_)
        obtain ⟨S3, p1, p2, p3, p4⟩ := p
        exact ⟨S3, p1, p2, p3.trans e89, p4.trans e49⟩
      · obtain ⟨S2, e, -⟩ := p
        cases e
    · have nK : ¬ some (lel S0 19 s') = some (lel S0 19 s) := fun z => q (ST_si st s'n hs (Option.some.inj z))
      have nM : ¬ Int32.ofNat s' = Int32.ofNat s := fun z => q (oinj (by omega) (by omega) z)
      refine l_of (st_F nK) (m_of (st_F nM) ?_)
      unfold f_K_endFamiliesOf_B38 f_M_endFamiliesOf_B30
      refine l_of st_val (m_of st_val ?_)
      rw [o1]
      exact h_eFs_L st hs k (i + 1) fu fu' S m (by omega) he
theorem h_eFs (st : ST T S0 m0 n nf nt) (he : EE d T S0 m0 n nf S m) {s : Nat} (hs : s < n) : H2 (f_K_endFamiliesOf S (some 4) (some (lel S0 19 s))) (f_M_endFamiliesOf m (some 57) (Int32.ofNat s)) (fun a m' => ∃ S', a = (.inl (), S') ∧ EE d T S0 m0 n nf S' m' ∧ sI m' 89 = sI m 89 ∧ sI S' 4 9 = sI S 4 9) := by
  unfold f_K_endFamiliesOf f_M_endFamiliesOf
  exact h_eFs_L st hs nf 0 kr_FU kr_FU S m (by omega) he
/-- one session is marked -/
theorem p_mark (st : ST T S0 m0 n nf nt) (he : EE d T S0 m0 n nf S m) {s : Nat} (hs : s < n) : Hp (f_K_markEnded S (some 4) (some (lel S0 19 s))) (fun S' => AWK (wI (wI S (lel S0 19 s) 6 0) 4 9 (sI S 4 9 - 1)) S' (Int32.ofNat 1) (Int32.ofNat s)) := by
  have hkf := st.1.2.1
  have ts := (ST_s st hs).1
  have t4 := st.1.1.1
  have n4 : lel S0 19 s ≠ 4 := fun q => by rw [q, t4] at ts; cases ts
  unfold f_K_markEnded
  refine p_of st_pZ (p_of st_gI ?_)
  rw [ti_sI_ne (fun q => n4 q.1.symm)]
  refine p_of st_pI (p_of (st_gRe (show sR (wI (wI S (lel S0 19 s) 6 0) 4 9 (sI S 4 9 - 1)) 4 1 = some 5 by rw [sR_wI, sR_wI, he.1.1]; exact hkf.1 1 5 rfl)) (p_of (st_gIe (v := Int32.ofNat s) ?_) (p_of st_gI (p_of st_rv ?_))))
  · rw [ti_sI_ne (fun q => n4 q.1), ti_sI_ne (by omega), KE_ty he.1 ts (by decide) (by decide)]
    exact (st.2.2.2.2.1 s hs).1
  · exact p_bd (p_aw (by rw [sR_wI, sR_wI, he.1.1]; exact hkf.2.1) (by rw [sR_wI, sR_wI, he.1.1]; exact hkf.2.2.1) rfl) (fun S' a => p_ret a)
theorem osub : ∀ a, a < 61 → ∀ b, b < 61 → b ≤ a → Int32.ofNat a - Int32.ofNat b = Int32.ofNat (a - b) := by decide +kernel
theorem cnt_set {f g : Nat → Int32} {n s : Nat} (hs : s < n) (h1 : f s = 1) (h0 : g s = 0) (h : ∀ x, x ≠ s → g x = f x) : cnt g n + 1 = cnt f n := by
  have := cnt_one (f := g) (g := f) (i := s) h hs
  rw [h1, h0, if_pos rfl, if_neg (by decide)] at this
  omega
theorem EE_mark (st : ST T S0 m0 n nf nt) (he : EE d T S0 m0 n nf S m) {s : Nat} (hs : s < n) (h1 : sI m 89 s = 1) {S' m' : AS} (a : AWK (wI (wI S (lel S0 19 s) 6 0) 4 9 (sI S 4 9 - 1)) S' (Int32.ofNat 1) (Int32.ofNat s)) (b : AWM (wI m 89 s 0) m' (Int32.ofNat 1) (Int32.ofNat s)) :
    EE d T S0 m0 n nf S' m' ∧ sI m' 89 s = 0 ∧ (∀ x, x ≠ s → sI m' 89 x = sI m 89 x) ∧ cnt (sI m' 89) n + 1 = cnt (sI m 89) n ∧ sI m' 103 = sI m 103 := by
  obtain ⟨hK, hM, hS, hl, hg, ha, hz⟩ := he
  obtain ⟨t4, t5, t6, t7, -⟩ := st.1.1
  obtain ⟨n60, nf60, -⟩ := st.2.2.2.1
  have ts := (ST_s st hs).1
  have n4 : lel S0 19 s ≠ 4 := fun q => by rw [q, t4] at ts; cases ts
  have z1 : sI m' 89 s = 0 := by rw [b.1.2.2 89 s (by omega) (by omega) (by omega) (by omega), ti_sI_eq]
  have z2 : ∀ x, x ≠ s → sI m' 89 x = sI m 89 x := fun x hx => by rw [b.1.2.2 89 x (by omega) (by omega) (by omega) (by omega), ti_sI_ne (fun q => hx q.2)]
  have zc := cnt_set hs h1 z1 z2
  have z3 : sI m' 103 = sI m 103 := funext fun x => by rw [b.1.2.2 103 x (by omega) (by omega) (by omega) (by omega), ti_sI_ne (by omega)]
  have c60 := cnt_le (sI m 89) n
  refine ⟨⟨KE_a (KE_w (KE_w hK ts (by decide)) t4 (by decide)) t5 t6 t7 a, ME_a (ME_w hM (by rfl)) b, fun x hx => ?_, ?_, fun x hx => ?_, ?_, fun x hx hx2 v hv => ?_⟩, z1, z2, zc, z3⟩
  · have tx := (ST_s st hx).1
    have ne : ∀ y τ, T y = τ → τ ≠ 43 → lel S0 19 x ≠ y := fun y τ hy ht q => by
      rw [q, hy] at tx
      exact ht tx
    rw [a.1.2.2 _ _ (ne _ _ t5 (by decide)) (ne _ _ t6 (by decide)) (ne _ _ t7 (by decide)), ti_sI_ne (fun q => ne _ _ t4 (by decide) q.1)]
    by_cases c : x = s
    · rw [c, ti_sI_eq, z1]
      exact ⟨rfl, Or.inl rfl⟩
    · rw [ti_sI_ne (fun q => c (ST_si st hx hs q.1)), z2 x c]
      exact hS x hx
  · rw [a.1.2.2 4 9 (by omega) (by omega) (by omega), ti_sI_eq, hl]
    rw [show (1 : Int32) = Int32.ofNat 1 from rfl, osub _ (by omega) 1 (by omega) (by omega)]
    congr 1
    omega
  · have tx := (ST_f st hx).1
    have ne : ∀ y τ, T y = τ → τ ≠ 44 → lel S0 23 x ≠ y := fun y τ hy ht q => by
      rw [q, hy] at tx
      exact ht tx
    have r : ∀ j, sI S' (lel S0 23 x) j = sI S (lel S0 23 x) j := fun j => by
      rw [a.1.2.2 _ _ (ne _ _ t5 (by decide)) (ne _ _ t6 (by decide)) (ne _ _ t7 (by decide)), ti_sI_ne (fun q => ne _ _ t4 (by decide) q.1), ti_sI_ne (fun q => ne _ _ ts (by decide) q.1)]
    have w : ∀ j, sI m' 116 j = sI m 116 j := fun j => by rw [b.1.2.2 116 j (by omega) (by omega) (by omega) (by omega), ti_sI_ne (by omega)]
    obtain ⟨h1, h2, h3⟩ := hg x hx
    refine ⟨by rw [r, z3]; exact h1, fun v hv => by rw [r, w]; exact h2 v hv, fun q v hv => by rw [w]; exact h3 (by rw [← z3]; exact q) v hv⟩
  · refine AU_w (k := 1) (nu := s) (lv := sI m 89) (n := n) (S := wI (wI S (lel S0 19 s) 6 0) 4 9 (sI S 4 9 - 1)) (m := wI m 89 s 0) (AU_cong ha ?_ ?_ ?_ ?_ ?_ rfl ((ti_sI_ne (by omega)).trans (ti_sI_ne (fun q => by rw [← q.1, t5] at ts; cases ts))) (funext fun j => (ti_sI_ne (by omega)).trans (ti_sI_ne (fun q => by rw [← q.1, t7] at ts; cases ts))) (fun z => ((ti_sI_ne (by omega)).trans (ti_sI_ne (fun q => n4 q.1.symm))).trans (z.trans (ti_sI_ne (by omega)).symm)) (ti_sI_ne (by omega)) (funext fun j => ti_sI_ne (by omega))) ?_ n60 n60 (by omega) (by omega) a b (fun x _ => by omega) (fun x hx => ?_) (fun x hx => ?_)
    · rw [ti_sI_ne (by omega), ti_sI_ne (fun q => by rw [← q.1, t5] at ts; cases ts)]
    · exact funext fun j => by rw [ti_sI_ne (by omega), ti_sI_ne (fun q => by rw [← q.1, t6] at ts; cases ts)]
    · exact ti_sI_ne (by omega)
    · exact funext fun j => ti_sI_ne (by omega)
    · exact funext fun j => ti_sI_ne (by omega)
    · show sL m 123 = 1200
      rw [hM.2.1]
      exact st.2.2.2.1.2.2.2.2.2.2.2.2
    · by_cases c : x = s
      · subst c
        rw [z1]
        exact ⟨fun _ => Or.inr ⟨rfl, rfl⟩, fun _ => ⟨hs, by decide⟩⟩
      · rw [z2 x c]
        exact ⟨Or.inl, fun q => q.elim id (fun z => absurd z.2.symm c)⟩
    · by_cases c : x = s
      · subst c
        exact Or.inr ⟨rfl, Or.inr ⟨rfl, by rw [z1]; decide⟩⟩
      · exact Or.inl ⟨z2 x c, hx, Or.inr (fun q => c q.symm)⟩
  · rw [b.1.2.2 116 _ (by omega) (by omega) (by omega) (by omega), ti_sI_ne (by omega)]
    exact hz x hx hx2 v hv
/-- a session ends: those that belong to it -/
theorem h_eS_L (st : ST T S0 m0 n nf nt) {s : Nat} (hs : s < n) : ∀ (k i fu fu' c : Nat) (S m : AS), i + k = n → EE d T S0 m0 n nf S m → sI m 89 s = 0 →
    H2 (f_K_endSession_L7 fu S (some 4) (some (lel S0 19 s)) (Int32.ofNat i)) (f_M_endSession_L17 fu' m (some 57) (Int32.ofNat s) (Int32.ofNat c) (Int32.ofNat i)) (fun a b => ∃ S' c' m', a = (.inl (), S') ∧ b = (Int32.ofNat c', m') ∧ EE d T S0 m0 n nf S' m' ∧ c' + cnt (sI m' 89) n = c + cnt (sI m 89) n ∧ sI m' 89 s = 0)
  | _, _, 0, _, _, _, _, _, _, _ => h2_l0
  | _, _, _ + 1, 0, _, _, _, _, _, _ => h2_m0
  | 0, i, fu + 1, fu' + 1, c, S, m, hk, he, h0 => by
    unfold f_K_endSession_L7 f_K_endSession_C7 f_M_endSession_L17 f_M_endSession_C17
    have hkf := st.1.2.1
    obtain ⟨e19, e30, -, -⟩ := ET st he
    obtain ⟨n60, nf60, -⟩ := st.2.2.2.1
    have le : Int32.ofNat n ≤ Int32.ofNat i := (ole (by omega) (by omega)).mpr (by omega)
    refine l_of (st_gRe (show sR S 4 8 = some 19 by rw [he.1.1]; exact hkf.1 8 19 rfl)) (l_of st_rv (l_of st_size (l_of (st_T (by rw [e19]; exact le)) (l_of st_rv ?_))))
    refine m_of (st_gIe e30) (m_of (st_T le) (m_of st_rv ?_))
    refine h2_xd (h_eFs st he hs) (fun v S' m' p => ?_) (fun v S' m' p => ?_)
    · obtain ⟨S2, e, he', e89, e49⟩ := p
      cases e
      exact h2_ret ⟨S', c, m', rfl, rfl, he', by rw [e89], by rw [e89]; exact h0⟩
    · obtain ⟨S2, e, -⟩ := p
      cases e
  | k + 1, i, fu + 1, fu' + 1, c, S, m, hk, he, h0 => by
    unfold f_K_endSession_L7 f_K_endSession_C7 f_M_endSession_L17 f_M_endSession_C17
    have hkf := st.1.2.1
    have hm := MF_e st.2.2.1 he.2.1.1
    obtain ⟨e19, e30, -, -⟩ := ET st he
    obtain ⟨n60, nf60, -⟩ := st.2.2.2.1
    have le : ¬ Int32.ofNat n ≤ Int32.ofNat i := fun q => by
      have := (ole (by omega) (by omega)).mp q
      omega
    have r8 : sR S 4 8 = some 19 := by rw [he.1.1]; exact hkf.1 8 19 rfl
    have hi : i < n := by omega
    refine l_of (st_gRe r8) (l_of st_rv (l_of st_size (l_of (st_F (by rw [e19]; exact le)) ?_)))
    refine l_of (st_gRe r8) (l_of st_rv (l_of (st_get (oc (by omega)) (EE_get he (ST_s st hi).2)) (l_of st_cc (l_of st_gR (l_of st_ac (l_of st_ac ?_))))))
    refine m_of (st_gIe e30) (m_of (st_F le) (m_of (st_gRe (hm 35 89 rfl)) (m_of (st_aIe (oc (by omega)) rfl) ?_)))
    have ow : sR S (lel S0 19 i) 2 = some (lel S0 19 s) ↔ sI m 88 i = Int32.ofNat s := by
      rw [he.1.1, he.2.1.2.2 88 i (by rfl)]
      exact (st.2.2.2.2.1 i hi).2.2 s hs
    obtain ⟨lv, l01⟩ := he.2.2.1 i hi
    have skip : H2 (f_K_endSession_B55 (f_K_endSession_L7 fu) S (some 4) (some (lel S0 19 s)) (Int32.ofNat i)) (f_M_endSession_B65 (f_M_endSession_L17 fu') m (some 57) (Int32.ofNat s) (Int32.ofNat c) (Int32.ofNat i)) (fun a b => ∃ S' c' m', a = (.inl (), S') ∧ b = (Int32.ofNat c', m') ∧ EE d T S0 m0 n nf S' m' ∧ c' + cnt (sI m' 89) n = c + cnt (sI m 89) n ∧ sI m' 89 s = 0) := by
      unfold f_K_endSession_B55 f_M_endSession_B65
      refine l_of st_val (m_of st_val ?_)
      rw [o1]
      exact h_eS_L st hs k (i + 1) fu fu' c S m (by omega) he h0
    by_cases c0 : sI m 89 i = 0
    · refine m_of (st_T c0) (l_if (fun _ => l_of st_gI (l_of (st_T (by rw [lv]; exact c0)) skip)) (fun _ => skip))
    · refine m_of (st_F c0) (m_of (st_gRe (hm 34 88 rfl)) (m_of (st_aIe (oc (by omega)) rfl) ?_))
      by_cases co : sI m 88 i = Int32.ofNat s
      · refine m_of (st_T co) (l_of (st_T (ow.mpr co)) (l_of st_gI (l_of (st_F (by rw [lv]; exact c0)) (l_of st_rv ?_))))
        refine m_of (st_gRe (hm 35 89 rfl)) (m_of (st_bZe (oc (by omega))) (m_of st_rv ?_))
        have i1 : sI m 89 i = 1 := l01.elim (fun q => absurd q c0) id
        refine l_pd (p_mark st he hi) (fun S1 a => m_pd (p_mw (MF_e hm rfl)) (fun m1 b => ?_))
        obtain ⟨he1, z1, z2, z3, -⟩ := EE_mark st he hi i1 a b
        refine l_of st_rv (m_of st_rv (h2_xd (h_eFs st he1 hi) (fun v S' m' p => ?_) (fun v S' m' p => ?_)))
        · obtain ⟨S2, e, he', e89, e49⟩ := p
          cases e
          refine m_of st_val ?_
          unfold f_K_endSession_B55 f_M_endSession_B65
          refine l_of st_val (m_of st_val ?_)
          rw [o1, o1]
          refine h2_mono (h_eS_L st hs k (i + 1) fu fu' (c + 1) S' m' (by omega) he' ?_) (fun a b p => ?_)
          · rw [e89]
            by_cases q : s = i
            · rw [q]; exact z1
            · rw [z2 s q]; exact h0
          · obtain ⟨S3, c3, m3, p1, p2, p3, p4, p5⟩ := p
            refine ⟨S3, c3, m3, p1, p2, p3, ?_, p5⟩
            rw [p4, e89]
            omega
        · obtain ⟨S2, e, -⟩ := p
          cases e
      · exact m_of (st_F co) (l_of (st_F (fun q => co (ow.mp q))) skip)
theorem h_eS (st : ST T S0 m0 n nf nt) (he : EE d T S0 m0 n nf S m) {s : Nat} (hs : s < n) (h1 : sI m 89 s = 1) : H2 (f_K_endSession S (some 4) (some (lel S0 19 s))) (f_M_endSession m (some 57) (Int32.ofNat s)) (fun a b => ∃ S' c' m', a = (.inl (), S') ∧ b = (Int32.ofNat c', m') ∧ EE d T S0 m0 n nf S' m' ∧ c' + cnt (sI m' 89) n = cnt (sI m 89) n ∧ sI m' 89 s = 0) := by
  have hm := MF_e st.2.2.1 he.2.1.1
  obtain ⟨n60, nf60, -⟩ := st.2.2.2.1
  unfold f_K_endSession f_M_endSession
  refine l_of st_rv (m_of (st_gRe (hm 35 89 rfl)) (m_of (st_bZe (oc (by omega))) (m_of st_rv ?_)))
  refine l_pd (p_mark st he hs) (fun S1 a => m_pd (p_mw (MF_e hm rfl)) (fun m1 b => ?_))
  obtain ⟨he1, z1, z2, z3, -⟩ := EE_mark st he hs h1 a b
  refine h2_mono (h_eS_L st hs n 0 kr_FU kr_FU 1 S1 m1 (by omega) he1 z1) (fun a b p => ?_)
  obtain ⟨S3, c3, m3, p1, p2, p3, p4, p5⟩ := p
  exact ⟨S3, c3, m3, p1, p2, p3, by omega, p5⟩
/-- all sessions of a person end -/
theorem h_eA_L (st : ST T S0 m0 n nf nt) {p : Nat} (hp : p < 6) : ∀ (k i fu fu' c b0 : Nat) (S m : AS), i + k = n → b0 ≤ 60 → EE d T S0 m0 n nf S m → c + cnt (sI m 89) n = b0 →
    H2 (f_K_endSessionsOf_L7 fu S (some 4) (some (29 + 4 * p)) (Int32.ofNat b0) (Int32.ofNat i)) (f_M_endAllOf_L4 fu' m (some 57) (Int32.ofNat p) (Int32.ofNat c) (Int32.ofNat i)) (fun a b => ∃ S' c' m', a = (.inl (Int32.ofNat c'), S') ∧ b = (Int32.ofNat c', m') ∧ EE d T S0 m0 n nf S' m' ∧ c' + cnt (sI m' 89) n = b0)
  | _, _, 0, _, _, _, _, _, _, _, _, _ => h2_l0
  | _, _, _ + 1, 0, _, _, _, _, _, _, _, _ => h2_m0
  | 0, i, fu + 1, fu' + 1, c, b0, S, m, hk, hb, he, hc => by
    unfold f_K_endSessionsOf_L7 f_K_endSessionsOf_C7 f_M_endAllOf_L4 f_M_endAllOf_C4
    have hkf := st.1.2.1
    obtain ⟨e19, e30, -, -⟩ := ET st he
    obtain ⟨n60, nf60, -⟩ := st.2.2.2.1
    have le : Int32.ofNat n ≤ Int32.ofNat i := (ole (by omega) (by omega)).mpr (by omega)
    refine l_of (st_gRe (show sR S 4 8 = some 19 by rw [he.1.1]; exact hkf.1 8 19 rfl)) (l_of st_rv (l_of st_size (l_of (st_T (by rw [e19]; exact le)) (l_of (st_gIe he.2.2.2.1) ?_))))
    refine m_of (st_gIe e30) (m_of (st_T le) ?_)
    have c60 := cnt_le (sI m 89) n
    rw [osub b0 (by omega) _ (by omega) (by omega), show b0 - cnt (sI m 89) n = c by omega]
    exact h2_ret ⟨S, c, m, rfl, rfl, he, hc⟩
  | k + 1, i, fu + 1, fu' + 1, c, b0, S, m, hk, hb, he, hc => by
    unfold f_K_endSessionsOf_L7 f_K_endSessionsOf_C7 f_M_endAllOf_L4 f_M_endAllOf_C4
    have hkf := st.1.2.1
    have hm := MF_e st.2.2.1 he.2.1.1
    obtain ⟨e19, e30, -, -⟩ := ET st he
    obtain ⟨n60, nf60, -⟩ := st.2.2.2.1
    have le : ¬ Int32.ofNat n ≤ Int32.ofNat i := fun q => by
      have := (ole (by omega) (by omega)).mp q
      omega
    have r8 : sR S 4 8 = some 19 := by rw [he.1.1]; exact hkf.1 8 19 rfl
    have hi : i < n := by omega
    obtain ⟨p', hp', pK, pM⟩ := (st.2.2.2.2.1 i hi).2.1
    refine l_of (st_gRe r8) (l_of st_rv (l_of st_size (l_of (st_F (by rw [e19]; exact le)) ?_)))
    refine l_of (st_gRe r8) (l_of st_rv (l_of (st_get (oc (by omega)) (EE_get he (ST_s st hi).2)) (l_of st_cc (l_of (st_gRe (v := some (29 + 4 * p')) (by rw [he.1.1]; exact pK)) (l_of st_ac (l_of st_ac ?_))))))
    refine m_of (st_gIe e30) (m_of (st_F le) (m_of (st_gRe (hm 35 89 rfl)) (m_of (st_aIe (oc (by omega)) rfl) ?_)))
    obtain ⟨lv, l01⟩ := he.2.2.1 i hi
    have pM : sI m 85 i = Int32.ofNat p' := (he.2.1.2.2 85 i (by rfl)).trans pM
    have skip : H2 (f_K_endSessionsOf_B54 (f_K_endSessionsOf_L7 fu) S (some 4) (some (29 + 4 * p)) (Int32.ofNat b0) (Int32.ofNat i)) (f_M_endAllOf_B40 (f_M_endAllOf_L4 fu') m (some 57) (Int32.ofNat p) (Int32.ofNat i) (Int32.ofNat c)) (fun a b => ∃ S' c' m', a = (.inl (Int32.ofNat c'), S') ∧ b = (Int32.ofNat c', m') ∧ EE d T S0 m0 n nf S' m' ∧ c' + cnt (sI m' 89) n = b0) := by
      unfold f_K_endSessionsOf_B54 f_M_endAllOf_B40 f_M_endAllOf_B41
      refine l_of st_val (m_of st_val (m_of st_val ?_))
      rw [o1, Int32.add_zero]
      exact h_eA_L st hp k (i + 1) fu fu' c b0 S m (by omega) hb he hc
    by_cases c0 : sI m 89 i = 0
    · refine m_of (st_T c0) (l_if (fun _ => l_of st_gI (l_of (st_T (by rw [lv]; exact c0)) skip)) (fun _ => skip))
    · refine m_of (st_F c0) (m_of (st_gRe (hm 31 85 rfl)) (m_of (st_aIe (oc (by omega)) pM) ?_))
      by_cases co : p' = p
      · subst co
        have i1 : sI m 89 i = 1 := l01.elim (fun q => absurd q c0) id
        refine m_of (st_T rfl) (l_of (st_T rfl) (l_of st_gI (l_of (st_F (by rw [lv]; exact c0)) (l_of st_rv (m_of st_rv ?_)))))
        refine h2_x2 (h_eS st he hi i1) (fun v S' u m' q => ?_) (fun v S' u m' q => ?_)
        · obtain ⟨S2, c', m2, e, f, he', h', -⟩ := q
          cases e
          cases f
          unfold f_K_endSessionsOf_B54 f_M_endAllOf_B41
          refine l_of st_val (m_of st_val (m_of st_val ?_))
          rw [o1, ← Int32.ofNat_add]
          exact h_eA_L st hp k (i + 1) fu fu' (c + c') b0 S' m' (by omega) hb he' (by omega)
        · obtain ⟨S2, c', m2, e, -⟩ := q
          cases e
      · exact m_of (st_F (fun z => co (oinj (by omega) (by omega) z))) (l_of (st_F (fun z => co (by have := Option.some.inj z; omega))) skip)
theorem h_eA (st : ST T S0 m0 n nf nt) (he : EE d T S0 m0 n nf S m) {p : Nat} (hp : p < 6) : H2 (f_K_endSessionsOf S (some 4) (some (29 + 4 * p))) (f_M_endAllOf m (some 57) (Int32.ofNat p)) (fun a b => ∃ S' c' m', a = (.inl (Int32.ofNat c'), S') ∧ b = (Int32.ofNat c', m') ∧ EE d T S0 m0 n nf S' m') := by
  obtain ⟨n60, nf60, -⟩ := st.2.2.2.1
  have c60 := cnt_le (sI m 89) n
  unfold f_K_endSessionsOf f_M_endAllOf
  refine l_of (st_gIe he.2.2.2.1) ?_
  refine h2_mono (h_eA_L st hp n 0 kr_FU kr_FU 0 _ S m (by omega) (by omega) he (Nat.zero_add _)) (fun a b q => ?_)
  obtain ⟨S2, c', m2, e, f, he', -⟩ := q
  exact ⟨S2, c', m2, e, f, he'⟩
end
