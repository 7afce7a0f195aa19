/-! ===== vouch, recover ===== -/
theorem or64 : ∀ k, k < 64 → ∀ p, p < 6 → 0 ≤ (Int32.ofNat k ||| ((1 : Int32) <<< (Int32.ofNat p &&& 31))).toInt ∧ (Int32.ofNat k ||| ((1 : Int32) <<< (Int32.ofNat p &&& 31))).toInt < 64 := by decide +kernel
theorem p_lvM_L {m : AS} (hmf : MF m) {s : Int32} : ∀ (k j fu : Nat) (u : Int32), j + k = 3 → Hp (f_M_levelNow_L4 fu m (some 57) s u (Int32.ofNat j)) (fun q => q.2 = m)
  | _, _, 0, _, _ => p_0
  | 0, j, fu + 1, u, hk => by
    unfold f_M_levelNow_L4 f_M_levelNow_C4
    have e : j = 3 := by omega
    subst e
    exact p_of (st_T (by decide)) (p_of (st_b2 (S' := m) rfl) (p_ret rfl))
  | k + 1, j, fu + 1, u, hk => by
    unfold f_M_levelNow_L4 f_M_levelNow_C4
    have nj : ¬ (3 : Int32) ≤ Int32.ofNat j := fun q => by
      have := (ole (a := 3) (b := j) (by decide) (by omega)).mp q
      omega
    have go : ∀ w : Int32, Hp (f_M_levelNow_B47 (f_M_levelNow_L4 fu) m (some 57) s (Int32.ofNat j) u w) (fun q => q.2 = m) := fun w => by
      unfold f_M_levelNow_B47
      refine p_of st_val (p_of st_val ?_)
      rw [o1]
      exact p_lvM_L hmf k (j + 1) fu _ (by omega)
    refine p_of (st_F nj) (p_of (st_gRe (hmf 36 90 rfl)) (p_of st_aI ?_))
    unfold f_M_levelNow_B46
    exact p_if (fun _ => go 0) (fun _ => p_of st_gI (p_if (fun _ => go 0) (fun _ => go _)))
section
variable {T Tm : Nat → Nat} {S m : AS}
/-- a session's level, when something else was written -/
theorem h_levelAt2 (h : FR S m) {S' m' : AS} (rs : sR S' = sR S) (ws : cWgt S' m') (hmf : MF m') {s : Nat} (hs : s < nS m) (ei : ∀ f, f < 3 → sI S' (mn S (lel S 19 s) 3) f = sI S (mn S (lel S 19 s) 3) f) (e90 : ∀ f, f < 3 → sI m' 90 (3 * s + f) = sI m 90 (3 * s + f)) (e0 : sI m' 57 0 = sI m 57 0) : H2 (f_Session_levelAt S' (some (lel S 19 s)) (sI m 57 0)) (f_M_levelNow m' (some 57) (Int32.ofNat s)) (fun a b => ∃ w, w < 8 ∧ a = (lv8 w, S') ∧ b = (lv8 w, m')) := by
  have z := h.Ses.1.1
  obtain ⟨x, ex⟩ := (h.Ses.2 s hs).2.2.2.1
  unfold f_Session_levelAt f_Shown_levelSince f_M_levelNow
  refine l_of (st_gRe (v := some x) (by rw [rs]; exact ex)) (l_of st_rv (l_b2 (fun v S2 e1 => ?_)))
  have key : H2 (f_Shown_levelSince_L4 kr_FU S' (some x) (sI m 57 0 - 120) 0 0) (f_M_levelNow_L4 kr_FU m' (some 57) (Int32.ofNat s) 0 0) (fun a b => ∃ w, w < 8 ∧ a = (lv8 w, S') ∧ b = (lv8 w, m')) := by
    cases c : sR S' x 0 with
    | none =>
      show H2 (f_Shown_levelSince_C4 (f_Shown_levelSince_L4 1999) S' (some x) (sI m 57 0 - 120) 0 0) _ _
      unfold f_Shown_levelSince_C4
      refine l_of (st_F (by decide)) (l_of (st_gRe c) (fun a b ha hb => nomatch ha))
    | some p =>
      have ep : mn S (lel S 19 s) 3 = p := by
        unfold mn
        rw [ex]
        show (sR S x 0).getD 0 = p
        rw [← rs, c]
        rfl
      have z8 : lv8 0 = 0 := by decide +kernel
      have q := h_lvl_L (S := S') (p := p) (m := m') (s := s) ws hmf c (by unfold nS at hs; omega) e0 h.NW.2.1 h.NW.2.2 (fun f hf => by
        rw [e90 f hf, ← ep, ei f hf]
        exact h.Ssh s hs f hf) 3 0 kr_FU kr_FU 0 rfl (by decide)
      rw [z8] at q
      exact q
  exact fun a b ha hb => by
    obtain ⟨w, w1, w2, w3⟩ := key _ _ e1 hb
    cases ha
    cases w2
    exact ⟨w, w1, rfl, w3⟩
theorem vouch_yes (hT : TV T S) (hm : TI Tm m) (h : FR S m) {r s p : Nat} (r1 : r < nR m) (s1 : s < nS m) (p6 : p < 6) (q1 : sR S (lel S 19 s) 1 = some (29 + 4 * p)) (q2 : sI m 85 s = Int32.ofNat p) : H2 (f_K_vouch_B92 S (some 4) (some (lel S 27 r)) (some (lel S 19 s)) 1) (f_M_vouch_B104 m (some 57) (Int32.ofNat r) (Int32.ofNat s) (some 57) 1 1) (fun x y => AN [eX, eS] x.1 y.1 (sI y.2 57 82) ∧ cRec x.2 y.2) := by
  have b := FR_BB hT hm h
  have hmf0 := MF_of (TI_t hm 0)
  have h0 := (FR_t hT hm h 0).Rec
  have z20 := h.Rec.1.1
  have r20 : r < 20 := by
    unfold nR at r1
    omega
  have z60 := h.Ses.1.1
  have s60 : s < 60 := by
    unfold nS at s1
    omega
  obtain ⟨-, -, g3, g4, g5, g6, g7⟩ := h.Rec.2.2 r r1
  have lv : ∀ {p j : Nat}, ¬ (p = 57 ∧ j = 82) → sI (wI m 57 82 0) p j = sI m p j := fun q => lv0 m q 0
  have tr : ∀ k, k < nR m → T (lel S 27 k) = 46 := fun k hk => tyR b hk
  have tx : ∀ y τ, T y = τ → τ ≠ 46 → y ≠ lel S 27 r := fun y τ hy ht q => by
    rw [q, tr r r1] at hy
    exact ht hy.symm
  unfold f_K_vouch_B92 f_M_vouch_B104
  refine l_of (st_bx (rS1 S)) (m_of st_rv (m_p2 p_mayB (fun v m' p => ?_)))
  cases p
  refine m_of (st_F one0) (m_of (st_gRe (hmf0 74 120 rfl)) (m_of (st_aIe (v := sI m 120 r) (oc (by omega)) (lv (by omega))) (m_of (st_gRe (hmf0 31 85 rfl)) (m_of (st_aIe (v := Int32.ofNat p) (oc (by omega)) ((lv (by omega)).trans q2)) (m_of (st_bIe (oc (by omega))) ?_)))))
  refine l_of (st_gIe g5) (l_of (st_gRe q1) (l_of (st_gIe (h.PF.1 p p6).2.2.2.2) (l_of st_pI ?_)))
  obtain ⟨w, ew⟩ : ∃ w, w = sI m 120 r ||| ((1 : Int32) <<< (Int32.ofNat p &&& 31)) := ⟨_, rfl⟩
  rw [← ew]
  obtain ⟨S6, e6⟩ : ∃ S6, S6 = wI S (lel S 27 r) 3 w := ⟨_, rfl⟩
  obtain ⟨m8, e8⟩ : ∃ m8, m8 = wI (wI m 57 82 0) 120 r w := ⟨_, rfl⟩
  rw [← e6, ← e8]
  have o6 : ∀ {p j : Nat}, ¬ (p = lel S 27 r ∧ j = 3) → sI S6 p j = sI S p j := fun q => by
    rw [e6]
    exact ti_sI_ne q
  have o8 : ∀ {p j : Nat}, ¬ (p = 57 ∧ j = 82) → ¬ (p = 120 ∧ j = r) → sI m8 p j = sI m p j := fun a1 a2 => by
    rw [e8]
    exact (ti_sI_ne a2).trans (lv a1)
  have s6 : sI S6 (lel S 27 r) 3 = w := by rw [e6, ti_sI_eq]
  have m8r : sI m8 120 r = w := by rw [e8, ti_sI_eq]
  have m82 : sI m8 57 82 = 0 := by rw [e8, ti_sI_ne (by omega), ti_sI_eq]
  have rS6 : sR S6 = sR S := by rw [e6, sR_wI]
  have hmf8 : MF m8 := MF_e hmf0 (by rw [e8, sR_wI])
  have n4 : (4 : Nat) ≠ lel S 27 r := tx 4 1 (kt4 hT.1).1 (by decide)
  refine l_of (st_gIe (v := sI m 121 r) ((o6 (by omega)).trans g7)) (l_of (st_gIe (v := sI m 57 0) ((o6 (by omega)).trans h.NW.1)) (l_of st_rv ?_))
  refine m_of (st_gRe (hmf8 75 121 rfl)) (m_of (st_aIe (v := sI m 121 r) (oc (by omega)) (o8 (by omega) (by omega))) (m_of st_rv ?_))
  obtain ⟨t43, -⟩ : T (lel S 19 s) = 43 ∧ True := ⟨tyS b s1, trivial⟩
  obtain ⟨x, x1, x2, x3, x4⟩ := tyM (j := 3) hT.1 t43 rfl
  have nm : mn S (lel S 19 s) 3 ≠ lel S 27 r := tx _ 48 x4 (by decide)
  have n1 : (1 : Nat) ≠ lel S 27 r := tx 1 52 hT.2 (by decide)
  refine h2_22 (h_levelAt2 h rS6 ⟨(o6 (by omega)).trans h.Wgt.1, (o6 (by omega)).trans h.Wgt.2.1, (o6 (by omega)).trans h.Wgt.2.2⟩ hmf8 s1 (fun f hf => o6 (by omega)) (fun f hf => o8 (by omega) (by omega)) (o8 (by omega) (by omega))) (fun v S' u m' q => ?_)
  obtain ⟨y, y8, q1', q2'⟩ := q
  cases q1'
  cases q2'
  refine l_of st_pI (l_of (st_gIe (ti_sI_eq _ _ _ _)) (m_of (st_bIe (oc (by omega))) (m_of (st_gRe (hmf8 75 121 rfl)) (m_of (st_aIe (oc (by omega)) (ti_sI_eq _ _ _ _)) ?_))))
  obtain ⟨u1, u2, u3⟩ := h.Rec
  have oM : ∀ {p j : Nat}, ¬ (p = 57 ∧ j = 82) → ¬ (p = 120 ∧ j = r) → ¬ (p = 121 ∧ j = r) → sI (wI m8 121 r (sI m 121 r + lv8 y)) p j = sI m p j := fun a1 a2 a3 => (ti_sI_ne a3).trans (o8 a1 a2)
  have oS : ∀ {p j : Nat}, ¬ (p = lel S 27 r ∧ j = 3) → ¬ (p = lel S 27 r ∧ j = 4) → sI (wI S6 (lel S 27 r) 4 (sI m 121 r + lv8 y)) p j = sI S p j := fun a1 a2 => (ti_sI_ne a2).trans (o6 a1)
  have nn : nR (wI m8 121 r (sI m 121 r + lv8 y)) = nR m := by
    unfold nR
    rw [oM (by omega) (by omega) (by omega)]
  have el : ∀ k, lel (wI S6 (lel S 27 r) 4 (sI m 121 r + lv8 y)) 27 k = lel S 27 k := fun k => by
    unfold lel
    rw [sR_wI, rS6]
  have n27 : (27 : Nat) ≠ lel S 27 r := tx 27 26 (hT.1.t6 6 (by decide)).1 (by decide)
  refine h2_ret ⟨AN_v ((ti_sI_ne (by omega)).trans m82), ⟨?_, ?_, ?_⟩, fun k k1 k2 => ?_, fun k hk => ?_⟩
  · rw [oM (by omega) (by omega) (by omega)]
    exact u1.1
  · rw [oM (by omega) (by omega) (by omega)]
    exact u1.2.1
  · rw [oM (by omega) (by omega) (by omega), oS (by omega) (by omega)]
    exact u1.2.2
  · rw [nn] at k1
    rw [oM (by omega) (by omega) (by omega), oM (by omega) (by omega) (by omega)]
    exact u2 k k1 k2
  · rw [nn] at hk
    obtain ⟨w1, w2, w3, w4, w5, w6, w7⟩ := u3 k hk
    rw [nn, el]
    refine ⟨fun b hb e => w1 b hb (by rw [el] at e; exact e), ?_, ?_, ?_, ?_, ?_, ?_⟩
    · obtain ⟨x, x1, x2, x3⟩ := w2
      exact ⟨x, x1, by rw [sR_wI, rS6]; exact x2, (oM (by omega) (by omega) (by omega)).trans x3⟩
    · exact (oS (by omega) (by omega)).trans (w3.trans (oM (by omega) (by omega) (by omega)).symm)
    · exact (oS (by omega) (by omega)).trans (w4.trans (oM (by omega) (by omega) (by omega)).symm)
    · by_cases z : k = r
      · subst z
        exact ((ti_sI_ne (by omega)).trans s6).trans ((ti_sI_ne (by omega)).trans m8r).symm
      · have : lel S 27 k ≠ lel S 27 r := fun q => z (((u3 r r1).1 k hk) q)
        exact (oS (by omega) (by omega)).trans (w5.trans (oM (by omega) (by omega) (by omega)).symm)
    · by_cases z : k = r
      · subst z
        rw [ti_sI_ne (by omega), m8r, ew]
        have ev : sI m 120 k = Int32.ofNat (sI m 120 k).toNatClampNeg := Int32.toInt_inj.mp (by rw [oi (by have := natI g6.1; omega)]; exact (natI g6.1).symm)
        rw [ev]
        exact or64 _ (by have := natI g6.1; omega) p p6
      · rw [oM (by omega) (by omega) (by omega)]
        exact w6
    · by_cases z : k = r
      · subst z
        exact (ti_sI_eq _ _ _ _).trans (ti_sI_eq _ _ _ _).symm
      · have : lel S 27 k ≠ lel S 27 r := fun q => z (((u3 r r1).1 k hk) q)
        exact (oS (by omega) (by omega)).trans (w7.trans (oM (by omega) (by omega) (by omega)).symm)
theorem h_vouch (hT : TV T S) (hm : TI Tm m) (h : FR S m) (a c : Int32) : H2 (f_K_vouch S (some 4) a c) (f_M_vouch m (some 57) a c) (fun x y => AN [eX, eS] x.1 y.1 (sI y.2 57 82) ∧ cRec x.2 y.2) := by
  have b := FR_BB hT hm h
  have hmf := MF_of hm
  have no1 : H2 (some ((Sum.inr eX : Int32 ⊕ String), wX S)) (f_M_vouch_B21 m (some 57) a c 0) (fun x y => AN [eX, eS] x.1 y.1 (sI y.2 57 82) ∧ cRec x.2 y.2) := by
    unfold f_M_vouch_B21 f_M_vouch_B71 f_M_vouch_B72 f_M_vouch_B103 f_M_vouch_B104
    refine m_of (st_T rfl) (m_of (st_T rfl) (m_of st_rv (m_p2 p_mayB (fun v m' p => ?_))))
    cases p
    exact m_of (st_T rfl) (h2_ret ⟨AN_e 0 rfl (ti_sI_eq _ _ _ _), (FR_X hT (TI_t hm 1) (FR_t hT hm h 1)).Rec⟩)
  have no3 : H2 (some ((Sum.inr eS : Int32 ⊕ String), wX S)) (f_M_vouch_B103 m (some 57) a c (some 57) 1) (fun x y => AN [eX, eS] x.1 y.1 (sI y.2 57 82) ∧ cRec x.2 y.2) := by
    unfold f_M_vouch_B103 f_M_vouch_B104
    refine m_of st_rv (m_p2 p_mayB (fun v m' p => ?_))
    cases p
    exact m_of (st_T rfl) (h2_ret ⟨AN_e 1 rfl (ti_sI_eq _ _ _ _), (FR_X hT (TI_t hm 2) (FR_t hT hm h 2)).Rec⟩)
  have no2 : H2 (some ((Sum.inr eS : Int32 ⊕ String), wX S)) (f_M_vouch_B71 m (some 57) a c 1) (fun x y => AN [eX, eS] x.1 y.1 (sI y.2 57 82) ∧ cRec x.2 y.2) := by
    unfold f_M_vouch_B71 f_M_vouch_B72
    exact m_of (st_T rfl) no3
  have k52 : ∀ x y, Le (f_K_vouch_B52 S (some 4) x y) (some ((Sum.inr eS : Int32 ⊕ String), wX S)) := fun x y q hq => by
    unfold f_K_vouch_B52 f_K_vouch_B53 at hq
    exact st_bxe (rS0 S) q hq
  have k91 : ∀ x y, Le (f_K_vouch_B91 S (some 4) x y) (some ((Sum.inr eS : Int32 ⊕ String), wX S)) := fun x y q hq => by
    unfold f_K_vouch_B91 f_K_vouch_B92 at hq
    exact st_bxe (rS0 S) q hq
  unfold f_K_vouch f_M_vouch f_M_vouch_B20
  refine l_of st_rv (m_of st_rv (m_p2 (x_MR b a) (fun v S2 p => ?_)))
  refine l_bx (fun v' S' e => ?_) (fun v' S' e => ?_)
  · rcases x_fR b a _ e with ⟨r, r1, ea, e2⟩ | ⟨no, e2⟩
    · cases e2
      rcases p with ⟨-, p2⟩ | ⟨p1, -⟩
      · cases p2
        refine m_of (st_F one0) (m_of st_rv (m_p2 (x_MS b c) (fun v S2 p => ?_)))
        refine l_of st_rv (l_bx (fun v' S' e => ?_) (fun v' S' e => ?_))
        · rcases x_fS b c _ e with ⟨s, s1, ec, e2⟩ | ⟨no, e2⟩
          · cases e2
            rcases p with ⟨-, p2⟩ | ⟨p1, -⟩
            · cases p2
              subst ea
              subst ec
              unfold f_M_vouch_B21
              have z20 := h.Rec.1.1
              have r20 : r < 20 := by
                unfold nR at r1
                omega
              have z60 := h.Ses.1.1
              have s60 : s < 60 := by
                unfold nS at s1
                omega
              obtain ⟨-, ⟨i, i6, g1, g2⟩, g3, g4, g5, g6, g7⟩ := h.Rec.2.2 r r1
              obtain ⟨l1, l2⟩ := h.Liv.1 s s1
              obtain ⟨-, ⟨p, p6, q1, q2⟩, -⟩ := h.Ses.2 s s1
              have q3 := SPK_r h s1
              refine m_of (st_F one0) (m_of (st_F one0) (m_of (st_gRe (hmf 73 119 rfl)) (m_of (st_aIe (v := sI m 119 r) (oc (by omega)) rfl) (l_of (st_gIe g4) ?_))))
              by_cases c1 : sI m 119 r = 0
              · exact l_of (st_T c1) (m_of (st_T c1) (l_of (k52 _ _) no2))
              · refine l_of (st_F c1) (m_of (st_F c1) (m_of st_rv (m_p2 (p_speaks hmf s60) (fun v S2 p => ?_))))
                refine l_of (st_gIe l1) ?_
                rcases p with ⟨sp, e⟩ | ⟨sp, e⟩
                · cases e
                  refine l_of (st_F sp.1) (l_of (st_gRe (q3.mpr sp.2)) (l_of (st_T rfl) (l_of (st_gRe q1) (l_of (st_gRe g1) (l_of st_ac (l_of st_ac ?_))))))
                  refine m_of (st_F one0) (m_of st_rv ?_)
                  by_cases c2 : p = i
                  · subst c2
                    refine l_of (st_T rfl) (l_of (k52 _ _) ?_)
                    unfold f_M_levelNow
                    refine m_p2 (p_lvM_L hmf 3 0 kr_FU 0 rfl) (fun v m2 e => ?_)
                    have e : m2 = m := e
                    rw [e]
                    exact m_if (fun _ => no2) (fun _ => m_of (st_gRe (hmf 31 85 rfl)) (m_of (st_aIe (oc (by omega)) q2) (m_of (st_gRe (hmf 71 117 rfl)) (m_of (st_aIe (oc (by omega)) g2) (m_of (st_T rfl) no2)))))
                  · refine l_of (st_F (fun q => c2 (per_eq.mp q))) ?_
                    unfold f_K_vouch_B53
                    refine l_of (st_bx (rS1 S)) (l_of (st_gIe h.NW.1) (l_of st_rv ?_))
                    refine h2_22 (h_levelAt h hmf (fun _ _ _ => rfl) s1) (fun v S' u m' q => ?_)
                    obtain ⟨w, w8, e1, e2⟩ := q
                    cases e1
                    cases e2
                    by_cases c3 : lv8 w < 3
                    · exact l_of (st_T c3) (m_of (st_T c3) (l_of (k91 _ _) no2))
                    · refine l_of (st_F c3) (m_of (st_F c3) (l_of (st_gRe q1) (l_of (st_gIe (h.PF.1 p p6).2.2.2.2) (l_of (st_gIe g5) (l_of (st_b2 (bt_is (by omega) S)) ?_)))))
                      refine m_of (st_gRe (hmf 31 85 rfl)) (m_of (st_aIe (oc (by omega)) q2) (m_of (st_gRe (hmf 71 117 rfl)) (m_of (st_aIe (oc (by omega)) g2) (m_of (st_F (fun q => c2 (oinj (by omega) (by omega) q))) ?_))))
                      unfold f_M_vouch_B72
                      refine m_of (st_F one0) (m_of (st_gRe (hmf 74 120 rfl)) (m_of (st_aIe (v := sI m 120 r) (oc (by omega)) rfl) (m_of (st_gRe (hmf 31 85 rfl)) (m_of (st_aIe (oc (by omega)) q2) ?_))))
                      by_cases c4 : bt (sI m 120 r) p = true
                      · rw [if_pos c4]
                        exact l_of (st_F one0) (m_of (st_F (fun q => (bt_is20' (by omega)).mp q c4)) (l_of (k91 _ _) no3))
                      · rw [if_neg c4]
                        exact l_of (st_T rfl) (m_of (st_T ((bt_is20' (by omega)).mpr c4)) (vouch_yes hT hm h r1 s1 p6 q1 q2))
                · cases e
                  refine m_of (st_T rfl) ?_
                  by_cases c3 : sI m 89 s = 0
                  · exact l_of (st_T c3) (l_of (k52 _ _) no2)
                  · refine l_of (st_F c3) (l_of (st_gR) (l_of (st_F (fun q => sp ⟨c3, q3.mp q⟩)) (l_of (k52 _ _) no2)))
            · exact absurd ⟨s, s1, ec⟩ p1
          · cases e2
        · rcases x_fS b c _ e with ⟨s, s1, ec, e2⟩ | ⟨no, e2⟩
          · cases e2
          · cases e2
            rcases p with ⟨p1, -⟩ | ⟨-, p2⟩
            · exact absurd p1 no
            · cases p2
              exact m_of (st_T rfl) no1
      · exact absurd ⟨r, r1, ea⟩ p1
    · cases e2
  · rcases x_fR b a _ e with ⟨r, r1, ea, e2⟩ | ⟨no, e2⟩
    · cases e2
    · cases e2
      rcases p with ⟨p1, -⟩ | ⟨-, p2⟩
      · exact absurd p1 no
      · cases p2
        exact m_of (st_T rfl) no1
end
