/-! ===== emergency; lag; line; check ===== -/
section
variable {T Tm : Nat → Nat} {S m : AS}
theorem p_pubNext {c : Nat} (hc : sI S 25 0 = Int32.ofNat c) : Hp (f_Keyring_publishNext S (some 25)) (fun q => q.1 = Int32.ofNat c ∧ q.2 = wI (wI S 25 4 (sI S 25 4 ||| ((1 : Int32) <<< (Int32.ofNat c &&& 31)))) 25 0 (Int32.ofNat c + 1)) := by
  unfold f_Keyring_publishNext
  exact p_of st_gI (p_of (st_gIe hc) (p_of st_pI (p_of (st_gIe (v := Int32.ofNat c) ((ti_sI_ne (by omega)).trans hc)) (p_of st_pI (p_of (st_gIe (ti_sI_eq _ _ _ _)) (p_ret ⟨Int32.add_sub_cancel _ _, rfl⟩))))))
def RPL (c g : Nat) (w : Int32) (S S' : AS) : Prop := (sR S' = sR S ∧ sL S' = sL S ∧ ∀ p j, p ≠ 25 → sI S' p j = sI S p j) ∧ sI S' 25 2 = -1 ∧ sI S' 25 3 = sI S 25 3 ∧
  ((w = -1 ∧ sI S' 25 0 = Int32.ofNat (c + 1) ∧ sI S' 25 1 = Int32.ofNat c ∧ ∀ k, k < 20 → (bt (sI S' 25 4) k = true ↔ (bt (sI S 25 4) k = true ∧ k ≠ g) ∨ k = c)) ∨ (w ≠ -1 ∧ sI S' 25 0 = Int32.ofNat c ∧ sI S' 25 1 = w ∧ ∀ k, k < 20 → (bt (sI S' 25 4) k = true ↔ bt (sI S 25 4) k = true ∧ k ≠ g)))
theorem p_repl {c g : Nat} {w : Int32} (hc : sI S 25 0 = Int32.ofNat c) (hg : sI S 25 1 = Int32.ofNat g) (hw : sI S 25 2 = w) (g20 : g < 20) (c20 : w = -1 → c < 20) : Hp (f_Keyring_replaceSigner S (some 25)) (fun S' => RPL c g w S S') := by
  unfold f_Keyring_replaceSigner
  refine p_of st_gI (p_of (st_gIe hg) (p_of st_pI (p_of (st_gIe (v := w) ((ti_sI_ne (by omega)).trans hw)) (p_if (fun q => ?_) (fun q => ?_)))))
  · refine p_of st_rv (p_b2 (p_pubNext (c := c) ((ti_sI_ne (by omega)).trans hc)) (fun v S' p => ?_))
    obtain ⟨p1, p2⟩ := p
    have p1 : v = _ := p1
    have p2 : S' = _ := p2
    rw [p1, p2]
    unfold f_Keyring_replaceSigner_B37
    refine p_of st_pI (p_of st_pI (p_ret ⟨⟨rfl, rfl, fun p j h => ?_⟩, ti_sI_eq _ _ _ _, ?_, Or.inl ⟨q, ?_, ?_, fun k hk => ?_⟩⟩))
    · rw [ti_sI_ne (by omega), ti_sI_ne (by omega), ti_sI_ne (by omega), ti_sI_ne (by omega), ti_sI_ne (by omega)]
    · rw [ti_sI_ne (by omega), ti_sI_ne (by omega), ti_sI_ne (by omega), ti_sI_ne (by omega), ti_sI_ne (by omega)]
    · rw [ti_sI_ne (by omega), ti_sI_ne (by omega), ti_sI_eq, o1]
    · rw [ti_sI_ne (by omega), ti_sI_eq]
    · rw [ti_sI_ne (by omega), ti_sI_ne (by omega), ti_sI_ne (by omega), ti_sI_eq, bt_sh20 _ (c20 q), ti_sI_eq, bt_cl20 _ g20 (by omega)]
  · unfold f_Keyring_replaceSigner_B37
    refine p_of (st_gIe (v := w) ((ti_sI_ne (by omega)).trans hw)) (p_of st_pI (p_of st_pI (p_ret ⟨⟨rfl, rfl, fun p j h => ?_⟩, ti_sI_eq _ _ _ _, ?_, Or.inr ⟨q, ?_, ?_, fun k hk => ?_⟩⟩)))
    · rw [ti_sI_ne (by omega), ti_sI_ne (by omega), ti_sI_ne (by omega)]
    · rw [ti_sI_ne (by omega), ti_sI_ne (by omega), ti_sI_ne (by omega)]
    · rw [ti_sI_ne (by omega), ti_sI_ne (by omega), ti_sI_ne (by omega)]
      exact hc
    · rw [ti_sI_ne (by omega), ti_sI_eq]
    · rw [ti_sI_ne (by omega), ti_sI_ne (by omega), ti_sI_eq, bt_cl20 _ g20 (by omega)]
/-- the reference's emergency, behind the publishing -/
theorem h_emergency (hT : TV T S) (hm : TI Tm m) (h : FR S m) : H2 (f_K_emergency S (some 4)) (f_M_emergency m (some 57)) (fun x y => AN [eS] x.1 y.1 (sI y.2 57 82) ∧ cKey x.2 y.2 ∧ cAU x.2 y.2) := by
  have r := (K4F_of hT.1).1 15 25 rfl
  have kf := K4F_of hT.1
  have x1 := FR_X hT (TI_t hm 1) (FR_t hT hm h 1)
  have hmf := MF_of (TI_t hm 0)
  have n := h.NW
  have f0 := FR_t hT hm h 0
  obtain ⟨c, g, h1, h2, h3, h4, h5, h6, h7, h8⟩ := h.Key
  have yes : (sI m 57 62 = -1 → c < 20) → H2 (f_K_emergency_B23 S (some 4)) (f_M_emergency_B18 m (some 57) (some 57)) (fun x y => AN [eS] x.1 y.1 (sI y.2 57 82) ∧ cKey x.2 y.2 ∧ cAU x.2 y.2) := fun c20 => by
    unfold f_K_emergency_B23 f_K_emergency_B28 f_M_emergency_B18 f_M_emergency_B23
    refine l_of (st_bx (rS1 S)) (m_of st_rv (m_p2 p_may (fun v m' q => ?_)))
    cases q
    refine m_of (st_F one0) (l_of (st_gRe r) (l_of st_rv (l_pd (p_repl (h3.1.trans h2.1) (h3.2.1.trans h2.2) h3.2.2.1 (by omega) c20) (fun S5 p => ?_))))
    obtain ⟨⟨r1, r2, r3⟩, r4, r5, r6⟩ := p
    -- the reference up to the signing
    have tail : ∀ (m5 : AS) (gg : Nat), gg < 20 → sI m5 57 62 = Int32.ofNat gg → sI S5 25 1 = Int32.ofNat gg → sR m5 = sR m → sL m5 = sL m → (∀ p j, ¬ (p = 111 ∧ j = g) → ¬ (p = 57 ∧ (j = 82 ∨ j = 60 ∨ j = 62)) → sI m5 p j = sI m p j) → sI m5 57 82 = 0 →
        (∀ M, (∀ p j, ¬ (p = 57 ∧ (j = 61 ∨ j = 62)) → sI M p j = sI m5 p j) → sI M 57 61 = Int32.ofNat gg → sI M 57 62 = -1 → ∀ S9, (∀ j, sI S9 25 j = sI S5 25 j) → (∀ j, sI S9 26 j = sI S5 26 j) → KY (sI m 57 0).toInt S9 M) →
        H2 ((gR S5 22 1 (some 4)).bind fun v6 => (gR S5 22 15 (some 4)).bind fun v7 => (gI S5 15 1 v7).bind fun v8 => (gI S5 22 0 (some 4)).bind fun v9 => (kr_rv S5 12 v6).bind fun u10 => (f_Audit_write S5 v6 (5 : Int32) v8 v9).bind fun S11 => (gR S11 22 15 (some 4)).bind fun v12 => (gI S11 15 1 v12).bind fun v13 => some ((Sum.inl v13 : Int32 ⊕ String), S11))
          (f_M_emergency_B67 m5 (some 57)) (fun x y => AN [eS] x.1 y.1 (sI y.2 57 82) ∧ cKey x.2 y.2 ∧ cAU x.2 y.2) := fun m5 gg g20 e62 eS5 er el eo e82 ky => by
      unfold f_M_emergency_B67
      refine m_of (st_gIe e62) (m_of st_pI (m_of st_pI (m_of (st_gIe (v := Int32.ofNat gg) ((ti_sI_ne (by omega)).trans (ti_sI_eq _ _ _ _))) (m_of st_rv ?_))))
      obtain ⟨M, eM⟩ : ∃ M, M = wI (wI m5 57 61 (Int32.ofNat gg)) 57 62 (-1) := ⟨_, rfl⟩
      rw [← eM]
      have oM : ∀ p j, ¬ (p = 57 ∧ (j = 61 ∨ j = 62)) → sI M p j = sI m5 p j := fun p j q => by rw [eM, ti_sI_ne (by omega), ti_sI_ne (by omega)]
      have kf5 : K4F S5 := by
        unfold K4F
        rw [r1]
        exact kf
      refine l_of (st_gRe (kf5.1 1 5 rfl)) (l_of (st_gRe (kf5.1 15 25 rfl)) (l_of (st_gIe eS5) (l_of st_gI (l_of st_rv (l_pd (p_aw kf5.2.1 kf5.2.2.1 rfl) (fun S11 a => ?_))))))
      refine m_pd (p_mw (m := M) (MF_e (MF_of hm) (by rw [eM]; exact er))) (fun m6 b => ?_)
      have a : AWK S5 S11 (Int32.ofNat 5) (Int32.ofNat gg) := a
      have b : AWM M m6 (Int32.ofNat 5) (Int32.ofNat gg) := b
      have rr : sR S11 4 15 = some 25 := by rw [a.1.1]; exact kf5.1 15 25 rfl
      have s1 : sI S11 25 1 = Int32.ofNat gg := (a.1.2.2 25 1 (by omega) (by omega) (by omega)).trans eS5
      have M61 : sI M 57 61 = Int32.ofNat gg := by rw [eM, ti_sI_ne (by omega), ti_sI_eq]
      have m61 : sI m6 57 61 = Int32.ofNat gg := (b.1.2.2 57 61 (by omega) (by omega) (by omega) (by omega)).trans M61
      refine l_of (st_gRe rr) (l_of (st_gIe s1) (m_of (st_gIe m61) (h2_ret ⟨AN_v ?_, ?_, ?_⟩)))
      · rw [b.1.2.2 57 82 (by omega) (by omega) (by omega) (by omega), oM 57 82 (by omega), e82]
      · unfold cKey
        have e0 : sI m6 57 0 = sI m 57 0 := by rw [b.1.2.2 57 0 (by omega) (by omega) (by omega) (by omega), oM 57 0 (by omega), eo 57 0 (by omega) (by omega)]
        rw [e0]
        exact KY_cong (S := S11) (ky M oM M61 (by rw [eM, ti_sI_eq]) S11 (fun j => a.1.2.2 25 j (by omega) (by omega) (by omega)) (fun j => a.1.2.2 26 j (by omega) (by omega) (by omega))) (fun _ => rfl) (fun _ => rfl) (fun p j q => b.1.2.2 p j (by omega) (by omega) (by omega) (by omega))
      · have n60 : nS m ≤ 60 := h.Ses.1.1
        have e89 : sI m6 89 = sI m 89 := funext fun x => by rw [b.1.2.2 89 x (by omega) (by omega) (by omega) (by omega), oM 89 x (by omega), eo 89 x (by omega) (by omega)]
        have eS : nS m6 = nS m := by
          unfold nS
          rw [b.1.2.2 57 30 (by omega) (by omega) (by omega) (by omega), oM 57 30 (by omega), eo 57 30 (by omega) (by omega)]
        unfold cAU
        rw [e89, eS]
        refine AU_w (k := 5) (nu := gg) (lv := sI m 89) (n := nS m) (S := S5) (m := M) (AU_cong h.AU (r3 5 2 (by omega)) (funext fun j => r3 6 j (by omega)) ?_ ?_ ?_ rfl (r3 5 3 (by omega)) (funext fun j => r3 7 j (by omega)) (fun z => (r3 4 0 (by omega)).trans (z.trans (by rw [oM 57 0 (by omega), eo 57 0 (by omega) (by omega)]))) (by rw [oM 57 81 (by omega), eo 57 81 (by omega) (by omega)]) (funext fun j => by rw [oM 125 j (by omega), eo 125 j (by omega) (by omega)])) ?_ n60 n60 (by omega) (by omega) a b (fun s _ => by omega) (fun s _ => ⟨Or.inl, fun q => q.elim id (fun z => absurd z.1 (by decide))⟩) (fun s h => Or.inl ⟨rfl, h, Or.inl (by omega)⟩)
        · rw [oM 57 77 (by omega), eo 57 77 (by omega) (by omega)]
        · exact funext fun j => by rw [oM 123 j (by omega), eo 123 j (by omega) (by omega)]
        · exact funext fun j => by rw [oM 124 j (by omega), eo 124 j (by omega) (by omega)]
        · rw [eM]
          show sL m5 123 = 1200
          rw [el]
          exact (ST_of hT hm h).2.2.2.1.2.2.2.2.2.2.2.2
    refine m_of (st_gRe (hmf 64 111 rfl)) (m_of (st_gIe (v := Int32.ofNat g) ((lv0 m (by omega) 0).trans h2.2)) (m_of (st_bZe (oc (by omega))) (m_of (st_gIe (v := sI m 57 62) ((ti_sI_ne (by omega)).trans (lv0 m (by omega) 0))) ?_)))
    rcases r6 with ⟨w1, w2, w3, w4⟩ | ⟨w1, w2, w3, w4⟩
    · have c20 := c20 w1
      refine m_of (st_T w1) (m_of (st_gIe (v := Int32.ofNat c) ((ti_sI_ne (by omega)).trans ((lv0 m (by omega) 0).trans h2.1))) (m_of st_pI (m_of (st_gIe (v := Int32.ofNat c) ((ti_sI_ne (by omega)).trans ((ti_sI_ne (by omega)).trans ((lv0 m (by omega) 0).trans h2.1)))) (m_of st_pI ?_))))
      refine tail _ c c20 ?_ w3 rfl rfl (fun p j q1 q2 => ?_) ?_ (fun M oM e61 e62 S9 k25 k26 => ?_)
      · rw [ti_sI_ne (by omega), ti_sI_eq]
      · rw [ti_sI_ne (by omega), ti_sI_ne (by omega), ti_sI_ne q1, ti_sI_ne (by omega)]
      · rw [ti_sI_ne (by omega), ti_sI_ne (by omega), ti_sI_ne (by omega)]
        exact ti_sI_eq _ _ _ _
      · have m60 : sI M 57 60 = Int32.ofNat (c + 1) := by rw [oM 57 60 (by omega), ti_sI_eq, o1]
        have m63 : sI M 57 63 = sI m 57 63 := by rw [oM 57 63 (by omega), ti_sI_ne (by omega), ti_sI_ne (by omega), ti_sI_ne (by omega), ti_sI_ne (by omega)]
        have m112 : ∀ k, sI M 112 k = sI m 112 k := fun k => by rw [oM 112 k (by omega), ti_sI_ne (by omega), ti_sI_ne (by omega), ti_sI_ne (by omega), ti_sI_ne (by omega)]
        have m111 : ∀ k, k ≠ g → sI M 111 k = sI m 111 k := fun k q => by rw [oM 111 k (by omega), ti_sI_ne (by omega), ti_sI_ne (by omega), ti_sI_ne (fun z => q z.2), ti_sI_ne (by omega)]
        have m111g : sI M 111 g = 1 := by rw [oM 111 g (by omega), ti_sI_ne (by omega), ti_sI_ne (by omega), ti_sI_eq]
        refine ⟨c + 1, c, by omega, ⟨m60, e61⟩, ⟨?_, ?_, ?_, ?_⟩, by rw [m112]; exact (h7 c c20 (Nat.le_refl _)).2, Or.inl e62, fun k hk => by rw [m112, k26, r3 26 k (by omega)]; exact h6 k hk, fun k hk hk2 => by rw [m112, m111 k (by omega)]; exact h7 k hk (by omega), fun k hk => ?_⟩
        · rw [k25, w2, m60]
        · rw [k25, w3, e61]
        · rw [k25, r4, e62]
        · rw [k25, r5, m63]
          exact h3.2.2.2
        · rw [k25, w4 k hk, h8 k hk]
          unfold KP
          rw [m60, m112, h2.1, oi (by omega), oi (by omega)]
          by_cases q : k = g
          · subst q
            rw [m111g]
            constructor
            · rintro (z | z)
              · exact absurd rfl z.2
              · omega
            · rintro ⟨-, z, -⟩
              exact absurd z (by decide)
          · rw [m111 k q]
            constructor
            · rintro (⟨⟨z1, z2⟩, -⟩ | z)
              · exact ⟨by omega, z2⟩
              · rw [z]
                exact ⟨by omega, (h7 c c20 (Nat.le_refl _)).1, Or.inl (h7 c c20 (Nat.le_refl _)).2⟩
            · rintro ⟨z1, z2⟩
              by_cases z : k = c
              · exact Or.inr z
              · exact Or.inl ⟨⟨by omega, z2⟩, q⟩
    · obtain ⟨w, u1, u2, u3, u4⟩ := h5.resolve_left w1
      refine m_of (st_F w1) ?_
      refine tail _ w (by omega) ?_ (w3.trans u3) rfl rfl (fun p j q1 q2 => ?_) ?_ (fun M oM e61 e62 S9 k25 k26 => ?_)
      · rw [ti_sI_ne (by omega), lv0 m (by omega), u3]
      · rw [ti_sI_ne q1, ti_sI_ne (by omega)]
      · rw [ti_sI_ne (by omega)]
        exact ti_sI_eq _ _ _ _
      · have m60 : sI M 57 60 = sI m 57 60 := by rw [oM 57 60 (by omega), ti_sI_ne (by omega), ti_sI_ne (by omega)]
        have m63 : sI M 57 63 = sI m 57 63 := by rw [oM 57 63 (by omega), ti_sI_ne (by omega), ti_sI_ne (by omega)]
        have m112 : ∀ k, sI M 112 k = sI m 112 k := fun k => by rw [oM 112 k (by omega), ti_sI_ne (by omega), ti_sI_ne (by omega)]
        have m111 : ∀ k, k ≠ g → sI M 111 k = sI m 111 k := fun k q => by rw [oM 111 k (by omega), ti_sI_ne (fun z => q z.2), ti_sI_ne (by omega)]
        have m111g : sI M 111 g = 1 := by rw [oM 111 g (by omega), ti_sI_eq]
        refine ⟨c, w, by omega, ⟨m60.trans h2.1, e61⟩, ⟨?_, ?_, ?_, ?_⟩, by rw [m112]; exact u4, Or.inl e62, fun k hk => by rw [m112, k26, r3 26 k (by omega)]; exact h6 k hk, fun k hk hk2 => by rw [m112, m111 k (by omega)]; exact h7 k hk hk2, fun k hk => ?_⟩
        · rw [k25, w2, m60, h2.1]
        · rw [k25, w3, e61, u3]
        · rw [k25, r4, e62]
        · rw [k25, r5, m63]
          exact h3.2.2.2
        · rw [k25, w4 k hk, h8 k hk]
          unfold KP
          rw [m60, m112]
          by_cases q : k = g
          · subst q
            rw [m111g]
            constructor
            · rintro z
              exact absurd rfl z.2
            · rintro ⟨-, z, -⟩
              exact absurd z (by decide)
          · rw [m111 k q]
            exact ⟨fun z => z.1, fun z => ⟨z, q⟩⟩
  unfold f_K_emergency f_M_emergency
  refine l_of (st_gRe r) (l_of (st_gIe h3.2.2.1) (m_of st_gI ?_))
  by_cases c1 : sI m 57 62 = -1
  · refine l_of (st_T c1) (m_of (st_T c1) (l_of (st_gRe r) (l_of (st_gIe (h3.1.trans h2.1)) (m_of (st_gIe h2.1) ?_))))
    by_cases c2 : (20 : Int32) ≤ Int32.ofNat c
    · refine l_of (st_T c2) (m_of (st_T c2) ?_)
      unfold f_K_emergency_B28 f_M_emergency_B23
      refine l_of (st_bxe (rS0 S)) (m_of st_rv (m_p2 p_may (fun v m' q => ?_)))
      cases q
      exact m_of (st_T rfl) (h2_ret ⟨AN_e 0 rfl (ti_sI_eq _ _ _ _), x1.Key, x1.AU⟩)
    · exact l_of (st_F c2) (m_of (st_F c2) (yes (fun _ => Nat.not_le.mp (fun q => c2 ((ole (a := 20) (b := c) (by decide) (by omega)).mpr q)))))
  · exact l_of (st_F c1) (m_of (st_F c1) (yes (fun q => absurd q c1)))
/-- lag -/
theorem h_lag (hT : TV T S) (hm : TI Tm m) (h : FR S m) (a : Int32) : H2 (f_K_lag S (some 4) a) (f_M_lag m (some 57) a) (fun x y => AN [eX] x.1 y.1 (sI y.2 57 82) ∧ P0 x.2 y.2) := by
  have b := FR_BB hT hm h
  have hmf := MF_of (TI_t hm 0)
  have L : ∀ {p j : Nat}, ¬ (p = 57 ∧ j = 82) → sI (wI m 57 82 0) p j = sI m p j := fun q => lv0 m q 0
  unfold f_K_lag f_M_lag
  refine h_fT b a (fun t ht e => ?_) ⟨AN_e 0 rfl (ti_sI_eq _ _ _ _), trivial⟩
  have z := h.Tok.1.1
  have zf := h.Fam.1.1
  have ea : a.toNatClampNeg = t := by rw [e]; exact oc (by unfold nT at ht; omega)
  obtain ⟨⟨f, f1, f2, f3⟩, -, ⟨v, v1, v2, v3⟩, -, -, -, h6, h7, h8⟩ := h.Tok.2 t ht
  obtain ⟨g1, g2, g3⟩ := h.God.2 f f1
  have f60 : f < 60 := by unfold nF at f1; omega
  have no : H2 (some ((Sum.inl (0 : Int32) : Int32 ⊕ String), S)) (f_M_lag_B69 (wI m 57 82 0) (some 57) a) (fun x y => AN [eX] x.1 y.1 (sI y.2 57 82) ∧ P0 x.2 y.2) := by
    unfold f_M_lag_B69 f_M_lag_B70
    exact m_of (st_T rfl) (h2_ret ⟨AN_v (ti_sI_eq _ _ _ _), trivial⟩)
  refine l_of (st_gRe f2) (l_of (st_gIe g1) ?_)
  refine m_of (st_gRe (hmf 51 103 rfl)) (m_of (st_gRe (hmf 57 108 rfl)) (m_of (st_aIe ea ((L (by omega)).trans f3)) (m_of (st_aIe (v := sI m 103 f) (oc (by omega)) (L (by omega))) ?_)))
  by_cases c1 : sI m 103 f = 0
  · refine l_of (st_T c1) (m_of (st_T c1) (l_of (st_gIe v2) (l_of (st_gRe f2) (l_of st_gI (l_of (st_b2 (bt_is (by omega) S)) ?_)))))
    refine m_of (st_gRe (hmf 69 116 rfl)) (m_of (st_gRe (hmf 54 105 rfl)) (m_of (st_aIe ea ((L (by omega)).trans v3)) (m_of (st_gRe (hmf 57 108 rfl)) (m_of (st_aIe ea ((L (by omega)).trans f3)) (m_of (st_aIe (v := sI m 116 (60 * v + f)) (ix60 v v1 f f60) (L (by omega))) ?_)))))
    have t01 : sI m 116 (60 * v + f) = 0 ∨ sI m 116 (60 * v + f) = 1 := by
      obtain ⟨-, tt, -⟩ := md_at hm (j := 69) (p := 116) rfl rfl
      exact In01 (hm.t5 116 _ 240 0 1 (by rw [tt]; rfl) (by omega))
    have td := g2 v v1
    by_cases c2 : sI m 116 (60 * v + f) = 1
    · rw [if_pos (td.mpr c2)]
      exact l_of (st_F one0) (m_of (st_F (by rw [c2]; decide)) no)
    · rw [if_neg (fun q => c2 (td.mp q))]
      have n := h.NW
      refine l_of (st_T rfl) (m_of (st_T (t01.resolve_right c2)) (l_of (st_gIe h6) (l_of (st_gIe n.1) ?_)))
      refine m_of (st_gIe (v := sI m 57 0) (L (by omega))) (m_of (st_gRe (hmf 59 110 rfl)) (m_of (st_aIe (v := sI m 110 t) ea (L (by omega))) ?_))
      have e1 : (sI m 110 t - sI m 57 0 + 1).toInt = (sI m 110 t).toInt - (sI m 57 0).toInt + 1 := by
        obtain ⟨-, n1, n2⟩ := h.NW
        have e0 : (sI m 110 t - sI m 57 0).toInt = (sI m 110 t).toInt - (sI m 57 0).toInt := by
          rw [Int32.toInt_sub]
          exact bm (by omega) (by omega)
        rw [Int32.toInt_add, e0, show (1 : Int32).toInt = 1 from by decide]
        exact bm (by omega) (by omega)
      by_cases c3 : sI m 110 t < sI m 57 0
      · rw [if_neg (fun q => by
          have := Int32.lt_iff_toInt_lt.mp q
          have := Int32.lt_iff_toInt_lt.mp c3
          rw [e1, show (0 : Int32).toInt = 0 from by decide] at *
          omega)]
        exact m_of (st_T c3) no
      · rw [if_pos (Int32.lt_iff_toInt_lt.mpr (by
          have : ¬ (sI m 110 t).toInt < (sI m 57 0).toInt := fun q => c3 (Int32.lt_iff_toInt_lt.mpr q)
          rw [e1, show (0 : Int32).toInt = 0 from by decide]
          omega))]
        refine m_of (st_F c3) ?_
        unfold f_M_lag_B70
        refine m_of (st_F one0) (m_of (st_gRe (hmf 59 110 rfl)) (m_of (st_aIe (v := sI m 110 t) ea (L (by omega))) (m_of (st_gIe (v := sI m 57 0) (L (by omega))) (h2_ret ⟨AN_v (ti_sI_eq _ _ _ _), trivial⟩))))
  · exact l_of (st_F c1) (m_of (st_F c1) no)
end
