/-! ===== check, level, asked ===== -/
theorem bt0 : ∀ j, j < 32 → bt (0 : Int32) j = false := by decide +kernel
theorem bt_zr {j : Nat} : bt (0 : Int32) j = false := by
  by_cases c : j < 32
  · exact bt0 j c
  · exact bt_big (by omega)
/-- is a key open -/
theorem p_open {m : AS} (hmf : MF m) {c k : Nat} (hc : sI m 57 60 = Int32.ofNat c) (h20 : c ≤ 20) (hk : k < 20) : Hp (f_M_isOpenKey m (some 57) (Int32.ofNat k)) (fun q => q.2 = m ∧ (q.1 = 0 ∨ q.1 = 1) ∧ (q.1 = 1 ↔ KP (sI m 57 0).toInt m k)) := by
  unfold f_M_isOpenKey f_M_isOpenKey_B40
  have kp : KP (sI m 57 0).toInt m k ↔ (k : Int) < (sI m 57 60).toInt ∧ sI m 111 k = 0 ∧ (sI m 112 k = -1 ∨ (sI m 57 0).toInt < (sI m 112 k).toInt) := Iff.rfl
  rw [hc, oi (by omega)] at kp
  have z : ∀ {P : Prop}, ¬ P → ((0 : Int32) = 1 ↔ P) := fun hp => ⟨fun q => absurd q (by decide), fun q => absurd q hp⟩
  refine p_of (st_gIe hc) (p_if (fun c1 => p_ret ⟨rfl, Or.inl rfl, z (fun q => ?_)⟩) (fun c1 => ?_))
  · have := (ole (by omega) (by omega)).mp c1
    have := (kp.mp q).1
    omega
  · refine p_of (st_gRe (hmf 64 111 rfl)) (p_of (st_aIe (v := sI m 111 k) (oc (by omega)) rfl) (p_if (fun c2 => ?_) (fun c2 => p_ret ⟨rfl, Or.inl rfl, z (fun q => c2 (kp.mp q).2.1)⟩)))
    have kc : k < c := Nat.not_le.mp (fun q => c1 ((ole (by omega) (by omega)).mpr q))
    refine p_of (st_gRe (hmf 65 112 rfl)) (p_of (st_aIe (v := sI m 112 k) (oc (by omega)) rfl) (p_if (fun c3 => p_ret ⟨rfl, Or.inr rfl, fun _ => kp.mpr ⟨by omega, c2, Or.inl c3⟩, fun _ => rfl⟩) (fun c3 => ?_)))
    refine p_of st_gI (p_of (st_gRe (hmf 65 112 rfl)) (p_of (st_aIe (v := sI m 112 k) (oc (by omega)) rfl) (p_if (fun c4 => p_ret ⟨rfl, Or.inl rfl, z (fun q => ?_)⟩) (fun c4 => p_ret ⟨rfl, Or.inr rfl, fun _ => kp.mpr ⟨by omega, c2, Or.inr (Int.not_le.mp (fun q => c4 (Int32.le_iff_toInt_le.mpr q)))⟩, fun _ => rfl⟩))))
    have := (kp.mp q).2.2.resolve_left c3
    have := Int32.le_iff_toInt_le.mp c4
    omega
/-- the reference fetches the keys -/
theorem h_fetch_L {α : Type} {x : Option α} {Q : α → Int32 × AS → Prop} {m0 : AS} {v c : Nat} {t d : Int32} (hmf : MF m0) (hv : v < 4) (hc : sI m0 57 60 = Int32.ofNat c) (h20 : c ≤ 20)
    (H : ∀ M, (sR M = sR m0 ∧ sL M = sL m0 ∧ ∀ p j, ¬ (p = 114 ∧ j = v) → ¬ (p = 115 ∧ j = v) → sI M p j = sI m0 p j) → (∀ b, b < 20 → (bt (sI M 114 v) b = true ↔ KP (sI m0 57 0).toInt m0 b)) → sI M 115 v = sI m0 57 0 → H2 x (f_M_check_B168 M (some 57) (Int32.ofNat v) t d) Q) :
    ∀ (k j fu : Nat) (M : AS), j + k = 20 → (sR M = sR m0 ∧ sL M = sL m0 ∧ ∀ p i, ¬ (p = 114 ∧ i = v) → sI M p i = sI m0 p i) → (∀ b, b < 20 → (bt (sI M 114 v) b = true ↔ b < j ∧ KP (sI m0 57 0).toInt m0 b)) → H2 x (f_M_check_L119 fu M (some 57) (Int32.ofNat v) t d (Int32.ofNat j)) Q
  | _, _, 0, _, _, _, _ => h2_m0
  | 0, j, fu + 1, M, hk, ho, hb => by
    unfold f_M_check_L119 f_M_check_C119
    obtain ⟨o1', o2, o3⟩ := ho
    have j20 : j = 20 := by omega
    subst j20
    refine m_of (st_T (by decide)) (m_of (st_gRe (MF_e hmf o1' 68 115 rfl)) (m_of (st_gIe (v := sI m0 57 0) (o3 57 0 (by omega))) (m_of (st_bIe (oc (by omega))) (H _ ⟨o1', o2, fun p i q1 q2 => ?_⟩ (fun b hb2 => ?_) (ti_sI_eq _ _ _ _)))))
    · rw [ti_sI_ne q2]
      exact o3 p i q1
    · rw [ti_sI_ne (by omega), hb b hb2]
      exact ⟨fun q => q.2, fun q => ⟨hb2, q⟩⟩
  | k + 1, j, fu + 1, M, hk, ho, hb => by
    unfold f_M_check_L119 f_M_check_C119
    have ho' := ho
    obtain ⟨o1', o2, o3⟩ := ho
    have hmf' := MF_e hmf o1'
    have nj : ¬ (20 : Int32) ≤ Int32.ofNat j := fun q => by
      have := (ole (a := 20) (b := j) (by decide) (by omega)).mp q
      omega
    have ekp : ∀ b, KP (sI M 57 0).toInt M b ↔ KP (sI m0 57 0).toInt m0 b := fun b => by
      unfold KP
      rw [o3 57 0 (by omega), o3 57 60 (by omega), o3 111 b (by omega), o3 112 b (by omega)]
    refine m_of (st_F nj) (m_of (st_gRe (hmf' 67 114 rfl)) (m_of (st_aIe (v := sI M 114 v) (oc (by omega)) rfl) (m_of st_rv (m_p2 (p_open hmf' (c := c) ((o3 57 60 (by omega)).trans hc) h20 (by omega)) (fun y M' p => ?_)))))
    obtain ⟨p1, p2, p3⟩ := p
    have p1 : M' = M := p1
    have p3 : y = 1 ↔ _ := p3
    have p2 : y = 0 ∨ y = 1 := p2
    rw [p1]
    rw [ekp] at p3
    have go : ∀ w : Int32, (∀ b, b < 20 → (bt w b = true ↔ b < j + 1 ∧ KP (sI m0 57 0).toInt m0 b)) → H2 x (((bI M (some 114) (Int32.ofNat v) w 46).bind fun S1 => (some (Int32.ofNat j + (1 : Int32))).bind fun i2 => f_M_check_L119 fu S1 (some 57) (Int32.ofNat v) t d i2)) Q := fun w hw => by
      refine m_of (st_bIe (oc (by omega))) (m_of st_val ?_)
      rw [o1]
      refine h_fetch_L hmf hv hc h20 H k (j + 1) fu _ (by omega) ⟨o1', o2, fun p i q => ?_⟩ (fun b h => ?_)
      · rw [ti_sI_ne q]
        exact o3 p i q
      · rw [ti_sI_eq]
        exact hw b h
    unfold f_M_check_B150
    rcases p2 with q | q
    · refine m_of (st_T q) (go _ (fun b h => ?_))
      rw [bt_or, bt_zr, Bool.or_false, hb b h]
      constructor
      · rintro ⟨z1, z2⟩
        exact ⟨by omega, z2⟩
      · rintro ⟨z1, z2⟩
        by_cases e : b = j
        · subst e
          have := p3.mpr z2
          rw [q] at this
          exact absurd this (by decide)
        · exact ⟨by omega, z2⟩
    · refine m_of (st_F (by rw [q]; decide)) (go _ (fun b h => ?_))
      rw [bt_sh20 _ (by omega), hb b h]
      constructor
      · rintro (⟨z1, z2⟩ | z)
        · exact ⟨by omega, z2⟩
        · rw [z]
          exact ⟨by omega, p3.mp q⟩
      · rintro ⟨z1, z2⟩
        by_cases e : b = j
        · exact Or.inr e
        · exact Or.inl ⟨by omega, z2⟩
theorem bt_is20' {x : Int32} {v : Nat} (hv : v < 20) : ((x >>> (Int32.ofNat v &&& 31)) &&& (1 : Int32)) = 0 ↔ ¬ bt x v = true := by
  rw [← bt_test20 x hv]
  have h01 : ∀ y : Int32, y &&& 1 = 0 ∨ y &&& 1 = 1 := fun y => by
    have l1 : ∀ i, i < 32 → (1#32).getLsbD i = decide (i = 0) := by decide +kernel
    have : ∀ b : BitVec 32, b &&& 1#32 = 0#32 ∨ b &&& 1#32 = 1#32 := fun b => by
      by_cases c : b.getLsbD 0 = true
      · exact Or.inr ((and1 b).mpr c)
      · refine Or.inl (BitVec.eq_of_getLsbD_eq (fun i hi => ?_))
        rw [BitVec.getLsbD_and, l1 i hi, BitVec.getLsbD_zero]
        by_cases z : i = 0
        · subst z
          rw [Bool.eq_false_iff.mpr c]
          rfl
        · rw [decide_eq_false z, Bool.and_false]
    rcases this y.toBitVec with q | q
    · exact Or.inl (Int32.toBitVec_inj.mp (by rw [Int32.toBitVec_and]; exact q))
    · exact Or.inr (Int32.toBitVec_inj.mp (by rw [Int32.toBitVec_and]; exact q))
  rcases h01 (x >>> (Int32.ofNat v &&& 31)) with q | q
  · rw [q]
    exact ⟨fun _ => by decide, fun _ => rfl⟩
  · rw [q]
    exact ⟨fun z => absurd z (by decide), fun z => absurd rfl z⟩
section
variable {T Tm : Nat → Nat} {S m : AS}
/-- the class fetches the keys -/
theorem p_fetch (k4 : K4F S) {v k : Nat} (hv : v < 4) (hk : k < 20) : Hp (f_K_fetchKeys S (some 4) (some (53 + v)) (Int32.ofNat k)) (fun S' => ((sI S (53 + v) 1 ≠ 0 ∧ ((15 : Int32) < sI S 4 0 - sI S (53 + v) 3 ∨ ¬ bt (sI S (53 + v) 2) k = true)) ∧ S' = wI (wI S (53 + v) 2 (sI S 25 4)) (53 + v) 3 (sI S 4 0)) ∨ (¬ (sI S (53 + v) 1 ≠ 0 ∧ ((15 : Int32) < sI S 4 0 - sI S (53 + v) 3 ∨ ¬ bt (sI S (53 + v) 2) k = true)) ∧ S' = S)) := by
  have yes : ((15 : Int32) < sI S 4 0 - sI S (53 + v) 3 ∨ ¬ bt (sI S (53 + v) 2) k = true) → Hp (f_K_fetchKeys_B25 S (some 4) (some (53 + v))) (fun S' => ((sI S (53 + v) 1 ≠ 0 ∧ ((15 : Int32) < sI S 4 0 - sI S (53 + v) 3 ∨ ¬ bt (sI S (53 + v) 2) k = true)) ∧ S' = wI (wI S (53 + v) 2 (sI S 25 4)) (53 + v) 3 (sI S 4 0)) ∨ (¬ (sI S (53 + v) 1 ≠ 0 ∧ ((15 : Int32) < sI S 4 0 - sI S (53 + v) 3 ∨ ¬ bt (sI S (53 + v) 2) k = true)) ∧ S' = S)) := fun q => by
    unfold f_K_fetchKeys_B25 f_K_fetchKeys_B30
    refine p_of st_gI (p_if (fun c => p_ret (Or.inr ⟨fun z => z.1 c, rfl⟩)) (fun c => p_of (st_F one0) ?_))
    exact p_of (st_gRe (k4.1 15 25 rfl)) (p_of st_gI (p_of st_pI (p_of (st_gIe (v := sI S 4 0) (ti_sI_ne (by omega))) (p_of st_pI (p_ret (Or.inl ⟨⟨c, q⟩, rfl⟩))))))
  unfold f_K_fetchKeys
  refine p_of st_gI (p_of st_gI (p_if (fun c => yes (Or.inl c)) (fun c => p_of st_gI (p_of (st_b2 (bt_is20 hk S)) ?_))))
  by_cases d : bt (sI S (53 + v) 2) k = true
  · rw [if_pos d]
    refine p_of (st_F one0) ?_
    unfold f_K_fetchKeys_B30
    exact p_of st_gI (p_if (fun e => p_ret (Or.inr ⟨fun z => z.1 e, rfl⟩)) (fun e => p_of (st_T rfl) (p_ret (Or.inr ⟨fun z => z.2.elim c (fun y => y d), rfl⟩))))
  · rw [if_neg d]
    exact p_of (st_T rfl) (yes (Or.inr d))
theorem h_check (hT : TV T S) (hm : TI Tm m) (h : FR S m) (a t d : Int32) : H2 (f_K_check S (some 4) a t d) (f_M_check m (some 57) a t d) (fun x y => AN [eX, eA] x.1 y.1 (sI y.2 57 82) ∧ cChe x.2 y.2) := by
  have b := FR_BB hT hm h
  have hmf := MF_of (TI_t hm 0)
  have k4 := K4F_of hT.1
  have lv : ∀ {p j : Nat}, ¬ (p = 57 ∧ j = 82) → sI (wI m 57 82 0) p j = sI m p j := fun q => lv0 m q 0
  have h0 := (FR_t hT hm h 0).Che
  have bad1 : H2 (some ((Sum.inr eX : Int32 ⊕ String), wX S)) (f_M_check_B20 m (some 57) a t d 0) (fun x y => AN [eX, eA] x.1 y.1 (sI y.2 57 82) ∧ cChe x.2 y.2) := by
    unfold f_M_check_B20
    refine m_of (st_b2 (q_isIn m d 0 3)) (m_of st_rv (m_p2 p_mayB (fun v m' q => ?_)))
    cases q
    exact m_of (st_T rfl) (h2_ret ⟨AN_e 0 rfl (ti_sI_eq _ _ _ _), (FR_X hT (TI_t hm 1) (FR_t hT hm h 1)).Che⟩)
  unfold f_K_check f_M_check f_M_check_B19
  refine m_of (st_b2 (q_ser m a)) (l_of st_rv (l_bx (fun z S' e => ?_) (fun z S' e => ?_)))
  · rcases x_fV b a _ e with ⟨i, i1, rfl, e2⟩ | ⟨no, e2⟩
    · cases e2
      rw [if_pos ((fou_iff _).mpr ⟨i, i1, rfl⟩)]
      refine m_of (st_F one0) (m_of st_rv (m_p2 (x_MT b t) (fun z m2 p => ?_)))
      refine l_of st_rv (l_bx (fun z S' e => ?_) (fun z S' e => ?_))
      · rcases x_fT b t _ e with ⟨s, s1, rfl, e2⟩ | ⟨no, e2⟩
        · cases e2
          rcases p with ⟨-, p2⟩ | ⟨p1, -⟩
          · cases p2
            refine m_of (st_F one0) ?_
            unfold f_M_check_B20
            refine l_of (st_b2 (q_win S d 0 3)) (m_of (st_b2 (q_isIn m d 0 3)) (m_of st_rv ?_))
            by_cases cd : 0 ≤ d ∧ d ≤ 3
            · rw [if_pos cd]
              obtain ⟨w, w1, ew⟩ := (fou_iff d).mp cd
              subst ew
              refine m_p2 p_mayB (fun z m2 p => ?_)
              cases p
              refine l_of (st_bx (rA1 S)) (m_of (st_F one0) ?_)
              have zt := (zT b).1
              have s200 : s < 201 := by
                unfold nT at s1
                omega
              have tt := tyT b s1
              obtain ⟨⟨f, f1, f2, f3⟩, -, ⟨v, v1, v2, v3⟩, g3, -, ⟨k, k1, k2, k3⟩, h6, -⟩ := h.Tok.2 s s1
              have f60 : f < 60 := by
                have := (zF b).1
                unfold nF at f1
                omega
              refine l_of (st_gIe v2) (m_of (st_gRe (hmf 54 105 rfl)) (m_of (st_aIe (v := Int32.ofNat v) (oc (by omega)) ((lv (by omega)).trans v3)) ?_))
              by_cases c1 : Int32.ofNat v = Int32.ofNat i
              · refine l_of (st_T c1) (m_of (st_T c1) ?_)
                have vi := oinj (by omega) (by omega) c1
                subst vi
                refine l_of (st_gIe h.NW.1) (l_of (st_gIe h6) (m_of (st_gIe (v := sI m 57 0) (lv (by omega))) (m_of (st_gRe (hmf 59 110 rfl)) (m_of (st_aIe (v := sI m 110 s) (oc (by omega)) (lv (by omega))) ?_))))
                by_cases c2 : sI m 57 0 ≤ sI m 110 s
                · refine l_of (st_T c2) (m_of (st_T c2) (l_of (st_gIe k2) (l_of st_rv ?_)))
                  have tv := kt_S hT.1 h.PF v1
                  have ntv : lel S 24 s ≠ 53 + v := fun q => by
                    rw [q, tv] at tt
                    exact absurd tt (by decide)
                  have ntf : lel S 23 f ≠ 53 + v := fun q => by
                    have := tyF b f1
                    rw [q, tv] at this
                    exact absurd this (by decide)
                  -- the end, behind the fetching
                  have fin : ∀ S' M, (sR S' = sR S ∧ ∀ p j, ¬ (p = 53 + v ∧ (j = 2 ∨ j = 3)) → sI S' p j = sI S p j) → (sR M = sR m ∧ ∀ p j, ¬ (p = 114 ∧ j = v) → ¬ (p = 115 ∧ j = v) → sI M p j = sI (wI m 57 82 0) p j) → cChe S' M →
                      H2 ((gI S' 21 5 (some (lel S 24 s))).bind fun v17 => (gI S' 18 2 (some (53 + v))).bind fun v18 => kr_b2 (f_K_isIn S' v17 v18) fun v20 S19 => if v20 = 0 then some ((Sum.inl (3 : Int32) : Int32 ⊕ String), S19) else (gR S19 21 0 (some (lel S 24 s))).bind fun v21 => (gI S19 14 11 v21).bind fun v22 => kr_b2 (f_K_isIn S19 (Int32.ofNat v) v22) fun v24 S23 => if v24 = 0 then (gI S23 21 3 (some (lel S 24 s))).bind fun v25 => kr_b2 (f_K_isIn S23 (Int32.ofNat w) v25) fun v27 S26 => if v27 = 0 then some ((Sum.inl (5 : Int32) : Int32 ⊕ String), S26) else some (.inl (0 : Int32), S26) else some (.inl (4 : Int32), S23))
                        (f_M_check_B168 M (some 57) (Int32.ofNat v) (Int32.ofNat s) (Int32.ofNat w)) (fun x y => AN [eX, eA] x.1 y.1 (sI y.2 57 82) ∧ cChe x.2 y.2) := fun S' M ho hM hch => by
                    have hmM : MF M := MF_e (MF_of hm) hM.1
                    have e82 : sI M 57 82 = 0 := (hM.2 57 82 (by omega) (by omega)).trans (ti_sI_eq _ _ _ _)
                    have eM : ∀ {p j : Nat}, ¬ (p = 114 ∧ j = v) → ¬ (p = 115 ∧ j = v) → ¬ (p = 57 ∧ j = 82) → sI M p j = sI m p j := fun q1 q2 q3 => (hM.2 _ _ q1 q2).trans (lv q3)
                    unfold f_M_check_B168
                    refine l_of (st_gIe (v := Int32.ofNat k) ((ho.2 _ 5 (by omega)).trans k2)) (l_of st_gI (l_of (st_b2 (bt_is20 k1 S')) ?_))
                    refine m_of (st_gRe (hmM 67 114 rfl)) (m_of (st_aIe (v := sI M 114 v) (oc (by omega)) rfl) (m_of (st_gRe (hmM 58 109 rfl)) (m_of (st_aIe (v := Int32.ofNat k) (oc (by omega)) ((eM (by omega) (by omega) (by omega)).trans k3)) ?_)))
                    have ek := (hch v v1).1 k k1
                    by_cases d1 : bt (sI S' (53 + v) 2) k = true
                    · rw [if_pos d1]
                      refine l_of (st_F one0) (m_of (st_F (fun q => (bt_is20' k1).mp q (ek.symm.trans d1))) ?_)
                      refine l_of (st_gRe (v := some (lel S 23 f)) (by rw [ho.1]; exact f2)) (l_of (st_gIe (v := sI S (lel S 23 f) 11) (ho.2 _ 11 (by omega))) (l_of (st_b2 (bt_is (by omega) S')) ?_))
                      refine m_of (st_gRe (hmM 69 116 rfl)) (m_of (st_gRe (hmM 57 108 rfl)) (m_of (st_aIe (v := Int32.ofNat f) (oc (by omega)) ((eM (by omega) (by omega) (by omega)).trans f3)) (m_of (st_aIe (v := sI m 116 (60 * v + f)) (ix60 v v1 f f60) (eM (by omega) (by omega) (by omega))) ?_)))
                      have gd := (h.God.2 f f1).2.1 v v1
                      have t01 : sI m 116 (60 * v + f) = 0 ∨ sI m 116 (60 * v + f) = 1 := by
                        obtain ⟨-, tt, -⟩ := md_at hm (j := 69) (p := 116) rfl rfl
                        exact In01 (hm.t5 116 _ 240 0 1 (by rw [tt]; rfl) (by omega))
                      by_cases d2 : bt (sI S (lel S 23 f) 11) v = true
                      · rw [if_pos d2]
                        exact l_of (st_F one0) (m_of (st_F (by rw [gd.mp d2]; decide)) (h2_ret ⟨AN_v e82, hch⟩))
                      · rw [if_neg d2]
                        refine l_of (st_T rfl) (m_of (st_T (t01.resolve_right (fun q => d2 (gd.mpr q)))) ?_)
                        refine l_of (st_gIe (v := sI m 106 s) ((ho.2 _ 3 (by omega)).trans g3)) (l_of (st_b2 (bt_is20 (by omega) S')) ?_)
                        refine m_of (st_gRe (hmM 55 106 rfl)) (m_of (st_aIe (v := sI m 106 s) (oc (by omega)) (eM (by omega) (by omega) (by omega))) ?_)
                        by_cases d3 : bt (sI m 106 s) w = true
                        · rw [if_pos d3]
                          exact l_of (st_F one0) (m_of (st_F (fun q => (bt_is20' (by omega)).mp q d3)) (h2_ret ⟨AN_v e82, hch⟩))
                        · rw [if_neg d3]
                          exact l_of (st_T rfl) (m_of (st_T ((bt_is20' (by omega)).mpr d3)) (h2_ret ⟨AN_v e82, hch⟩))
                    · rw [if_neg d1]
                      exact l_of (st_T rfl) (m_of (st_T ((bt_is20' k1).mpr (fun q => d1 (ek.trans q)))) (h2_ret ⟨AN_v e82, hch⟩))
                  refine l_pd (p_fetch k4 v1 k1) (fun S16 p => ?_)
                  obtain ⟨ch1, ch2⟩ := h.Che v v1
                  have up := h.Srv v v1
                  obtain ⟨kc, kg, kb, ka1, ka2, -, -, -, -, ka8⟩ := h.Key
                  have nt := h.NW.1
                  have c20 := kb.2.1
                  rw [nt, ch2] at p
                  refine m_of (st_gRe (hmf 66 113 rfl)) (m_of (st_aIe (v := sI m 113 v) (oc (by omega)) (lv (by omega))) ?_)
                  -- the reference's fetching
                  have mf : S16 = wI (wI S (53 + v) 2 (sI S 25 4)) (53 + v) 3 (sI m 57 0) → H2 ((gI S16 21 5 (some (lel S 24 s))).bind fun v17 => (gI S16 18 2 (some (53 + v))).bind fun v18 => kr_b2 (f_K_isIn S16 v17 v18) fun v20 S19 => if v20 = 0 then some ((Sum.inl (3 : Int32) : Int32 ⊕ String), S19) else (gR S19 21 0 (some (lel S 24 s))).bind fun v21 => (gI S19 14 11 v21).bind fun v22 => kr_b2 (f_K_isIn S19 (Int32.ofNat v) v22) fun v24 S23 => if v24 = 0 then (gI S23 21 3 (some (lel S 24 s))).bind fun v25 => kr_b2 (f_K_isIn S23 (Int32.ofNat w) v25) fun v27 S26 => if v27 = 0 then some ((Sum.inl (5 : Int32) : Int32 ⊕ String), S26) else some (.inl (0 : Int32), S26) else some (.inl (4 : Int32), S23))
                        (f_M_check_B109 (wI m 57 82 0) (some 57) (Int32.ofNat v) (Int32.ofNat s) (Int32.ofNat w)) (fun x y => AN [eX, eA] x.1 y.1 (sI y.2 57 82) ∧ cChe x.2 y.2) := fun e => by
                    unfold f_M_check_B109
                    refine m_of (st_gRe (hmf 67 114 rfl)) (m_of (st_bIe (oc (by omega))) ?_)
                    refine h_fetch_L (m0 := wI m 57 82 0) (v := v) (c := kc) hmf v1 ((lv (by omega)).trans ka1.1) c20 (fun M hM1 hM2 hM3 => ?_) 20 0 kr_FU _ rfl ⟨rfl, rfl, fun p i q => ti_sI_ne q⟩ (fun b hb => ?_)
                    · rw [e]
                      refine fin _ M ⟨rfl, fun p j q => ?_⟩ ⟨hM1.1, hM1.2.2⟩ (fun u hu => ⟨fun b hb => ?_, ?_⟩)
                      · rw [ti_sI_ne (by omega), ti_sI_ne (by omega)]
                      · by_cases z : u = v
                        · subst z
                          rw [ti_sI_ne (by omega), ti_sI_eq, Bool.eq_iff_iff, ka8 b hb, hM2 b hb]
                          unfold KP
                          rw [lv (by omega), lv (by omega), lv (by omega), lv (by omega)]
                        · rw [ti_sI_ne (by omega), ti_sI_ne (by omega), hM1.2.2 114 u (by omega) (by omega), lv (by omega)]
                          exact (h.Che u hu).1 b hb
                      · by_cases z : u = v
                        · subst z
                          rw [ti_sI_eq, hM3, lv (by omega)]
                        · rw [ti_sI_ne (by omega), ti_sI_ne (by omega), hM1.2.2 115 u (by omega) (by omega), lv (by omega)]
                          exact (h.Che u hu).2
                    · rw [ti_sI_eq, bt_zr]
                      exact ⟨fun q => absurd q (by decide), fun q => absurd q.1 (Nat.not_lt_zero _)⟩
                  by_cases u : sI m 113 v = 0
                  · refine m_of (st_T u) (m_of (st_gIe (v := sI m 57 0) (lv (by omega))) (m_of (st_gRe (hmf 68 115 rfl)) (m_of (st_aIe (v := sI m 115 v) (oc (by omega)) (lv (by omega))) ?_)))
                    have un : sI S (53 + v) 1 ≠ 0 := fun q => up.mp q u
                    by_cases c3 : (15 : Int32) < sI m 57 0 - sI m 115 v
                    · rcases p with ⟨-, p⟩ | ⟨p1, -⟩
                      · exact m_of (st_T c3) (mf p)
                      · exact absurd ⟨un, Or.inl c3⟩ p1
                    · refine m_of (st_F c3) (m_of (st_gRe (hmf 67 114 rfl)) (m_of (st_aIe (v := sI m 114 v) (oc (by omega)) (lv (by omega))) (m_of (st_gRe (hmf 58 109 rfl)) (m_of (st_aIe (v := Int32.ofNat k) (oc (by omega)) ((lv (by omega)).trans k3)) ?_))))
                      by_cases c4 : bt (sI m 114 v) k = true
                      · refine m_of (st_F (fun q => (bt_is20' k1).mp q c4)) ?_
                        rcases p with ⟨p1, -⟩ | ⟨-, p⟩
                        · exact absurd p1.2 (fun q => q.elim c3 (fun z => z ((ch1 k k1).trans c4)))
                        · rw [p]
                          exact fin S _ ⟨rfl, fun _ _ _ => rfl⟩ ⟨rfl, fun _ _ _ _ => rfl⟩ h0
                      · refine m_of (st_T ((bt_is20' k1).mpr c4)) ?_
                        rcases p with ⟨-, p⟩ | ⟨p1, -⟩
                        · exact mf p
                        · exact absurd ⟨un, Or.inr (fun q => c4 ((ch1 k k1).symm.trans q))⟩ p1
                  · refine m_of (st_F u) ?_
                    rcases p with ⟨p1, -⟩ | ⟨-, p⟩
                    · exact absurd (up.mpr u) p1.1
                    · rw [p]
                      exact fin S _ ⟨rfl, fun _ _ _ => rfl⟩ ⟨rfl, fun _ _ _ _ => rfl⟩ h0
                · exact l_of (st_F c2) (m_of (st_F c2) (h2_ret ⟨AN_v (ti_sI_eq _ _ _ _), h0⟩))
              · exact l_of (st_F c1) (m_of (st_F c1) (h2_ret ⟨AN_v (ti_sI_eq _ _ _ _), h0⟩))
            · rw [if_neg cd]
              refine m_p2 p_mayB (fun z m2 p => ?_)
              cases p
              exact l_of (st_bxe (rA0 S)) (m_of (st_T rfl) (h2_ret ⟨AN_e 1 rfl (ti_sI_eq _ _ _ _), (FR_X hT (TI_t hm 2) (FR_t hT hm h 2)).Che⟩))
          · exact absurd ⟨s, s1, rfl⟩ p1
        · cases e2
      · rcases x_fT b t _ e with ⟨s, s1, rfl, e2⟩ | ⟨no, e2⟩
        · cases e2
        · cases e2
          rcases p with ⟨p1, -⟩ | ⟨-, p2⟩
          · exact absurd p1 no
          · cases p2
            exact m_of (st_T rfl) bad1
    · cases e2
  · rcases x_fV b a _ e with ⟨i, i1, rfl, e2⟩ | ⟨no, e2⟩
    · cases e2
    · cases e2
      rw [if_neg (fun q => no ((fou_iff _).mp q))]
      exact m_of (st_T rfl) bad1
/-! level -/
def lv8 (u : Nat) : Int32 := ((Int32.ofNat u &&& (1 : Int32)) + (Int32.ofNat u &&& (2 : Int32))) + ((3 : Int32) * ((Int32.ofNat u >>> ((2 : Int32) &&& 31)) &&& (1 : Int32)))
theorem lv8_st : ∀ j, j < 3 → ∀ u, u < 2 ^ j → (Int32.ofNat u ||| ((1 : Int32) <<< (Int32.ofNat j &&& 31))) = Int32.ofNat (u + 2 ^ j) ∧ lv8 u + Int32.ofNat (j + 1) = lv8 (u + 2 ^ j) ∧ u + 2 ^ j < 2 ^ (j + 1) := by decide +kernel
theorem p_wgt (hw : cWgt S m) {f : Nat} (hf : f < 3) : Hp (f_Shown_weightOf S (Int32.ofNat f)) (fun q => q = (Int32.ofNat (f + 1), S)) := by
  unfold f_Shown_weightOf
  refine p_of (st_b2 (q_Kfac S _)) ?_
  rw [if_pos ((thr_iff _).mpr ⟨f, hf, rfl⟩)]
  refine p_of (st_F one0) (p_of (st_aIe (v := Int32.ofNat (f + 1)) (oc (by omega)) ?_) (p_ret rfl))
  match f, hf with
  | 0, _ => exact hw.1
  | 1, _ => exact hw.2.1
  | 2, _ => exact hw.2.2
/-- the level of a row of minutes -/
theorem h_lvl_L (hw : cWgt S m) (hmf : MF m) {x p s : Nat} {now : Int32} (hx : sR S x 0 = some p) (hs : s < 60) (hn : sI m 57 0 = now) (n0 : 0 ≤ now.toInt) (n1 : now.toInt ≤ 30000) (hr : ∀ f, f < 3 → sI S p f = sI m 90 (3 * s + f) ∧ mok (sI m 90 (3 * s + f))) :
    ∀ (k j fu fu' u : Nat), j + k = 3 → u < 2 ^ j → H2 (f_Shown_levelSince_L4 fu S (some x) (now - 120) (lv8 u) (Int32.ofNat j)) (f_M_levelNow_L4 fu' m (some 57) (Int32.ofNat s) (Int32.ofNat u) (Int32.ofNat j)) (fun a b => ∃ w, w < 8 ∧ a = (lv8 w, S) ∧ b = (lv8 w, m))
  | _, _, 0, _, _, _, _ => h2_l0
  | _, _, _ + 1, 0, _, _, _ => h2_m0
  | 0, j, fu + 1, fu' + 1, u, hk, hu => by
    unfold f_Shown_levelSince_L4 f_Shown_levelSince_C4 f_M_levelNow_L4 f_M_levelNow_C4
    have e : j = 3 := by omega
    subst e
    refine l_of (st_T (by decide)) (m_of (st_T (by decide)) (m_of (st_b2 (v := lv8 u) (S' := m) rfl) (h2_ret ⟨u, by simpa using hu, rfl, rfl⟩)))
  | k + 1, j, fu + 1, fu' + 1, u, hk, hu => by
    unfold f_Shown_levelSince_L4 f_Shown_levelSince_C4 f_M_levelNow_L4 f_M_levelNow_C4
    have nj : ¬ (3 : Int32) ≤ Int32.ofNat j := fun q => by
      have := (ole (a := 3) (b := j) (by decide) (by omega)).mp q
      omega
    obtain ⟨r1, r2⟩ := hr j (by omega)
    obtain ⟨z1, z2, z3⟩ := lv8_st j (by omega) u hu
    have mm := m120 n0 n1 r2
    refine l_of (st_F nj) (m_of (st_F nj) (l_of (st_gRe hx) (l_of (st_aIe (oc (by omega)) r1) (m_of (st_gRe (hmf 36 90 rfl)) (m_of (st_aIe (v := sI m 90 (3 * s + j)) (ix3 s hs j (by omega)) rfl) ?_)))))
    have skip : H2 (f_Shown_levelSince_B36 (f_Shown_levelSince_L4 fu) S (some x) (now - 120) (lv8 u) (Int32.ofNat j)) (f_M_levelNow_B46 (f_M_levelNow_L4 fu') m (some 57) (Int32.ofNat s) (Int32.ofNat j) (Int32.ofNat u)) (fun a b => ∃ w, w < 8 ∧ a = (lv8 w, S) ∧ b = (lv8 w, m)) := by
      unfold f_Shown_levelSince_B36 f_M_levelNow_B46 f_M_levelNow_B47
      refine l_of st_val (m_of st_val (m_of st_val ?_))
      rw [o1, Int32.or_zero]
      exact h_lvl_L hw hmf hx hs hn n0 n1 hr k (j + 1) fu fu' u (by omega) (by omega)
    by_cases c1 : sI m 90 (3 * s + j) = -1
    · exact l_of (st_T c1) (m_of (st_T c1) skip)
    · refine l_of (st_F c1) (m_of (st_F c1) (l_of (st_gRe hx) (l_of (st_aIe (oc (by omega)) r1) (m_of (st_gIe hn) ?_))))
      by_cases c2 : (120 : Int32) < now - sI m 90 (3 * s + j)
      · have c3 : sI m 90 (3 * s + j) < now - 120 := Decidable.not_not.mp (fun q => (mm.mp ⟨c1, q⟩).2 c2)
        exact l_of (st_T c3) (m_of (st_T c2) skip)
      · have c3 := (mm.mpr ⟨c1, c2⟩).2
        refine l_of (st_F c3) (m_of (st_F c2) (l_p2 (p_wgt hw (by omega)) (fun v S' q => ?_)))
        cases q
        unfold f_Shown_levelSince_B36 f_M_levelNow_B47
        refine l_of st_val (l_of st_val (m_of st_val (m_of st_val ?_)))
        rw [o1, z1, z2]
        exact h_lvl_L hw hmf hx hs hn n0 n1 hr k (j + 1) fu fu' _ (by omega) z3
theorem h_levelAt (h : FR S m) {m' : AS} (hmf : MF m') (e : ∀ p j, ¬ (p = 57 ∧ j = 82) → sI m' p j = sI m p j) {s : Nat} (hs : s < nS m) : H2 (f_Session_levelAt S (some (lel S 19 s)) (sI m 57 0)) (f_M_levelNow m' (some 57) (Int32.ofNat s)) (fun a b => ∃ w, w < 8 ∧ a = (lv8 w, S) ∧ b = (lv8 w, m')) := by
  have z := h.Ses.1.1
  obtain ⟨x, ex⟩ := (h.Ses.2 s hs).2.2.2.1
  unfold f_Session_levelAt f_Shown_levelSince f_M_levelNow
  refine l_of (st_gRe ex) (l_of st_rv (l_b2 (fun v S' e1 => ?_)))
  have key : H2 (f_Shown_levelSince_L4 kr_FU S (some x) (sI m 57 0 - 120) 0 0) (f_M_levelNow_L4 kr_FU m' (some 57) (Int32.ofNat s) 0 0) (fun a b => ∃ w, w < 8 ∧ a = (lv8 w, S) ∧ b = (lv8 w, m')) := by
    cases c : sR S x 0 with
    | none =>
      show H2 (f_Shown_levelSince_C4 (f_Shown_levelSince_L4 1999) S (some x) (sI m 57 0 - 120) 0 0) _ _
      unfold f_Shown_levelSince_C4
      refine l_of (st_F (by decide)) (l_of (st_gRe c) (fun a b ha hb => nomatch ha))
    | some p =>
      have ep : mn S (lel S 19 s) 3 = p := by
        unfold mn
        rw [ex]
        show (sR S x 0).getD 0 = p
        rw [c]
        rfl
      have z8 : lv8 0 = 0 := by decide +kernel
      have q := h_lvl_L (S := S) (p := p) (m := m') (s := s) h.Wgt hmf c (by unfold nS at hs; omega) (e 57 0 (by omega)) h.NW.2.1 h.NW.2.2 (fun f hf => by
        rw [e 90 _ (by omega), ← ep]
        exact h.Ssh s hs f hf) 3 0 kr_FU kr_FU 0 rfl (by decide)
      rw [z8] at q
      exact q
  exact fun a b ha hb => by
    obtain ⟨w, w1, w2, w3⟩ := key _ _ e1 hb
    cases ha
    cases w2
    exact ⟨w, w1, rfl, w3⟩
theorem h_level (hT : TV T S) (hm : TI Tm m) (h : FR S m) (a : Int32) : H2 (f_K_level S (some 4) a) (f_M_level m (some 57) a) (fun x y => AN [eX] x.1 y.1 (sI y.2 57 82) ∧ P0 x.2 y.2) := by
  have b := FR_BB hT hm h
  have hmf := MF_of (TI_t hm 0)
  unfold f_K_level f_M_level
  refine h_fS b a (fun s hs e => ?_) ⟨AN_e 0 rfl (ti_sI_eq _ _ _ _), trivial⟩
  rw [e]
  refine l_of (st_gIe h.NW.1) (l_of st_rv (m_of st_rv (h2_22 (h_levelAt h hmf (fun p j q => lv0 m q 0) hs) (fun v S' u m' p => ?_))))
  obtain ⟨w, -, w2, w3⟩ := p
  cases w2
  cases w3
  exact h2_ret ⟨AN_v (ti_sI_eq _ _ _ _), trivial⟩
/-! asked -/
theorem p_there {p k n : Nat} (hn : sI S p 5 = Int32.ofNat n) (h12 : n ≤ 12) (hk : k < n) : Hp (f_Flow_isThere S (some p) (Int32.ofNat k)) (fun q => q = (1, S)) := by
  unfold f_Flow_isThere
  refine p_of (st_F (fun q => ?_)) (p_of (st_gIe hn) (p_of (st_F (fun q => ?_)) (p_of (st_F (fun q => ?_)) (p_ret rfl))))
  · have := lt0.mp q
    rw [oi (by omega)] at this
    omega
  · have := (ole (by omega) (by omega)).mp q
    omega
  · have := (ole (a := 12) (b := k) (by decide) (by omega)).mp q
    omega
theorem p_step1 {p k n : Nat} {v : Int32} (hn : sI S p 5 = Int32.ofNat n) (h12 : n ≤ 12) (hk : k < n) (e : sI S (fa S p 1) k = v) : Hp (f_Flow_firstOf S (some p) (Int32.ofNat k)) (fun q => q = (v, S)) := by
  unfold f_Flow_firstOf
  refine p_of st_rv (p_b2 (p_there hn h12 hk) (fun u S' q => ?_))
  cases q
  exact p_of (st_F one0) (p_of (st_row (oc (by omega)) e) (p_ret rfl))
/-- an attempt that goes on stands at a step of its flow -/
theorem AS_at (hM : MI m) (h : FR S m) {a : Nat} (ha : a < uA m) : ∃ v n x, v < nV m ∧ v < 8 ∧ 1 ≤ n ∧ n ≤ 12 ∧ sR S (lel S 18 a) 3 = some (lel S 17 v) ∧ sI m 78 a = Int32.ofNat v ∧ sI S (lel S 17 v) 5 = Int32.ofNat n ∧ sI m 66 v = Int32.ofNat n ∧ (∀ j k, j < 5 → k < n → sI S (fa S (lel S 17 v) j) k = sI m (67 + j) (12 * v + k)) ∧ sR S (lel S 18 a) 4 = some x ∧
    (sI m 80 a = 0 → ∃ k, k < n ∧ sI m 79 a = Int32.ofNat k ∧ sI m 67 (12 * v + k) = 0) := by
  obtain ⟨-, -, -, -, ⟨v, v1, v2, v3⟩, ⟨x, ex⟩⟩ := h.Att.2 a ha
  obtain ⟨⟨n, n1, n2, n3, n4, n5⟩, -⟩ := h.Ver.2 v v1
  have zV := h.Ver.1
  have za := h.Att.1
  have v8 : v < 8 := by
    have := zV.1
    unfold nV at v1
    omega
  have a1 : (a : Int) < (sI m 57 19).toInt := by
    rw [za.2.1, oi (by have := za.1; omega)]
    have : nn (sI m 57 19) = uA m := rfl
    omega
  obtain ⟨v', n', g1, g2, g3, g4⟩ := hM.2.2.1 a a1
  have v8' : v' < 8 := by
    have z1 := zV.1
    have z2 := zV.2.1
    rw [z2, oi (by omega)] at g2
    omega
  have ev : v' = v := oinj (by omega) (by omega) (g1.symm.trans v3)
  subst ev
  rw [n4, oi (by omega)] at g3
  have en : n' = n := by omega
  subst en
  exact ⟨v', n', x, v1, v8, n1, n2, v2, v3, n3, n4, n5, ex, g4⟩
theorem h_asked (hT : TV T S) (hm : TI Tm m) (hM : MI m) (h : FR S m) (a : Int32) : H2 (f_K_asked S (some 4) a) (f_M_asked m (some 57) a) (fun x y => AN [eX] x.1 y.1 (sI y.2 57 82) ∧ P0 x.2 y.2) := by
  have b := FR_BB hT hm h
  have hmf := MF_of (TI_t hm 0)
  have lv : ∀ {p j : Nat}, ¬ (p = 57 ∧ j = 82) → sI (wI m 57 82 0) p j = sI m p j := fun q => lv0 m q 0
  unfold f_K_asked f_M_asked
  refine h_fA b a (fun s hs e => ?_) ⟨AN_e 0 rfl (ti_sI_eq _ _ _ _), trivial⟩
  have z := h.Att.1.1
  have ea : a.toNatClampNeg = s := by rw [e]; exact oc (by unfold uA at hs; omega)
  obtain ⟨e1, -, -, e4⟩ := h.Ast.2 s hs
  obtain ⟨v, n, x, v1, v8, n1, n2, r3, r78, r5, r66, rr, -, rk⟩ := AS_at hM h hs
  refine l_of (st_gIe e1) (m_of (st_gRe (hmf 25 80 rfl)) (m_of (st_aIe (v := sI m 80 s) ea (lv (by omega))) ?_))
  by_cases c : sI m 80 s = 0
  · obtain ⟨k, k1, k2, -⟩ := rk c
    obtain ⟨e6, -⟩ := e4 c
    refine l_of (st_T c) (m_of (st_T c) (l_of (st_gRe r3) (l_of (st_gIe (e6.trans k2)) (l_of st_rv (l_p2 (p_step1 r5 n2 k1 (rr 1 k (by omega) k1)) (fun u S' q => ?_))))))
    cases q
    refine m_of (st_gRe (hmf 12 68 rfl)) (m_of (st_gRe (hmf 23 78 rfl)) (m_of (st_aIe (v := Int32.ofNat v) ea ((lv (by omega)).trans r78)) (m_of (st_gRe (hmf 24 79 rfl)) (m_of (st_aIe (v := Int32.ofNat k) ea ((lv (by omega)).trans k2)) (m_of (st_aIe (v := sI m 68 (12 * v + k)) (ix12 v (by omega) k (by omega)) (lv (by omega))) (h2_ret ⟨AN_v (ti_sI_eq _ _ _ _), trivial⟩))))))
  · exact l_of (st_F c) (m_of (st_F c) (h2_ret ⟨AN_v (ti_sI_eq _ _ _ _), trivial⟩))
end
