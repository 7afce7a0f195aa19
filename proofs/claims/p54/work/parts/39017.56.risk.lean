/-! ===== risk ===== -/
def ptv (g h : Nat → Int32) (c : Int32) (i : Nat) : Int32 := if c = 0 then g i else if h i = -1 then g i else h i
section
variable {S m : AS}
theorem p_ptK (k4 : K4F S) {i : Nat} (hi : i < 3) (c : Int32) : Hp (f_K_pointsOf S (some 4) (Int32.ofNat i) c) (fun q => q = (ptv (sI S 9) (sI S 10) c i, S)) := by
  unfold f_K_pointsOf f_K_pointsOf_B34 ptv
  refine p_of (st_b2 (q_win S _ 0 2)) ?_
  rw [if_pos ((thr_iff _).mpr ⟨i, hi, rfl⟩)]
  refine p_of (st_F one0) ?_
  by_cases c0 : c = 0
  · rw [if_pos c0, if_pos c0]
    exact p_of (st_gRe (k4.1 3 9 rfl)) (p_of (st_aIe (oc (by omega)) rfl) (p_ret rfl))
  · rw [if_neg c0, if_neg c0]
    refine p_of (st_gRe (k4.1 4 10 rfl)) (p_of (st_aIe (v := sI S 10 i) (oc (by omega)) rfl) ?_)
    by_cases c1 : sI S 10 i = -1
    · rw [if_pos c1, if_pos c1]
      exact p_of (st_gRe (k4.1 3 9 rfl)) (p_of (st_aIe (oc (by omega)) rfl) (p_ret rfl))
    · rw [if_neg c1, if_neg c1]
      exact p_of (st_gRe (k4.1 4 10 rfl)) (p_of (st_aIe (oc (by omega)) rfl) (p_ret rfl))
theorem p_ptM (hmf : MF m) {i : Nat} (hi : i < 3) (c : Int32) : Hp (f_M_pointsOf m (some 57) (Int32.ofNat i) c) (fun q => q = (ptv (sI m 73) (sI m 74) c i, m)) := by
  unfold f_M_pointsOf f_M_pointsOf_B23 ptv
  by_cases c0 : c = 0
  · rw [if_pos c0, if_pos c0]
    exact p_of (st_gRe (hmf 17 73 rfl)) (p_of (st_aIe (oc (by omega)) rfl) (p_ret rfl))
  · rw [if_neg c0, if_neg c0]
    refine p_of (st_gRe (hmf 18 74 rfl)) (p_of (st_aIe (v := sI m 74 i) (oc (by omega)) rfl) ?_)
    by_cases c1 : sI m 74 i = -1
    · rw [if_pos c1, if_pos c1]
      exact p_of (st_gRe (hmf 17 73 rfl)) (p_of (st_aIe (oc (by omega)) rfl) (p_ret rfl))
    · rw [if_neg c1, if_neg c1]
      exact p_of (st_gRe (hmf 18 74 rfl)) (p_of (st_aIe (oc (by omega)) rfl) (p_ret rfl))
theorem ptv_eq (h : cPts S m) {i : Nat} (hi : i < 3) (c : Int32) : ptv (sI S 9) (sI S 10) c i = ptv (sI m 73) (sI m 74) c i := by
  unfold ptv
  rw [(h i hi).1, (h i hi).2]
/-- the wrong answers of the last hour -/
def w0 (v t : Int32) : Int32 := if v < t then 0 else 1
def wm (now v : Int32) : Int32 := if 60 ≤ now - v then 0 else 1
def tmx (t : Int32) : Int32 := if (0 : Int32) < t then t else 0
theorem p_wrK {p : Nat} {t : Int32} : Hp (f_Person_wrongsSince S (some p) t) (fun q => q = ((w0 (sI S p 4) (tmx t) + w0 (sI S p 5) (tmx t)) + w0 (sI S p 6) (tmx t), S)) := by
  unfold f_Person_wrongsSince f_Person_wrongsSince_B19 f_Person_wrongsSince_B32
  have last : ∀ y0 y1 : Int32, Hp ((gI S 16 6 (some p)).bind fun v1 => if v1 < tmx t then some ((y0 + y1) + (0 : Int32), S) else some ((y0 + y1) + (1 : Int32), S)) (fun q => q = ((y0 + y1) + w0 (sI S p 6) (tmx t), S)) := fun y0 y1 => by
    refine p_of st_gI ?_
    unfold w0
    by_cases c : sI S p 6 < tmx t
    · rw [if_pos c, if_pos c]
      exact p_ret rfl
    · rw [if_neg c, if_neg c]
      exact p_ret rfl
  have two : ∀ y0 : Int32, Hp ((gI S 16 5 (some p)).bind fun v2 => if v2 < tmx t then (gI S 16 6 (some p)).bind fun v1 => if v1 < tmx t then some ((y0 + 0) + (0 : Int32), S) else some ((y0 + 0) + (1 : Int32), S) else (gI S 16 6 (some p)).bind fun v1 => if v1 < tmx t then some ((y0 + 1) + (0 : Int32), S) else some ((y0 + 1) + (1 : Int32), S)) (fun q => q = ((y0 + w0 (sI S p 5) (tmx t)) + w0 (sI S p 6) (tmx t), S)) := fun y0 => by
    refine p_of st_gI ?_
    by_cases c : sI S p 5 < tmx t
    · rw [if_pos c, show w0 (sI S p 5) (tmx t) = 0 from if_pos c]
      exact last y0 0
    · rw [if_neg c, show w0 (sI S p 5) (tmx t) = 1 from if_neg c]
      exact last y0 1
  refine p_of st_val (p_of st_gI ?_)
  show Hp (if sI S p 4 < tmx t then _ else _) _
  by_cases c : sI S p 4 < tmx t
  · rw [if_pos c, show w0 (sI S p 4) (tmx t) = 0 from if_pos c]
    exact two 0
  · rw [if_neg c, show w0 (sI S p 4) (tmx t) = 1 from if_neg c]
    exact two 1
def sW (g : Nat → Int32) : Nat → Nat → Int32 → Int32
  | 0, _, a => a
  | k + 1, j, a => sW g k (j + 1) (a + g j)
theorem p_wrM_L (hmf : MF m) {i : Nat} (hi : i < 6) : ∀ (k j fu : Nat) (a : Int32), j + k = 3 → Hp (f_M_wrongs_L4 fu m (some 57) (Int32.ofNat i) a (Int32.ofNat j)) (fun q => q = (sW (fun j => wm (sI m 57 0) (sI m 61 (3 * i + j))) k j a, m))
  | _, _, 0, _, _ => p_0
  | 0, j, fu + 1, a, hk => by
    unfold f_M_wrongs_L4 f_M_wrongs_C4
    have e : j = 3 := by omega
    subst e
    exact p_of (st_T (by decide)) (p_ret rfl)
  | k + 1, j, fu + 1, a, hk => by
    unfold f_M_wrongs_L4 f_M_wrongs_C4 f_M_wrongs_B35
    have nj : ¬ (3 : Int32) ≤ Int32.ofNat j := fun q => by
      have := (ole (a := 3) (b := j) (by decide) (by omega)).mp q
      omega
    refine p_of (st_F nj) (p_of st_gI (p_of (st_gRe (hmf 4 61 rfl)) (p_of (st_aIe (v := sI m 61 (3 * i + j)) (ix3 i (by omega) j (by omega)) rfl) ?_)))
    have r := p_wrM_L hmf hi k (j + 1) fu (a + wm (sI m 57 0) (sI m 61 (3 * i + j))) (by omega)
    by_cases c : (60 : Int32) ≤ sI m 57 0 - sI m 61 (3 * i + j)
    · rw [show wm (sI m 57 0) (sI m 61 (3 * i + j)) = 0 from if_pos c] at r
      refine p_of (st_T c) (p_of st_val (p_of st_val ?_))
      rw [o1]
      refine p_mono r (fun q e => ?_)
      rw [e]
      show (sW _ k (j + 1) (a + 0), m) = (sW _ k (j + 1) (a + wm (sI m 57 0) (sI m 61 (3 * i + j))), m)
      rw [show wm (sI m 57 0) (sI m 61 (3 * i + j)) = 0 from if_pos c]
    · rw [show wm (sI m 57 0) (sI m 61 (3 * i + j)) = 1 from if_neg c] at r
      refine p_of (st_F c) (p_of st_val (p_of st_val ?_))
      rw [o1]
      refine p_mono r (fun q e => ?_)
      rw [e]
      show (sW _ k (j + 1) (a + 1), m) = (sW _ k (j + 1) (a + wm (sI m 57 0) (sI m 61 (3 * i + j))), m)
      rw [show wm (sI m 57 0) (sI m 61 (3 * i + j)) = 1 from if_neg c]
theorem wr_eq {now k v : Int32} (h0 : 0 ≤ now.toInt) (h1 : now.toInt ≤ 30000) (h : WR k v) : w0 k (tmx (now - 60 + 1)) = wm now v := by
  have e0 : (now - 60).toInt = now.toInt - 60 := by
    rw [Int32.toInt_sub, show (60 : Int32).toInt = 60 from by decide]
    exact bm (by omega) (by omega)
  have e1 : (now - 60 + 1).toInt = now.toInt - 59 := by
    rw [Int32.toInt_add, e0, show (1 : Int32).toInt = 1 from by decide]
    rw [show now.toInt - 60 + 1 = now.toInt - 59 by omega]
    exact bm (by omega) (by omega)
  have et : (tmx (now - 60 + 1)).toInt = if 0 < now.toInt - 59 then now.toInt - 59 else 0 := by
    unfold tmx
    by_cases c : (0 : Int32) < now - 60 + 1
    · have := Int32.lt_iff_toInt_lt.mp c
      rw [e1, show (0 : Int32).toInt = 0 from by decide] at this
      rw [if_pos c, if_pos this, e1]
    · have : ¬ 0 < now.toInt - 59 := fun q => c (Int32.lt_iff_toInt_lt.mpr (by rw [e1, show (0 : Int32).toInt = 0 from by decide]; exact q))
      rw [if_neg c, if_neg this]
      decide
  have key : k < tmx (now - 60 + 1) ↔ (60 : Int32) ≤ now - v := by
    rw [Int32.lt_iff_toInt_lt, Int32.le_iff_toInt_le, et, show (60 : Int32).toInt = 60 from by decide]
    rcases h with ⟨rfl, rfl⟩ | ⟨rfl, g0, g1⟩
    · have ev : (now - -1000).toInt = now.toInt + 1000 := by
        rw [Int32.toInt_sub, show (-1000 : Int32).toInt = -1000 from by decide]
        rw [show now.toInt - -1000 = now.toInt + 1000 by omega]
        exact bm (by omega) (by omega)
      rw [ev, show (-1 : Int32).toInt = -1 from by decide]
      split <;> omega
    · have ev : (now - k).toInt = now.toInt - k.toInt := by
        rw [Int32.toInt_sub]
        exact bm (by omega) (by omega)
      rw [ev]
      split <;> omega
  unfold w0 wm
  by_cases c : k < tmx (now - 60 + 1)
  · rw [if_pos c, if_pos (key.mp c)]
  · rw [if_neg c, if_neg (fun q => c (key.mpr q))]
theorem w3_eq (a b c : Int32) : (a + b) + c = ((0 + c) + b) + a := by
  rw [Int32.zero_add, Int32.add_comm (c + b) a, Int32.add_comm c b, ← Int32.add_assoc]
/-- the attempt's person, device and place -/
def RKa (S m : AS) (x a : Nat) : Prop := ∃ i d1 d2, (i < 6 ∧ d1 < 6 ∧ d2 < 6) ∧ (sR S x 0 = some (29 + 4 * i) ∧ sI S x 1 = Int32.ofNat d1 ∧ sI S x 2 = Int32.ofNat d2) ∧ (sI m 75 a = Int32.ofNat i ∧ sI m 76 a = Int32.ofNat d1 ∧ sI m 77 a = Int32.ofNat d2)
theorem h_riskOf (k4 : K4F S) (hmf : MF m) (nw : cNW S m) (pt : cPts S m) (wr : cWrg S m) (kn : cKn S m) {x a : Nat} (ha : a < 60) (rk : RKa S m x a) (c : Int32) : H2 (f_K_riskOf S (some 4) (some x) c) (f_M_riskOf m (some 57) (Int32.ofNat a) c) (fun p q => ∃ v, p = (v, S) ∧ q = (v, m)) := by
  obtain ⟨i, d1, d2, ⟨i6, l1, l2⟩, ⟨r0, r1, r2⟩, ⟨s0, s1, s2⟩⟩ := rk
  obtain ⟨n0, n1, n2⟩ := nw
  have fin : ∀ u : Int32, H2 (f_K_riskOf_B52 S (some 4) (some x) c (some (29 + 4 * i)) u) ((gR m 39 6 (some 57)).bind fun v2 => (gR m 39 22 (some 57)).bind fun v3 => (aI m 46 v3 (Int32.ofNat a)).bind fun v4 => (aI m 47 v2 (((6 : Int32) * Int32.ofNat i) + v4)).bind fun v5 => if v5 = 0 then (kr_rv m 39 (some 57)).bind fun u6 => kr_b2 (f_M_pointsOf m (some 57) (1 : Int32) c) fun v8 S7 => some (u + v8, S7) else some (u + (0 : Int32), m)) (fun p q => ∃ v, p = (v, S) ∧ q = (v, m)) := fun u => by
    unfold f_K_riskOf_B52
    refine l_of (st_gIe r2) (l_of st_gI (l_of (st_b2 (bt_is (by omega) S)) ?_))
    refine m_of (st_gRe (hmf 6 63 rfl)) (m_of (st_gRe (hmf 22 77 rfl)) (m_of (st_aIe (oc (by omega)) s2) (m_of (st_aIe (v := sI m 63 (6 * i + d2)) (ix6 i i6 d2 l2) rfl) ?_)))
    have k2 := (kn i i6 d2 l2).2
    by_cases b : bt (sI S (29 + 4 * i) 8) d2 = true
    · rw [if_pos b]
      refine l_of (st_F one0) (m_of (st_F (k2.mp b)) ?_)
      rw [Int32.add_zero]
      exact h2_ret ⟨u, rfl, rfl⟩
    · rw [if_neg b]
      refine l_of (st_T rfl) (m_of (st_T (Decidable.not_not.mp (fun q => b (k2.mpr q)))) (l_of st_rv (m_of st_rv ?_)))
      refine l_p2 (p_ptK k4 (i := 1) (by decide) c) (fun v S' q => ?_)
      cases q
      refine m_p2 (p_ptM hmf (i := 1) (by decide) c) (fun v S' q => ?_)
      cases q
      rw [ptv_eq pt (by decide)]
      exact l_of st_val (h2_ret ⟨_, rfl, rfl⟩)
  unfold f_K_riskOf f_M_riskOf f_M_riskOf_B52 f_M_wrongs
  refine l_of (st_gRe r0) (l_of st_rv (l_p2 (p_ptK k4 (i := 2) (by decide) c) (fun v S' q => ?_)))
  cases q
  refine l_of (st_gIe n0) (l_of st_rv (l_p2 p_wrK (fun v S' q => ?_)))
  cases q
  refine m_of (st_gRe (hmf 20 75 rfl)) (m_of (st_aIe (oc (by omega)) s0) (m_of st_rv (m_p2 (p_wrM_L hmf i6 3 0 kr_FU 0 rfl) (fun v S' q => ?_))))
  cases q
  refine m_of st_rv (m_p2 (p_ptM hmf (i := 2) (by decide) c) (fun v S' q => ?_))
  cases q
  obtain ⟨w4, w5, w6⟩ := wr i i6
  have es : sW (fun j => wm (sI m 57 0) (sI m 61 (3 * i + j))) 3 0 0 = (w0 (sI S (29 + 4 * i) 4) (tmx (sI m 57 0 - 60 + 1)) + w0 (sI S (29 + 4 * i) 5) (tmx (sI m 57 0 - 60 + 1))) + w0 (sI S (29 + 4 * i) 6) (tmx (sI m 57 0 - 60 + 1)) := by
    rw [wr_eq n1 n2 w4, wr_eq n1 n2 w5, wr_eq n1 n2 w6, w3_eq]
    rfl
  rw [es]
  refine l_of st_val (m_of st_val ?_)
  rw [ptv_eq pt (by decide), Int32.mul_comm (ptv (sI m 73) (sI m 74) c 2)]
  generalize (w0 (sI S (29 + 4 * i) 4) (tmx (sI m 57 0 - 60 + 1)) + w0 (sI S (29 + 4 * i) 5) (tmx (sI m 57 0 - 60 + 1)) + w0 (sI S (29 + 4 * i) 6) (tmx (sI m 57 0 - 60 + 1))) * ptv (sI m 73) (sI m 74) c 2 = u
  refine l_of (st_gIe r1) (l_of st_gI (l_of (st_b2 (bt_is (by omega) S)) ?_))
  refine m_of (st_gRe (hmf 5 62 rfl)) (m_of (st_gRe (hmf 21 76 rfl)) (m_of (st_aIe (oc (by omega)) s1) (m_of (st_aIe (v := sI m 62 (6 * i + d1)) (ix6 i i6 d1 l1) rfl) ?_)))
  have k1 := (kn i i6 d1 l1).1
  by_cases b : bt (sI S (29 + 4 * i) 7) d1 = true
  · rw [if_pos b]
    refine l_of (st_F one0) (m_of (st_F (k1.mp b)) (m_of st_val ?_))
    rw [Int32.add_zero]
    exact fin u
  · rw [if_neg b]
    refine l_of (st_T rfl) (m_of (st_T (Decidable.not_not.mp (fun q => b (k1.mpr q)))) (l_of st_rv (m_of st_rv ?_)))
    refine l_p2 (p_ptK k4 (i := 0) (by decide) c) (fun v S' q => ?_)
    cases q
    refine m_p2 (p_ptM hmf (i := 0) (by decide) c) (fun v S' q => ?_)
    cases q
    rw [ptv_eq pt (by decide)]
    exact l_of st_val (m_of st_val (fin _))
end
section
variable {T Tm : Nat → Nat} {S m : AS}
theorem RKa_of (h : FR S m) {a : Nat} (ha : a < uA m) {m' : AS} (e : ∀ p j, ¬ (p = 57 ∧ j = 82) → sI m' p j = sI m p j) : RKa S m' (lel S 18 a) a := by
  obtain ⟨-, ⟨i, i6, r1, r2⟩, ⟨d1, l1, r3, r4⟩, ⟨d2, l2, r5, r6⟩, -⟩ := h.Att.2 a ha
  exact ⟨i, d1, d2, ⟨i6, l1, l2⟩, ⟨r1, r3, r5⟩, (e 75 a (by omega)).trans r2, (e 76 a (by omega)).trans r4, (e 77 a (by omega)).trans r6⟩
theorem h_risk (hT : TV T S) (hm : TI Tm m) (h : FR S m) (a : Int32) : H2 (f_K_risk S (some 4) a) (f_M_risk m (some 57) a) (fun x y => AN [eX] x.1 y.1 (sI y.2 57 82) ∧ P0 x.2 y.2) := by
  have b := FR_BB hT hm h
  have f0 := FR_t hT hm h 0
  unfold f_K_risk f_M_risk
  refine h_fA b a (fun s hs e => ?_) ⟨AN_e 0 rfl (ti_sI_eq _ _ _ _), trivial⟩
  have z := h.Att.1.1
  rw [e]
  refine l_of st_rv (m_of st_rv (h2_22 (h_riskOf (K4F_of hT.1) (MF_of (TI_t hm 0)) f0.NW f0.Pts f0.Wrg f0.Kn (by unfold uA at hs; omega) (RKa_of h hs (fun p j q => lv0 m q 0)) 0) (fun v S' u m' p => ?_)))
  obtain ⟨w, w1, w2⟩ := p
  cases w1
  cases w2
  exact h2_ret ⟨AN_v (ti_sI_eq _ _ _ _), trivial⟩
theorem h_trialRisk (hT : TV T S) (hm : TI Tm m) (h : FR S m) (a : Int32) : H2 (f_K_trialRisk S (some 4) a) (f_M_trialRisk m (some 57) a) (fun x y => AN [eX] x.1 y.1 (sI y.2 57 82) ∧ P0 x.2 y.2) := by
  have b := FR_BB hT hm h
  have f0 := FR_t hT hm h 0
  unfold f_K_trialRisk f_M_trialRisk
  refine h_fA b a (fun s hs e => ?_) ⟨AN_e 0 rfl (ti_sI_eq _ _ _ _), trivial⟩
  have z := h.Att.1.1
  rw [e]
  refine l_of st_rv (m_of st_rv (h2_22 (h_riskOf (K4F_of hT.1) (MF_of (TI_t hm 0)) f0.NW f0.Pts f0.Wrg f0.Kn (by unfold uA at hs; omega) (RKa_of h hs (fun p j q => lv0 m q 0)) 1) (fun v S' u m' p => ?_)))
  obtain ⟨w, w1, w2⟩ := p
  cases w1
  cases w2
  exact h2_ret ⟨AN_v (ti_sI_eq _ _ _ _), trivial⟩
end
