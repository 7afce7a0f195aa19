/-! ===== the risk of an attempt ===== -/
def bi (b : Bool) : Int32 := if b = true then 1 else 0
theorem bitv (x : Int32) {j : Nat} (h : j < 12) : ((x >>> (Int32.ofNat j &&& 31)) &&& (1 : Int32)) = bi (bt x j) := by
  cases e : bt x j with
  | true => exact (bt_test x h).mpr e
  | false =>
    refine (bt_is20' (x := x) (v := j) (by omega)).mpr (fun q => ?_)
    rw [e] at q
    cases q
def wq (n u : Int32) : Int32 := if u ≤ 0 then 0 else if u - 1 ≤ n - 60 then 0 else 1
theorem wq_eq {n u w : Int32} (hn : mi n) (h : (u = 0 ∧ w = -1000) ∨ (u = w + 1 ∧ mi w)) : wq n u = wm n w := by
  obtain ⟨n1, n2⟩ := hn
  unfold wq wm
  rcases h with ⟨rfl, rfl⟩ | ⟨rfl, w1, w2⟩
  · rw [if_pos (by decide), if_pos]
    rw [Int32.le_iff_toInt_le, Int32.toInt_sub, show (60 : Int32).toInt = 60 from by decide, show (-1000 : Int32).toInt = -1000 from by decide, bm (by omega) (by omega)]
    omega
  · have e : w + 1 - 1 = w := by simp
    have p : ¬ w + 1 ≤ 0 := fun q => by
      rw [Int32.le_iff_toInt_le, add1 ⟨w1, w2⟩, show (0 : Int32).toInt = 0 from by decide] at q
      omega
    rw [if_neg p, e]
    have k : (w ≤ n - 60) ↔ ((60 : Int32) ≤ n - w) := by
      rw [Int32.le_iff_toInt_le, Int32.le_iff_toInt_le, Int32.toInt_sub, Int32.toInt_sub, show (60 : Int32).toInt = 60 from by decide, bm (by omega) (by omega), bm (by omega) (by omega)]
      omega
    by_cases c : w ≤ n - 60
    · rw [if_pos c, if_pos (k.mp c)]
    · rw [if_neg c, if_neg (fun q => c (k.mpr q))]
theorem wm01 (n w : Int32) : ∃ b : Bool, wm n w = bi b := by
  unfold wm
  by_cases c : (60 : Int32) ≤ n - w
  · exact ⟨false, by rw [if_pos c]; rfl⟩
  · exact ⟨true, by rw [if_neg c]; rfl⟩
theorem x_rk_L {S : AS} {p : Nat} (r127 : Rw S 127 14) (r129 : Rw S 129 36) (p3 : p < 3) : ∀ (k j fu : Nat) (a : Int32), j + k = 10 → k < fu → f_W_risk_L60 fu S (some 127) (some 129) (Int32.ofNat (12 * p)) a (Int32.ofNat j) = some (sW (fun j => wq (sI S 127 0) (sI S 129 (12 * p + j))) k j a, S)
  | _, _, 0, _, _, h => absurd h (Nat.not_lt_zero _)
  | 0, j, fu + 1, a, hk, _ => by
    unfold f_W_risk_L60 f_W_risk_C60
    have e : j = 10 := by omega
    subst e
    rw [if_pos (by decide)]
    rfl
  | k + 1, j, fu + 1, a, hk, hfu => by
    unfold f_W_risk_L60 f_W_risk_C60 f_W_risk_B101 f_W_risk_B102
    have ij : Int32.ofNat (12 * p) + Int32.ofNat j = Int32.ofNat (12 * p + j) := wadd _ _
    rw [if_neg (fun q => by have := (oleq (a := 10) (b := j) (by omega) (by omega)).mp q; omega), ij, Rw_aI r129 (n := 12 * p + j) rfl (by omega), Option.bind_some, Option.bind_some, Rw_aI (i := (0 : Int32)) r127 (n := 0) rfl (by decide), Option.bind_some, Option.bind_some, Option.bind_some, Option.bind_some, Option.bind_some, o1]
    show _ = some (sW _ k (j + 1) (a + wq (sI S 127 0) (sI S 129 (12 * p + j))), S)
    unfold wq
    by_cases c : sI S 129 (12 * p + j) ≤ 0
    · rw [if_pos c, if_pos c]
      exact x_rk_L r127 r129 p3 k (j + 1) fu (a + 0) (by omega) (by omega)
    · rw [if_neg c, if_neg c]
      by_cases d : sI S 129 (12 * p + j) - 1 ≤ sI S 127 0 - 60
      · rw [if_pos d, if_pos d]
        exact x_rk_L r127 r129 p3 k (j + 1) fu (a + 0) (by omega) (by omega)
      · rw [if_neg d, if_neg d]
        exact x_rk_L r127 r129 p3 k (j + 1) fu (a + 1) (by omega) (by omega)
def lPts (m : AS) : Prop := sI m 73 0 = 2 ∧ sI m 73 1 = 1 ∧ sI m 73 2 = 1
theorem rk_all : ∀ a b c d e : Bool, (((((2 : Int32) - ((2 : Int32) * bi d)) + (1 : Int32)) - bi e) + bi a + bi b) + bi c = (((((0 : Int32) + bi a) + bi b) + bi c) * (1 : Int32) + (if d = true then 0 else 2)) + (if e = true then 0 else 1) := by decide
theorem g_risk {S m : AS} {na i : Nat} (r127 : Rw S 127 14) (r129 : Rw S 129 36) (r130 : Rw S 130 60) (hmf : MF m) (now : lNow S m) (wr : lWrg S m) (kn : lKn S m) (att : lAtt na S m) (pts : lPts m) (hi : i < na) (n10 : na ≤ 10) : ∃ rv, f_W_risk S (some 127) (some 129) (some 130) (Int32.ofNat i) = some (rv, S) ∧ Hp (f_M_riskOf m (some 57) (Int32.ofNat i) 0) (fun b => b = (rv, m)) := by
  obtain ⟨⟨p, p3, a1, a2⟩, ⟨d, d3, b1, b2⟩, ⟨e, e3, c1, c2⟩, -⟩ := att i hi
  obtain ⟨⟨k1, k2⟩, -⟩ := kn p p3 d d3
  obtain ⟨-, k3, k4⟩ := kn p p3 e e3
  have ji : (Int32.ofNat i).toNatClampNeg = i := oc (by omega)
  have ix6 : ∀ x, x < 3 → ((6 : Int32) * Int32.ofNat p + Int32.ofNat x).toNatClampNeg = 6 * p + x := fun x hx => by
    rw [show (6 : Int32) * Int32.ofNat p + Int32.ofNat x = Int32.ofNat (6 * p + x) from wix 6 p x]
    exact oc (by omega)
  have hw : Ho (f_W_risk S (some 127) (some 129) (some 130) (Int32.ofNat i)) (fun a => a = (sW (fun j => wq (sI S 127 0) (sI S 129 (12 * p + j))) 3 7 ((((2 : Int32) - ((2 : Int32) * bi (bt (sI S 129 (12 * p + 10)) d))) + (1 : Int32)) - bi (bt (sI S 129 (12 * p + 11)) e)), S)) := by
    unfold f_W_risk
    refine o_aIe r130 (n := 6 * i) (wmul 6 i) (by omega) a1 (r_val ?_)
    rw [show (12 : Int32) * Int32.ofNat p = Int32.ofNat (12 * p) from wmul 12 p]
    refine o_aI r129 (n := 12 * p + 10) (wadd _ 10) (by omega) (o_aIe r130 (n := 6 * i + 1) (wix 6 i 1) (by omega) b1 ?_)
    refine o_aI r129 (n := 12 * p + 11) (wadd _ 11) (by omega) (o_aIe r130 (n := 6 * i + 2) (wix 6 i 2) (by omega) c1 (r_val ?_))
    rw [bitv _ (by omega), bitv _ (by omega)]
    exact ⟨_, x_rk_L r127 r129 p3 3 7 kr_FU _ (by omega) (show 3 < 2000 by decide), rfl⟩
  have hm : Hp (f_M_riskOf m (some 57) (Int32.ofNat i) 0) (fun b => b = ((sW (fun j => wm (sI m 57 0) (sI m 61 (3 * p + j))) 3 0 0 * (1 : Int32) + (if sI m 62 (6 * p + d) = 0 then 2 else 0)) + (if sI m 63 (6 * p + e) = 0 then 1 else 0), m)) := by
    unfold f_M_riskOf f_M_riskOf_B52 f_M_wrongs
    refine p_of (st_gRe (hmf 20 75 rfl)) (p_of (st_aIe ji a2) (p_of st_rv (p_b2 (p_wrM_L hmf (i := p) (by omega) 3 0 kr_FU 0 (by omega)) (fun v S' q => ?_))))
    obtain ⟨q1, q2⟩ := Prod.mk.inj q
    rw [q1, q2]
    refine p_of st_rv (p_b2 (p_ptM hmf (i := 2) (by decide) 0) (fun v S' q => ?_))
    obtain ⟨q1, q2⟩ := Prod.mk.inj q
    rw [q1, q2, show ptv (sI m 73) (sI m 74) 0 2 = 1 from pts.2.2]
    refine p_of st_val (p_of (st_gRe (hmf 5 62 rfl)) (p_of (st_gRe (hmf 21 76 rfl)) (p_of (st_aIe ji b2) (p_of (st_aIe (ix6 d d3) rfl) ?_))))
    have tail : ∀ x y : Int32, Hp ((some (x + y)).bind fun i1 => (gR m 39 6 (some 57)).bind fun v2 => (gR m 39 22 (some 57)).bind fun v3 => (aI m 46 v3 (Int32.ofNat i)).bind fun v4 => (aI m 47 v2 (((6 : Int32) * Int32.ofNat p) + v4)).bind fun v5 => if v5 = 0 then (kr_rv m 39 (some 57)).bind fun u6 => kr_b2 (f_M_pointsOf m (some 57) (1 : Int32) 0) fun v8 S7 => some (i1 + v8, S7) else some (i1 + (0 : Int32), m))
        (fun b => b = ((x + y) + (if sI m 63 (6 * p + e) = 0 then 1 else 0), m)) := fun x y => by
      refine p_of st_val (p_of (st_gRe (hmf 6 63 rfl)) (p_of (st_gRe (hmf 22 77 rfl)) (p_of (st_aIe ji c2) (p_of (st_aIe (ix6 e e3) rfl) ?_))))
      by_cases z : sI m 63 (6 * p + e) = 0
      · rw [if_pos z, if_pos z]
        refine p_of st_rv (p_b2 (p_ptM hmf (i := 1) (by decide) 0) (fun v S' q => ?_))
        obtain ⟨q1, q2⟩ := Prod.mk.inj q
        rw [q1, q2, show ptv (sI m 73) (sI m 74) 0 1 = 1 from pts.2.1]
        exact p_ret rfl
      · rw [if_neg z, if_neg z]
        exact p_ret rfl
    by_cases z : sI m 62 (6 * p + d) = 0
    · rw [if_pos z, if_pos z]
      refine p_of st_rv (p_b2 (p_ptM hmf (i := 0) (by decide) 0) (fun v S' q => ?_))
      obtain ⟨q1, q2⟩ := Prod.mk.inj q
      rw [q1, q2, show ptv (sI m 73) (sI m 74) 0 0 = 2 from pts.1]
      exact tail _ _
    · rw [if_neg z, if_neg z]
      exact tail _ _
  obtain ⟨a, ea, q⟩ := hw
  subst q
  refine ⟨_, ea, p_mono hm (fun b g => g.trans (Prod.ext ?_ rfl))⟩
  refine Eq.symm ?_
  show ((((((2 : Int32) - ((2 : Int32) * bi (bt (sI S 129 (12 * p + 10)) d))) + (1 : Int32)) - bi (bt (sI S 129 (12 * p + 11)) e)) + wq (sI S 127 0) (sI S 129 (12 * p + 7))) + wq (sI S 127 0) (sI S 129 (12 * p + 8))) + wq (sI S 127 0) (sI S 129 (12 * p + 9)) = (((((0 : Int32) + wm (sI m 57 0) (sI m 61 (3 * p + 0))) + wm (sI m 57 0) (sI m 61 (3 * p + 1))) + wm (sI m 57 0) (sI m 61 (3 * p + 2))) * (1 : Int32) + (if sI m 62 (6 * p + d) = 0 then 2 else 0)) + (if sI m 63 (6 * p + e) = 0 then 1 else 0)
  rw [now.1, wq_eq now.2 (wr p p3 0 (by decide)), wq_eq now.2 (wr p p3 1 (by decide)), wq_eq now.2 (wr p p3 2 (by decide))]
  obtain ⟨w0, e0⟩ := wm01 (sI m 57 0) (sI m 61 (3 * p + 0))
  obtain ⟨w1, e1⟩ := wm01 (sI m 57 0) (sI m 61 (3 * p + 1))
  obtain ⟨w2, e2⟩ := wm01 (sI m 57 0) (sI m 61 (3 * p + 2))
  rw [e0, e1, e2, rk_all]
  have z1 : (if bt (sI S 129 (12 * p + 10)) d = true then (0 : Int32) else 2) = (if sI m 62 (6 * p + d) = 0 then 2 else 0) := by
    by_cases c : sI m 62 (6 * p + d) = 0
    · rw [if_pos c, if_neg (fun q => by have := k1.mp q; rw [c] at this; exact absurd this (by decide))]
    · rw [if_neg c, if_pos (k1.mpr (k2.resolve_left c))]
  have z2 : (if bt (sI S 129 (12 * p + 11)) e = true then (0 : Int32) else 1) = (if sI m 63 (6 * p + e) = 0 then 1 else 0) := by
    by_cases c : sI m 63 (6 * p + e) = 0
    · rw [if_pos c, if_neg (fun q => by have := k3.mp q; rw [c] at this; exact absurd this (by decide))]
    · rw [if_neg c, if_pos (k3.mpr (k4.resolve_left c))]
  rw [z1, z2]
