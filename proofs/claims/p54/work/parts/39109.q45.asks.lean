/-! ===== what the law asks, from its end ===== -/
theorem o_b2o {α β : Type} {x : Option (α × AS)} {F : α → AS → Option β} {P : α × AS → Prop} {Q : β → Prop} (h : Ho x P) (g : ∀ v S', P (v, S') → Ho (F v S') Q) : Ho (kr_b2 x F) Q := by
  obtain ⟨⟨v, S'⟩, e, p⟩ := h
  rw [e]
  exact g v S' p
def GR (n r : Nat) (S : AS) (q : Int32 × AS) : Prop := q.1 = 1 ∧ RD n r S q.2
def RKV (S : AS) (p d e : Nat) : Int32 := sW (fun j => wq (sI S 127 0) (sI S 129 (12 * p + j))) 3 7 ((((2 : Int32) - ((2 : Int32) * bi (bt (sI S 129 (12 * p + 10)) d))) + (1 : Int32)) - bi (bt (sI S 129 (12 * p + 11)) e))
theorem x_riskV {S : AS} {i p d e : Nat} (r127 : Rw S 127 14) (r129 : Rw S 129 36) (r130 : Rw S 130 60) (hi : i < 10) (p3 : p < 3) (d3 : d < 3) (e3 : e < 3) (a1 : sI S 130 (6 * i) = Int32.ofNat p) (b1 : sI S 130 (6 * i + 1) = Int32.ofNat d) (c1 : sI S 130 (6 * i + 2) = Int32.ofNat e) : f_W_risk S (some 127) (some 129) (some 130) (Int32.ofNat i) = some (RKV S p d e, S) := by
  have hw : Ho (f_W_risk S (some 127) (some 129) (some 130) (Int32.ofNat i)) (fun a => a = (RKV S p d e, S)) := by
    unfold f_W_risk RKV
    refine o_aIe r130 (n := 6 * i) (wmul 6 i) (by omega) a1 (r_val ?_)
    rw [show (12 : Int32) * Int32.ofNat p = Int32.ofNat (12 * p) from wmul 12 p]
    refine o_aI r129 (n := 12 * p + 10) (wadd _ 10) (by omega) (o_aIe r130 (n := 6 * i + 1) (wix 6 i 1) (by omega) b1 ?_)
    refine o_aI r129 (n := 12 * p + 11) (wadd _ 11) (by omega) (o_aIe r130 (n := 6 * i + 2) (wix 6 i 2) (by omega) c1 (r_val ?_))
    rw [bitv _ (by omega), bitv _ (by omega)]
    exact ⟨_, x_rk_L r127 r129 p3 3 7 kr_FU _ (by omega) (show 3 < 2000 by decide), rfl⟩
  obtain ⟨a, ea, q⟩ := hw
  rw [ea, q]
section
variable {n r ns nc nf nt nk na : Nat} {S S' : AS} {y : Int32}
theorem ofF {a b : Nat} (ha : a ≤ 1000) (hb : b ≤ 1000) (h : a < b) : ¬ Int32.ofNat b ≤ Int32.ofNat a := fun q => by
  have := (oleq (a := b) (b := a) (by omega) (by omega)).mp q
  omega
theorem ofT {a b : Nat} (ha : a ≤ 1000) (hb : b ≤ 1000) (h : ¬ a < b) : Int32.ofNat b ≤ Int32.ofNat a := (oleq (a := b) (b := a) (by omega) (by omega)).mpr (by omega)
theorem ofN {a b : Nat} (ha : a ≤ 1000) (hb : b ≤ 1000) (h : a < b) : ¬ Int32.ofNat a = Int32.ofNat b := fun q => by
  have := oinjq (by omega) (by omega) q
  omega
theorem k_800 (hn : n ≤ 500) (L : LW ns nc nf nt nk na S S) (R : RD n r S S') : Ho (f_W_asks_B800 S' (some 4) y (some 127) (some 138) 1) (GR n (r + 1) S) := by
  obtain ⟨⟨-, -, -, -, z5, -⟩, ⟨now, -⟩, -, -, -, -, -, -, out, -⟩ := id L
  have n5 := z5.2.2
  unfold f_W_asks_B800
  refine o_ra R (by decide) R.lr.1 (j := 5) rfl (by decide) z5.1 (o_some (nk + 1) (o1 nk) (Nat.succ_pos _) (by omega) (fun c hc => r_ifF one0 ?_))
  obtain ⟨w, hw⟩ : ∃ w : Int32, (w = 1 ∧ KP (sI S 57 0).toInt S c) ∨ (w = 0 ∧ ¬ KP (sI S 57 0).toInt S c) := by
    by_cases d : KP (sI S 57 0).toInt S c
    · exact ⟨1, Or.inl ⟨rfl, d⟩⟩
    · exact ⟨0, Or.inr ⟨rfl, d⟩⟩
  refine o_rd (rd_isPublished R hn L (i := c) (by omega) (fun _ => hw)) (fun S2 R2 => ?_)
  refine o_ra R2 (by decide) R2.lr.1 (j := 5) rfl (by decide) z5.1 ?_
  unfold f_W_asks_B857
  by_cases d : c < nk
  · rw [if_pos d]
    obtain ⟨⟨-, -, -, -, z5', -⟩, ⟨now', -⟩, -, -, -, -, -, -, out', -⟩ := LW_cong2 L R2.2.1 (GK_rf S)
    refine r_ifF (ofN (by omega) (by omega) d) (o_b2o (x_isOut R2.lr.1 R2.lr.2.2.2.2.2.2.2.2.2.2.2.1 (by omega) z5' now' out') (fun v S3 q => ?_))
    obtain ⟨q1, q2⟩ := q
    have q1 : S3 = S2 := q1
    rw [q1]
    rcases q2 with ⟨e, kp⟩ | ⟨e, kp⟩
    · have e : v = 0 := e
      refine r_ifT e (r_ifT ?_ ⟨_, rfl, rfl, R2⟩)
      rcases hw with ⟨e2, -⟩ | ⟨-, e2⟩
      · exact e2
      · exact absurd kp e2
    · have e : v = 1 := e
      refine r_ifF (by rw [e]; decide) (r_ifT ?_ ⟨_, rfl, rfl, R2⟩)
      rcases hw with ⟨-, e2⟩ | ⟨e2, -⟩
      · exact absurd e2 kp
      · exact e2
  · rw [if_neg d]
    exact r_ifT (congrArg _ (show c = nk by omega)) (r_ifT rfl ⟨_, rfl, rfl, R2⟩)
theorem k_792 (hn : n ≤ 500) (L : LW ns nc nf nt nk na S S) (R : RD n r S S') {v : Int32} : Ho (f_W_asks_B792 S' (some 4) y (some 127) (some 138) v v) (GR n (r + 1) S) := by
  unfold f_W_asks_B792
  exact r_ifT rfl (k_800 hn L R)
/-- a token that still counts, though its family does not -/
def LgP (S : AS) (fa au t : Nat) : Prop := sI S 103 fa = 0 ∧ sI S 116 (60 * au + fa) = 0 ∧ ¬ sI S 110 t < sI S 57 0
/-- what the law has read of a token -/
def TI54 (nf nt : Nat) (S : AS) (t : Nat) (x22 x23 x24 : Int32) (fa au : Nat) : Prop := t < nt → fa < nf ∧ au < 4 ∧ sI S 108 t = Int32.ofNat fa ∧ sI S 105 t = Int32.ofNat au ∧ (∃ cl ac sc, cl < 4 ∧ ac < 4 ∧ sc < 16 ∧ sI S 104 t = Int32.ofNat cl ∧ sI S 107 t = Int32.ofNat ac ∧ x22 = Int32.ofNat (cl + 10 * au + 100 * ac + 1000 * sc)) ∧ x23 = Int32.ofNat fa ∧ x24 = sI S 110 t
theorem k_750 (hn : n ≤ 500) (L : LW ns nc nf nt nk na S S) (R : RD n r S S') {t fa au : Nat} {x22 x23 x24 x25 v : Int32} (ht : t ≤ nt) (hT : TI54 nf nt S t x22 x23 x24 fa au) (hg : t < nt → (x25 = 0 ∧ ¬ LgP S fa au t) ∨ (x25 = 1 ∧ LgP S fa au t)) : Ho (f_W_asks_B750 S' (some 4) y (some 127) (some 138) (Int32.ofNat t) x24 x25 v v) (GR n (r + 2) S) := by
  obtain ⟨⟨-, -, -, z4, -, -⟩, ⟨now, -⟩, -⟩ := id L
  have n4 := z4.2.2
  unfold f_W_asks_B750
  refine r_ifT rfl (o_rd (rd_lag R hn L (i := t) ht (fa := fa) (au := au) (fun c => ⟨(hT c).1, (hT c).2.2.1⟩) (fun c => ⟨(hT c).2.1, (hT c).2.2.2.1⟩)) (fun S2 R2 => ?_))
  refine o_ra R2 (by decide) R2.lr.1 (j := 4) rfl (by decide) z4.1 ?_
  by_cases c : t < nt
  · rw [if_pos c]
    have e24 := (hT c).2.2.2.2.2.2
    refine r_ifF (ofN (by omega) (by omega) c) ?_
    rcases hg c with ⟨e, d⟩ | ⟨e, d⟩
    · have d : ¬ (sI S 103 fa = 0 ∧ sI S 116 (60 * au + fa) = 0 ∧ ¬ sI S 110 t < sI S 57 0) := d
      rw [if_neg d]
      exact r_ifT e (k_792 hn L R2)
    · have d : sI S 103 fa = 0 ∧ sI S 116 (60 * au + fa) = 0 ∧ ¬ sI S 110 t < sI S 57 0 := d
      rw [if_pos d]
      refine r_ifF (by rw [e]; decide) (o_ra R2 (by decide) R2.lr.1 (j := 0) rfl (by decide) now.1 ?_)
      rw [e24]
      exact k_792 hn L R2
  · rw [if_neg c]
    exact r_ifT (congrArg _ (show t = nt by omega)) (k_792 hn L R2)
theorem k_685 (hn : n ≤ 500) (L : LW ns nc nf nt nk na S S) (R : RD n r S S') {t fa au : Nat} {x22 x23 x24 x25 : Int32} (ht : t ≤ nt) (hT : TI54 nf nt S t x22 x23 x24 fa au) (hg : t < nt → (x25 = 0 ∧ ¬ LgP S fa au t) ∨ (x25 = 1 ∧ LgP S fa au t)) : Ho (f_W_asks_B685 S' (some 4) y (some 127) (some 138) (Int32.ofNat t) 1 x22 x24 x25) (GR n (r + 3) S) := by
  obtain ⟨⟨-, -, -, z4, -, -⟩, ⟨now, -⟩, -⟩ := id L
  have n4 := z4.2.2
  unfold f_W_asks_B685
  refine r_ifF one0 (o_rd (rd_token R hn L (i := t) ht) (fun S2 R2 => ?_))
  refine o_ra R2 (by decide) R2.lr.1 (j := 4) rfl (by decide) z4.1 ?_
  by_cases c : t < nt
  · rw [if_pos c]
    obtain ⟨-, a2, -, e105, ⟨cl, ac, sc, a1, a3, a4, e104, e107, e22⟩, -, e24⟩ := hT c
    obtain ⟨t1, t2, t3, -⟩ := tk_all cl a1 au a2 ac a3 sc a4
    refine r_ifF (ofF (by omega) (by omega) c) (r_val (r_val ?_))
    rw [show ((((1000 : Int32) * sI S 110 t) + ((100 : Int32) * sI S 104 t)) + ((10 : Int32) * sI S 105 t)) + sI S 107 t = ((((1000 : Int32) * x24) + ((x22 - x22 / (10 : Int32) * (10 : Int32)) * (100 : Int32))) + ((x22 / (10 : Int32) - x22 / (10 : Int32) / (10 : Int32) * (10 : Int32)) * (10 : Int32))) + (x22 / (100 : Int32) - x22 / (100 : Int32) / (10 : Int32) * (10 : Int32)) from by
      rw [e22, t1, t2, t3, e24, e104, e105, e107, Int32.mul_comm (100 : Int32), Int32.mul_comm (10 : Int32)]]
    exact k_750 hn L R2 ht hT hg
  · rw [if_neg c]
    exact r_ifT (ofT (by omega) (by omega) c) (k_750 hn L R2 ht hT hg)
theorem k_684 (hn : n ≤ 500) (L : LW ns nc nf nt nk na S S) (R : RD n r S S') {t fa au : Nat} {x22 x23 x24 : Int32} (ht : t ≤ nt) (hT : TI54 nf nt S t x22 x23 x24 fa au) (hg : t < nt → ¬ LgP S fa au t) : Ho (f_W_asks_B684 S' (some 4) y (some 127) (some 138) (Int32.ofNat t) 1 x22 x24) (GR n (r + 3) S) := by
  unfold f_W_asks_B684
  exact k_685 hn L R ht hT (fun c => Or.inl ⟨rfl, hg c⟩)
theorem k_627 (hn : n ≤ 500) (L : LW ns nc nf nt nk na S S) (R : RD n r S S') {t fa au : Nat} {x22 x23 x24 : Int32} (ht : t ≤ nt) (hT : TI54 nf nt S t x22 x23 x24 fa au) : Ho (f_W_asks_B627 S' (some 4) y (some 127) (some 136) (some 138) (some 139) (Int32.ofNat t) 1 x22 x23 x24) (GR n (r + 3) S) := by
  obtain ⟨⟨-, -, z3, z4, -, -⟩, ⟨now, -⟩, -, -, -, -, ⟨-, -, -, -, god⟩, -, -, ⟨-, tol⟩, -⟩ := id L
  have n4 := z4.2.2
  have n3 := z3.2.2
  unfold f_W_asks_B627
  refine o_ra R (by decide) R.lr.1 (j := 4) rfl (by decide) z4.1 ?_
  by_cases c : t < nt
  · obtain ⟨f1, a2, e108, e105, ⟨cl, ac, sc, a1, a3, a4, e104, e107, e22⟩, e23, e24⟩ := hT c
    obtain ⟨-, t2, -, -⟩ := tk_all cl a1 au a2 ac a3 sc a4
    obtain ⟨t1, -, -, -⟩ := tk_all cl a1 au a2 ac a3 sc a4
    obtain ⟨g1, g2⟩ := god fa f1
    refine r_ifF (ofF (by omega) (by omega) c) (o_ra R (by decide) R.lr.2.2.2.2.2.2.2.2.2.1 (j := 5 * fa + 4) (by rw [e23]; exact wix 5 fa 4) (by omega) g1 ?_)
    by_cases d1 : sI S 103 fa = 0
    · refine r_ifT d1 (r_val ?_)
      rw [show x22 / (10 : Int32) - x22 / (10 : Int32) / (10 : Int32) * (10 : Int32) = Int32.ofNat au from by rw [e22]; exact t1]
      refine o_ra R (by decide) R.lr.2.2.2.2.2.2.2.2.2.2.2.2.1 (j := 4 * au + 3) (v := sI S 139 (4 * au + 3)) (wix 4 au 3) (by omega) rfl ?_
      rw [e23, bitv _ (by omega)]
      obtain ⟨b1, b2⟩ := (tol au a2).1 fa (by omega)
      by_cases d2 : bt (sI S 139 (4 * au + 3)) fa = true
      · rw [d2]
        refine r_ifF (by decide) (k_684 hn L R ht hT (fun _ z => ?_))
        have z2 := z.2.1
        rw [b1.mp d2] at z2
        exact absurd z2 (by decide)
      · have d3 : sI S 116 (60 * au + fa) = 0 := b2.resolve_right (fun q => d2 (b1.mpr q))
        rw [show bt (sI S 139 (4 * au + 3)) fa = false from by simpa using d2]
        refine r_ifT rfl (o_ra R (by decide) R.lr.1 (j := 0) rfl (by decide) now.1 ?_)
        by_cases d4 : x24 < sI S 57 0
        · exact r_ifT d4 (k_684 hn L R ht hT (fun _ z => z.2.2 (by rw [← e24]; exact d4)))
        · exact r_ifF d4 (k_685 hn L R ht hT (fun _ => Or.inr ⟨rfl, d1, d3, by rw [← e24]; exact d4⟩))
    · exact r_ifF d1 (k_684 hn L R ht hT (fun _ z => d1 z.1))
  · exact r_ifT (ofT (by omega) (by omega) c) (k_684 hn L R ht hT (fun q => absurd q c))
theorem k_557 (hn : n ≤ 500) (L : LW ns nc nf nt nk na S S) (R : RD n r S S') {t : Nat} (ht : t ≤ nt) : Ho (f_W_asks_B557 S' (some 4) y (some 127) (some 136) (some 137) (some 138) (some 139) (Int32.ofNat t) 1) (GR n (r + 3) S) := by
  obtain ⟨⟨-, -, z3, z4, z5, -⟩, ⟨now, -⟩, -, -, -, -, -, tok, -⟩ := id L
  have n4 := z4.2.2
  have n3 := z3.2.2
  have n5 := z5.2.2
  unfold f_W_asks_B557
  refine o_ra R (by decide) R.lr.1 (j := 4) rfl (by decide) z4.1 ?_
  by_cases c : t < nt
  · obtain ⟨⟨cl, au, ac, sc, a1, a2, a3, a4, a5, a6, a7, a8, -⟩, ⟨fa, ke, b1, b2, b3, b4, -⟩, c1, -⟩ := tok t c
    have r137 := R.lr.2.2.2.2.2.2.2.2.2.2.1
    have f := ofF (a := t) (b := nt) (by omega) (by omega) c
    refine r_ifF f (o_ra R (by decide) r137 (j := 3 * t) (wmul 3 t) (by omega) a5 ?_)
    unfold f_W_asks_B578
    refine o_ra R (by decide) R.lr.1 (j := 4) rfl (by decide) z4.1 (r_ifF f (o_ra R (by decide) r137 (j := 3 * t + 1) (wix 3 t 1) (by omega) b3 ?_))
    rw [(tf_all fa (by omega) ke (by omega)).1]
    unfold f_W_asks_B604
    refine o_ra R (by decide) R.lr.1 (j := 4) rfl (by decide) z4.1 (r_ifF f (o_ra R (by decide) r137 (j := 3 * t + 2) (wix 3 t 2) (by omega) c1 ?_))
    exact k_627 hn L R ht (fa := fa) (au := au) (fun _ => ⟨b1, a2, b4, a7, ⟨cl, ac, sc, a1, a3, a4, a6, a8, rfl⟩, rfl, rfl⟩)
  · have f := ofT (a := t) (b := nt) (by omega) (by omega) c
    refine r_ifT f ?_
    unfold f_W_asks_B578
    refine o_ra R (by decide) R.lr.1 (j := 4) rfl (by decide) z4.1 (r_ifT f ?_)
    unfold f_W_asks_B604
    refine o_ra R (by decide) R.lr.1 (j := 4) rfl (by decide) z4.1 (r_ifT f ?_)
    exact k_627 hn L R ht (fa := 0) (au := 0) (fun q => absurd q c)
theorem k_549 (hn : n ≤ 500) (L : LW ns nc nf nt nk na S S) (R : RD n r S S') {t : Nat} (ht : t ≤ nt) {v : Int32} : Ho (f_W_asks_B549 S' (some 4) y (some 127) (some 136) (some 137) (some 138) (some 139) (Int32.ofNat t) v v) (GR n (r + 3) S) := by
  unfold f_W_asks_B549
  exact r_ifT rfl (k_557 hn L R ht)
theorem k_478 (hn : n ≤ 500) (L : LW ns nc nf nt nk na S S) (R : RD n r S S') {g t : Nat} (hg : g ≤ nf) (ht : t ≤ nt) : Ho (f_W_asks_B478 S' (some 4) y (some 127) (some 136) (some 137) (some 138) (some 139) (Int32.ofNat g) (Int32.ofNat t) 1) (GR n (r + 5) S) := by
  obtain ⟨⟨-, -, z3, -⟩, -⟩ := id L
  have n3 := z3.2.2
  have go : ∀ (S2 : AS) (v : Int32), RD n (r + 1) S S2 → Ho (f_W_asks_B515 S2 (some 4) y (some 127) (some 136) (some 137) (some 138) (some 139) (Int32.ofNat g) (Int32.ofNat t) v v) (GR n (r + 5) S) := fun S2 v R2 => by
    unfold f_W_asks_B515
    refine r_ifT rfl (o_rd (rd_tokenOf R2 hn L (i := g) hg) (fun S3 R3 => ?_))
    refine o_ra R3 (by decide) R3.lr.1 (j := 3) rfl (by decide) z3.1 ?_
    by_cases c : g < nf
    · rw [if_pos c]
      exact r_ifF (ofF (by omega) (by omega) c) (o_ra R3 (by decide) R3.lr.2.2.2.2.2.2.2.2.2.1 (j := 5 * g + 3) (wix 5 g 3) (by omega) rfl (k_549 hn L R3 ht))
    · rw [if_neg c]
      exact r_ifT (ofT (by omega) (by omega) c) (k_549 hn L R3 ht)
  unfold f_W_asks_B478
  refine r_ifF one0 (o_rd (rd_isGood R hn L (i := g) hg) (fun S2 R2 => ?_))
  refine o_ra R2 (by decide) R2.lr.1 (j := 3) rfl (by decide) z3.1 ?_
  by_cases c : g < nf
  · rw [if_pos c]
    exact r_ifF (ofF (by omega) (by omega) c) (o_ra R2 (by decide) R2.lr.2.2.2.2.2.2.2.2.2.1 (j := 5 * g + 4) (wix 5 g 4) (by omega) rfl (go S2 _ R2))
  · rw [if_neg c]
    exact r_ifT (ofT (by omega) (by omega) c) (go S2 _ R2)
theorem k_470 (hn : n ≤ 500) (L : LW ns nc nf nt nk na S S) (R : RD n r S S') {g t : Nat} (hg : g ≤ nf) (ht : t ≤ nt) {v : Int32} : Ho (f_W_asks_B470 S' (some 4) y (some 127) (some 136) (some 137) (some 138) (some 139) (Int32.ofNat g) (Int32.ofNat t) v v) (GR n (r + 5) S) := by
  unfold f_W_asks_B470
  exact r_ifT rfl (k_478 hn L R hg ht)
theorem k_375 (hn : n ≤ 500) (L : LW ns nc nf nt nk na S S) (R : RD n r S S') {T0 : Nat → Nat} {r0 : Nat} (L0 : L54 n r0 T0 S) {s g t : Nat} (hs : s ≤ ns) (hg : g ≤ nf) (ht : t ≤ nt) : Ho (f_W_asks_B375 S' (some 4) y (some 127) (some 133) (some 134) (some 136) (some 137) (some 138) (some 139) (Int32.ofNat s) (Int32.ofNat g) (Int32.ofNat t) 1) (GR n (r + 8) S) := by
  obtain ⟨⟨z1, -⟩, ⟨now, -⟩, -, -, -, ⟨sp, -, lv, ssh⟩, -⟩ := id L
  have n1 := z1.2.2
  have go : ∀ v : Int32, v = (if s < ns then sI S 89 s else -1001) → Ho (f_W_asks_B410 S' (some 4) y (some 127) (some 134) (some 136) (some 137) (some 138) (some 139) (Int32.ofNat s) (Int32.ofNat g) (Int32.ofNat t) 1 v) (GR n (r + 8) S) := fun v hv => by
    rw [hv]
    unfold f_W_asks_B410
    refine r_ifF one0 (o_rd (rd_isLive R hn L (i := s) hs) (fun S2 R2 => r_ifT rfl (o_rd (rd_isLiveByAudit R2 hn L (i := s) hs L0) (fun S3 R3 => r_ifT rfl (o_rd (rd_level R3 hn L (i := s) hs) (fun S4 R4 => ?_))))))
    refine o_ra R4 (by decide) R4.lr.1 (j := 1) rfl (by decide) z1.1 ?_
    by_cases c : s < ns
    · rw [if_pos c]
      refine r_ifF (ofF (by omega) (by omega) c) (o_b2 (x_levelOf R4.lr.1 R4.lr.2.2.2.2.2.2.2.1 (by omega) (fun f f3 => by
        rw [R4.e (by decide), (ssh s c f f3).1]
        exact (ssh s c f f3).2)) ?_)
      rw [R4.e (by decide), R4.e (by decide), R4.e (by decide), R4.e (by decide)]
      exact k_470 hn L R4 hg ht
    · rw [if_neg c]
      exact r_ifT (ofT (by omega) (by omega) c) (k_470 hn L R4 hg ht)
  unfold f_W_asks_B375
  refine o_ra R (by decide) R.lr.1 (j := 1) rfl (by decide) z1.1 ?_
  by_cases c : s < ns
  · obtain ⟨-, -, o, o2, o3⟩ := sp s c
    refine r_ifF (ofF (by omega) (by omega) c) ?_
    rcases lv s c with ⟨e1, e2⟩ | ⟨e1, e2⟩
    · refine o_ra R (by decide) R.lr.2.2.2.2.2.2.1 (j := 4 * s + 3) (wix 4 s 3) (by omega) (e2.trans o3) (r_ifF (fun q => ?_) (go _ (by rw [if_pos c, e1])))
      have := (oleq (a := 100) (b := o) (by omega) (by omega)).mp q
      omega
    · exact o_ra R (by decide) R.lr.2.2.2.2.2.2.1 (j := 4 * s + 3) (v := Int32.ofNat (o + 100)) (wix 4 s 3) (by omega) (e2.trans (by rw [o3]; exact wadd o 100)) (r_ifT ((oleq (a := 100) (b := o + 100) (by omega) (by omega)).mpr (by omega)) (go _ (by rw [if_pos c, e1])))
  · exact r_ifT (ofT (by omega) (by omega) c) (go _ (by rw [if_neg c]))
theorem k_367 (hn : n ≤ 500) (L : LW ns nc nf nt nk na S S) (R : RD n r S S') {T0 : Nat → Nat} {r0 : Nat} (L0 : L54 n r0 T0 S) {s g t : Nat} (hs : s ≤ ns) (hg : g ≤ nf) (ht : t ≤ nt) {v : Int32} : Ho (f_W_asks_B367 S' (some 4) y (some 127) (some 133) (some 134) (some 136) (some 137) (some 138) (some 139) (Int32.ofNat s) (Int32.ofNat g) (Int32.ofNat t) v v) (GR n (r + 8) S) := by
  unfold f_W_asks_B367
  exact r_ifT rfl (k_375 hn L R L0 hs hg ht)
theorem k_332 (hn : n ≤ 500) (L : LW ns nc nf nt nk na S S) (R : RD n r S S') {T0 : Nat → Nat} {r0 : Nat} (L0 : L54 n r0 T0 S) {i s g t : Nat} (hi : i ≤ na) (hs : s ≤ ns) (hg : g ≤ nf) (ht : t ≤ nt) {v : Int32} : Ho (f_W_asks_B332 S' (some 4) y (some 127) (some 129) (some 130) (some 133) (some 134) (some 136) (some 137) (some 138) (some 139) (Int32.ofNat i) (Int32.ofNat s) (Int32.ofNat g) (Int32.ofNat t) v v) (GR n (r + 9) S) := by
  obtain ⟨⟨-, -, -, -, -, z6⟩, -, -, -, ⟨att, -⟩, -⟩ := id L
  have n6 := z6.2.2
  have lr := TL_LR L0.1.1 L0.2.2.1
  unfold f_W_asks_B332
  refine r_ifT rfl ?_
  by_cases c : i < na
  · obtain ⟨⟨p, p3, a1, -⟩, ⟨d, d3, b1, -⟩, ⟨e, e3, c1, -⟩, -⟩ := att i c
    refine o_rd (rd_risk R hn L (i := i) hi (w := RKV S p d e) L0.2.2.2.1.1 lr (fun _ => x_riskV lr.1 lr.2.2.1 lr.2.2.2.1 (by omega) p3 d3 e3 a1 b1 c1)) (fun S2 R2 => ?_)
    refine o_ra R2 (by decide) R2.lr.1 (j := 11) rfl (by decide) z6.1 ?_
    rw [if_pos c]
    refine r_ifF (ofF (by omega) (by omega) c) (o_b2 (x_riskV (p := p) (d := d) (e := e) R2.lr.1 R2.lr.2.2.1 R2.lr.2.2.2.1 (by omega) p3 d3 e3 ((R2.e (by decide)).trans a1) ((R2.e (by decide)).trans b1) ((R2.e (by decide)).trans c1)) ?_)
    rw [show RKV S2 p d e = RKV S p d e from by
      unfold RKV
      rw [R2.2.1 127 (by omega) (by omega), R2.2.1 129 (by omega) (by omega)]]
    exact k_367 hn L R2 L0 hs hg ht
  · refine o_rd (rd_risk R hn L (i := i) hi (w := 0) L0.2.2.2.1.1 lr (fun q => absurd q c)) (fun S2 R2 => ?_)
    refine o_ra R2 (by decide) R2.lr.1 (j := 11) rfl (by decide) z6.1 ?_
    rw [if_neg c]
    exact r_ifT (ofT (by omega) (by omega) c) (k_367 hn L R2 L0 hs hg ht)
theorem k_278 (hn : n ≤ 500) (L : LW ns nc nf nt nk na S S) (R : RD n r S S') {T0 : Nat → Nat} {r0 : Nat} (L0 : L54 n r0 T0 S) {i s g t : Nat} (hi : i ≤ na) (hs : s ≤ ns) (hg : g ≤ nf) (ht : t ≤ nt) {v : Int32} : Ho (f_W_asks_B278 S' (some 4) y (some 127) (some 129) (some 130) (some 131) (some 133) (some 134) (some 136) (some 137) (some 138) (some 139) (Int32.ofNat i) (Int32.ofNat s) (Int32.ofNat g) (Int32.ofNat t) v v) (GR n (r + 10) S) := by
  obtain ⟨⟨-, -, -, -, -, z6⟩, -, -, -, ⟨att, ast, -⟩, -⟩ := id L
  have n6 := z6.2.2
  unfold f_W_asks_B278
  refine r_ifT rfl (o_rd (rd_sessionOf R hn L (i := i) hi) (fun S2 R2 => ?_))
  refine o_ra R2 (by decide) R2.lr.1 (j := 11) rfl (by decide) z6.1 ?_
  by_cases c : i < na
  · rw [if_pos c]
    obtain ⟨e80, -, ac⟩ := ast i c
    refine r_ifF (ofF (by omega) (by omega) c) (o_ra R2 (by decide) R2.lr.2.2.2.1 (j := 6 * i + 4) (wix 6 i 4) (by omega) e80 ?_)
    rcases ac with ⟨x, -, -, x3⟩ | ⟨x, s', -, x2, x3⟩ | ⟨x, x3⟩
    · rw [x3]
      exact r_ifF (by rw [x]; decide) (k_332 hn L R2 L0 hi hs hg ht)
    · rw [x3]
      refine r_ifT x (o_ra R2 (by decide) R2.lr.2.2.2.2.1 (j := 2 * i + 1) (wix 2 i 1) (by omega) x2 ?_)
      rw [qsub1]
      exact k_332 hn L R2 L0 hi hs hg ht
    · rw [x3]
      exact r_ifF (by rw [x]; decide) (k_332 hn L R2 L0 hi hs hg ht)
  · rw [if_neg c]
    exact r_ifT (ofT (by omega) (by omega) c) (k_332 hn L R2 L0 hi hs hg ht)
theorem k_168 (hn : n ≤ 500) (L : LW ns nc nf nt nk na S S) (R : RD n r S S') {T0 : Nat → Nat} {r0 : Nat} (L0 : L54 n r0 T0 S) {i s g t : Nat} (hi : i ≤ na) (hs : s ≤ ns) (hg : g ≤ nf) (ht : t ≤ nt) : Ho (f_W_asks_B168 S' (some 4) y (some 127) (some 128) (some 129) (some 130) (some 131) (some 133) (some 134) (some 136) (some 137) (some 138) (some 139) (Int32.ofNat i) (Int32.ofNat s) (Int32.ofNat g) (Int32.ofNat t) 1) (GR n (r + 12) S) := by
  obtain ⟨⟨-, -, -, -, -, z6⟩, -, flo, -, ⟨att, ast, -⟩, -⟩ := id L
  have n6 := z6.2.2
  have go : ∀ w : Int32, (i < na → (sI S 80 i = 0 ∧ ∃ k, k < 7 ∧ sI S 79 i = Int32.ofNat k ∧ w = sI S 68 k) ∨ (¬ sI S 80 i = 0 ∧ w = -1)) → Ho (f_W_asks_B212 S' (some 4) y (some 127) (some 129) (some 130) (some 131) (some 133) (some 134) (some 136) (some 137) (some 138) (some 139) (Int32.ofNat i) (Int32.ofNat s) (Int32.ofNat g) (Int32.ofNat t) 1 w) (GR n (r + 12) S) := fun w hw => by
    have g2 : ∀ (S2 : AS) (v : Int32), RD n (r + 1) S S2 → Ho (f_W_asks_B251 S2 (some 4) y (some 127) (some 129) (some 130) (some 131) (some 133) (some 134) (some 136) (some 137) (some 138) (some 139) (Int32.ofNat i) (Int32.ofNat s) (Int32.ofNat g) (Int32.ofNat t) w v v) (GR n (r + 12) S) := fun S2 v R2 => by
      unfold f_W_asks_B251
      refine r_ifT rfl (o_rd (rd_asked R2 hn L (i := i) hi (w := w) hw) (fun S3 R3 => ?_))
      refine o_ra R3 (by decide) R3.lr.1 (j := 11) rfl (by decide) z6.1 ?_
      by_cases c : i < na
      · rw [if_pos c]
        exact r_ifF (ofF (by omega) (by omega) c) (k_278 hn L R3 L0 hi hs hg ht)
      · rw [if_neg c]
        exact r_ifT (ofT (by omega) (by omega) c) (k_278 hn L R3 L0 hi hs hg ht)
    unfold f_W_asks_B212
    refine r_ifF one0 (o_rd (rd_state R hn L (i := i) hi) (fun S2 R2 => ?_))
    refine o_ra R2 (by decide) R2.lr.1 (j := 11) rfl (by decide) z6.1 ?_
    by_cases c : i < na
    · rw [if_pos c]
      exact r_ifF (ofF (by omega) (by omega) c) (o_ra R2 (by decide) R2.lr.2.2.2.1 (j := 6 * i + 4) (wix 6 i 4) (by omega) rfl (g2 S2 _ R2))
    · rw [if_neg c]
      exact r_ifT (ofT (by omega) (by omega) c) (g2 S2 _ R2)
  unfold f_W_asks_B168
  refine o_ra R (by decide) R.lr.1 (j := 11) rfl (by decide) z6.1 ?_
  by_cases c : i < na
  · obtain ⟨e80, -, ac⟩ := ast i c
    refine r_ifF (ofF (by omega) (by omega) c) (o_ra R (by decide) R.lr.2.2.2.1 (j := 6 * i + 4) (wix 6 i 4) (by omega) e80 ?_)
    by_cases d : sI S 80 i = 0
    · obtain ⟨k, k7, x1, x2⟩ : ∃ k, k < 7 ∧ sI S 130 (6 * i + 3) = Int32.ofNat k ∧ sI S 79 i = Int32.ofNat k := by
        rcases ac with ⟨-, ⟨k, k7, x1, x2, -⟩, -⟩ | ⟨x, -⟩ | ⟨x, -⟩
        · exact ⟨k, k7, x1, x2⟩
        · rw [d] at x
          exact absurd x (by decide)
        · rw [d] at x
          exact absurd x (by decide)
      obtain ⟨kd, f, -, -, -, -, -, q1, q68, -⟩ := flo.2 k k7
      refine r_ifT d (o_ra R (by decide) R.lr.2.2.2.1 (j := 6 * i + 3) (wix 6 i 3) (by omega) x1 (o_ra R (by decide) R.lr.2.1 (j := 5 * k + 1) (wix 5 k 1) (by omega) q1 ?_))
      exact go _ (fun _ => Or.inl ⟨d, k, k7, x2, q68.symm⟩)
    · refine r_ifF d ?_
      unfold f_W_asks_B211
      exact go _ (fun _ => Or.inr ⟨d, rfl⟩)
  · refine r_ifT (ofT (by omega) (by omega) c) ?_
    unfold f_W_asks_B211
    exact go _ (fun q => absurd q c)
end
theorem l_asks {n r : Nat} {T : Nat → Nat} {S : AS} (L : L54 n r T S) (hn : n ≤ 500) {y : Int32} : Ho (f_W_asks S (some 4) y (some 127) (some 128) (some 129) (some 130) (some 131) (some 133) (some 134) (some 136) (some 137) (some 138) (some 139)) (fun q => q.1 = 1 ∧ ∃ T', L54 n (r + 18) T' q.2) := by
  obtain ⟨iv, rp, tl, pts, -, ns, nc, nf, nt, nk, na, lwx⟩ := id L
  obtain ⟨⟨z1, -, z3, z4, z5, z6⟩, ⟨now, aud, key, -⟩, -, ⟨fac, -⟩, -⟩ := id lwx
  have n1 := z1.2.2
  have n3 := z3.2.2
  have n4 := z4.2.2
  have n6 := z6.2.2
  have R : RD n r S S := ⟨⟨T, L⟩, fun _ _ _ => rfl, GK_rf S⟩
  unfold f_W_asks
  refine o_some 3 rfl (by decide) (by decide) (fun p p3 => o_some 3 rfl (by decide) (by decide) (fun f f3 => ?_))
  refine o_ra R (by decide) R.lr.1 (j := 11) rfl (by decide) z6.1 (o_some (na + 1) (o1 na) (Nat.succ_pos _) (by omega) (fun i hi => ?_))
  refine o_ra R (by decide) R.lr.1 (j := 1) rfl (by decide) z1.1 (o_some (ns + 1) (o1 ns) (Nat.succ_pos _) (by omega) (fun s hs => ?_))
  refine o_ra R (by decide) R.lr.1 (j := 3) rfl (by decide) z3.1 (o_some (nf + 1) (o1 nf) (Nat.succ_pos _) (by omega) (fun g hg => ?_))
  refine o_ra R (by decide) R.lr.1 (j := 4) rfl (by decide) z4.1 (o_some (nt + 1) (o1 nt) (Nat.succ_pos _) (by omega) (fun t ht => ?_))
  refine o_rd (rd_factor R hn lwx p3 f3) (fun S1 R1 => o_ra R1 (by decide) R1.lr.2.2.1 (j := 12 * p + f) (wix 12 p f) (by omega) rfl (r_ifT rfl ?_))
  refine o_rd (rd_audits R1 hn lwx) (fun S2 R2 => o_ra R2 (by decide) R2.lr.1 (j := 9) rfl (by decide) rfl (r_ifT rfl ?_))
  refine o_rd (rd_sum R2 hn lwx) (fun S3 R3 => o_ra R3 (by decide) R3.lr.1 (j := 10) rfl (by decide) rfl (r_ifT rfl (o_ra R3 (by decide) R3.lr.1 (j := 9) rfl (by decide) rfl ?_)))
  refine o_rd (rd_sumAnew R3 hn lwx) (fun S4 R4 => o_ra R4 (by decide) R4.lr.1 (j := 10) rfl (by decide) rfl (r_ifT rfl ?_))
  refine o_rd (rd_sessions R4 hn lwx) (fun S5 R5 => o_ra R5 (by decide) R5.lr.1 (j := 1) rfl (by decide) rfl (r_ifT rfl ?_))
  refine o_rd (rd_signing R5 hn lwx) (fun S6 R6 => o_ra R6 (by decide) R6.lr.1 (j := 6) rfl (by decide) rfl (r_ifT rfl ?_))
  exact o_mono (k_168 hn lwx R6 L (by omega) (by omega) (by omega) (by omega)) (fun q h => ⟨h.1, h.2.1⟩)
