/-! ===== the law from its rows to its end ===== -/
section
variable {X : Nat → Int32} {L n r i : Nat} {U S : AS}
theorem L54_upn {n' : Nat} {T : Nat → Nat} (h : L54 n r T S) (hn : n ≤ n') : L54 n' r T S := by
  obtain ⟨⟨a1, a2, a3, a4⟩, h2, h3, ⟨b1, b2⟩, h5⟩ := h
  exact ⟨⟨a1, a2, by omega, a4⟩, h2, h3, ⟨b1, by omega⟩, h5⟩
/-- while the steps are added -/
def DI (n r i : Nat) (U S : AS) : Prop := SI n r S ∧ LK U S ∧ GZ S ∧ sI S 57 9 = 0 ∧ sI S 66 8 = Int32.ofNat i ∧ ∀ k, k < i → sI S 67 (96 + k) = sI U 128 (5 * k) ∧ sI S 68 (96 + k) = sI U 128 (5 * k + 1) ∧ sI S 69 (96 + k) = sI U 128 (5 * k + 2) ∧ sI S 70 (96 + k) = sI U 128 (5 * k + 3) ∧ sI S 71 (96 + k) = sI U 128 (5 * k + 4)
theorem DI_step (D : DI n r i U S) (hn : n ≤ 600) (hi : i < 7) (ok : OKS (sI U 128 (5 * i)) (sI U 128 (5 * i + 1)) (sI U 128 (5 * i + 2)) (sI U 128 (5 * i + 3)) (sI U 128 (5 * i + 4))) : ∃ S2, f_W_addsg S (some 4) (sI U 128 (5 * i)) (sI U 128 (5 * i + 1)) (sI U 128 (5 * i + 2)) (sI U 128 (5 * i + 3)) (sI U 128 (5 * i + 4)) = some (Int32.ofNat i, S2) ∧ DI (n + 1) (r + 1) (i + 1) U S2 := by
  obtain ⟨⟨T, iv, rp, tl, c1, c2⟩, lk, gz, h9, h8, dr⟩ := D
  obtain ⟨S1, S2, T1, e, g, st⟩ := tg_step iv hn rp h8 (by omega) ok
  obtain ⟨si, l2, g1, -⟩ := PK_SI iv tl c1 c2 g (by decide +kernel) (by decide +kernel) (by decide +kernel)
  refine ⟨S2, e, si, LK_tr lk l2, fun k j a b c d => ?_, ?_, ?_, fun k hk => ?_⟩
  · rw [st k j, if_neg (by omega), if_neg (by omega), if_neg (by omega), g1 k j a b (by omega)]
    exact gz k j a b c d
  · rw [st 57 9, if_neg (by omega), if_neg (by omega), if_neg (by omega), g1 57 9 (by omega) (by omega) (by omega)]
    exact h9
  · rw [st 66 8, if_neg (by omega), if_pos ⟨rfl, rfl⟩]
  · by_cases c : k = i
    · subst c
      refine ⟨?_, ?_, ?_, ?_, ?_⟩
      · rw [st 67 _, if_neg (by omega), if_neg (by omega), if_pos ⟨by omega, rfl⟩, if_pos rfl]
      · rw [st 68 _, if_neg (by omega), if_neg (by omega), if_pos ⟨by omega, rfl⟩, if_neg (by omega), if_pos rfl]
      · rw [st 69 _, if_neg (by omega), if_neg (by omega), if_pos ⟨by omega, rfl⟩, if_neg (by omega), if_neg (by omega), if_pos rfl]
      · rw [st 70 _, if_neg (by omega), if_neg (by omega), if_pos ⟨by omega, rfl⟩, if_neg (by omega), if_neg (by omega), if_neg (by omega), if_pos rfl]
      · rw [st 71 _, if_neg (by omega), if_neg (by omega), if_pos ⟨by omega, rfl⟩, if_neg (by omega), if_neg (by omega), if_neg (by omega), if_neg (by omega)]
    · have old : ∀ p, 67 ≤ p → p ≤ 71 → sI S2 p (96 + k) = sI S p (96 + k) := fun p h1 h2 => by rw [st p _, if_neg (by omega), if_neg (by omega), if_neg (by omega), g1 p _ (by omega) (by omega) (by omega)]
      rw [old 67 (by omega) (by omega), old 68 (by omega) (by omega), old 69 (by omega) (by omega), old 70 (by omega) (by omega), old 71 (by omega) (by omega)]
      exact dr k (by omega)
theorem x_342 {Q : Int32 × AS → Prop} (fl : FL7 U) (H : ∀ S fu, DI 9 9 7 U S → Ho (f_W_law_L342 X L (fu + 1) S (some 4) (some 127) (some 128) (some 129) (some 130) (some 131) (some 132) (some 133) (some 134) (some 135) (some 136) (some 137) (some 138) (some 139) (some 140) 1 (Int32.ofNat 7)) Q) : ∀ (k i fu : Nat) (S : AS), i + k = 7 → k < fu → DI (2 + i) (2 + i) i U S → Ho (f_W_law_L342 X L fu S (some 4) (some 127) (some 128) (some 129) (some 130) (some 131) (some 132) (some 133) (some 134) (some 135) (some 136) (some 137) (some 138) (some 139) (some 140) 1 (Int32.ofNat i)) Q
  | _, _, 0, _, _, h, _ => absurd h (Nat.not_lt_zero _)
  | 0, i, fu + 1, S, hk, _, D => by
    have e : i = 7 := by omega
    subst e
    exact H S fu D
  | k + 1, i, fu + 1, S, hk, hfu, D => by
    have r128 := D.1.lr.2.1
    have lk : ∀ j, sI S 128 j = sI U 128 j := fun j => congrFun (D.2.1 128 (by omega) (by omega)) j
    unfold f_W_law_L342 f_W_law_C342
    refine r_ifF (ofF (a := i) (b := 7) (by omega) (by omega) (by omega)) (r_ifF one0 ?_)
    refine o_aIe r128 (n := 5 * i) (wmul 5 i) (by omega) (lk _) (o_aIe r128 (n := 5 * i + 1) (wix 5 i 1) (by omega) (lk _) (o_aIe r128 (n := 5 * i + 2) (wix 5 i 2) (by omega) (lk _) (o_aIe r128 (n := 5 * i + 3) (wix 5 i 3) (by omega) (lk _) (o_aIe r128 (n := 5 * i + 4) (wix 5 i 4) (by omega) (lk _) ?_))))
    obtain ⟨S2, e, D2⟩ := DI_step D (by omega) (by omega) (fl.1 i (by omega)).1
    refine o_b2 e (r_ifT rfl ?_)
    unfold f_W_law_B406
    refine r_val ?_
    rw [o1]
    exact x_342 fl H k (i + 1) fu S2 (by omega) (by omega) D2
/-- the flow is published, and the loop runs -/
theorem x_fin (hL : L ≤ 260) (fl : FL7 U) (hU : ∀ k j, 127 ≤ k → k < 141 → k ≠ 128 → k ≠ 134 → sI U k j = sI A1 k j) (fu : Nat) (D : DI 9 9 7 U S) : Ho (f_W_law_L342 X L (fu + 1) S (some 4) (some 127) (some 128) (some 129) (some 130) (some 131) (some 132) (some 133) (some 134) (some 135) (some 136) (some 137) (some 138) (some 139) (some 140) 1 (Int32.ofNat 7)) (fun q => q.1 = 1 ∧ ∃ T', L54 170 2880 T' q.2) := by
  obtain ⟨⟨T, iv, rp, tl, c1, c2⟩, lk, gz, h9, h8, dr⟩ := D
  obtain ⟨c, S1, S2, T1, e, g, res⟩ := tg_pub (a0 := 0) iv (by decide) rp h8 (by decide) h9
  obtain ⟨si, l2, g1, -⟩ := PK_SI iv tl c1 c2 g (by decide +kernel) (by decide +kernel) (by decide +kernel)
  have rw1 : ∀ k, k < 7 → sI S1 67 (96 + k) = sI U 128 (5 * k) ∧ sI S1 68 (96 + k) = sI U 128 (5 * k + 1) ∧ sI S1 69 (96 + k) = sI U 128 (5 * k + 2) ∧ sI S1 70 (96 + k) = sI U 128 (5 * k + 3) ∧ sI S1 71 (96 + k) = sI U 128 (5 * k + 4) := fun k hk => by
    rw [g1 67 _ (by omega) (by omega) (by omega), g1 68 _ (by omega) (by omega) (by omega), g1 69 _ (by omega) (by omega) (by omega), g1 70 _ (by omega) (by omega) (by omega), g1 71 _ (by omega) (by omega) (by omega)]
    exact dr k hk
  have q7 : ∀ v : Int32, qnx v → v.toInt < 7 := fun v h => by
    rcases h with h | ⟨t, t7, h⟩
    · rw [h]
      decide
    · rw [h, oiq (by omega)]
      omega
  obtain ⟨fk, ρ, ρ1, ρ2⟩ := id fl
  have pub : PUB S1 7 := by
    refine ⟨by decide, by rw [g1 57 9 (by omega) (by omega) (by omega), h9]; decide, fun k hk _ => ?_, ρ, ρ1, fun k hk te t ht te' => ?_⟩
    · obtain ⟨-, -, -, r3, r4⟩ := rw1 k hk
      rw [r3, r4]
      exact ⟨q7 _ (fk k hk).2.2.1, q7 _ (fk k hk).2.2.2⟩
    · obtain ⟨r0, -, -, r3, r4⟩ := rw1 k hk
      have te : In 1 4 (sI S1 67 (96 + k)) := te
      have ht : (sI S1 70 (96 + k)).toInt = (t : Int) ∨ (sI S1 71 (96 + k)).toInt = (t : Int) := ht
      have te' : In 1 4 (sI S1 67 (96 + t)) := te'
      rw [r0] at te
      rw [r3, r4] at ht
      have t7 : t < 7 := by
        have a := q7 _ (fk k hk).2.2.1
        have b := q7 _ (fk k hk).2.2.2
        omega
      rw [(rw1 t t7).1] at te'
      exact ρ2 k hk te t ht te'
  rcases res with ⟨-, ec, ps⟩ | ⟨np, -⟩
  case inr => exact absurd pub np
  obtain ⟨T2, iv2, rp2, tl2, d1, d2⟩ := si
  have h8' : sI S2 66 8 = 0 := by rw [ps 66 8, if_neg (by omega), if_pos ⟨rfl, rfl⟩]
  obtain ⟨S3, S4, T4, e4, g4, e44⟩ := tg_clear (a0 := 0) iv2 (by decide) rp2 h8'
  obtain ⟨⟨T5, iv5, rp5, tl5, d3, d4⟩, l4, g3, -⟩ := PK_SI iv2 tl2 d1 d2 g4 (by decide +kernel) (by decide +kernel) (by decide +kernel)
  have LS : LK U S4 := LK_tr lk (LK_tr l2 l4)
  have p4 : ∀ k j, 57 ≤ k → k < 126 → ¬ (k = 57 ∧ (100 ≤ j ∨ j = 82)) → ¬ (k = 66 ∧ j = 8) → sI S4 k j = sI S2 k j := fun k j a b c d => by
    rw [e44, ti_sI_ne d, ti_sI_ne (by omega)]
    exact g3 k j a b c
  have gz4 : GZ S4 := fun k j a b c d => by
    rw [p4 k j a b (by omega) (by omega), ps k j, if_neg (by omega), if_neg (by omega), if_neg (by omega), if_neg (by omega), ti_sI_ne (by omega), g1 k j a b (by omega)]
    exact gz k j a b c d
  have v0 : ∀ p k, 67 ≤ p → p ≤ 71 → k < 7 → sI S4 p k = sI S1 p (96 + k) := fun p k h1 h2 hk => by
    rw [p4 p k (by omega) (by omega) (by omega) (by omega), ps p k, if_neg (by omega), if_neg (by omega), if_neg (by omega), if_pos ⟨⟨h1, h2⟩, by omega, by omega⟩, ti_sI_ne (by omega), show 96 + (k - 12 * 0) = 96 + k by omega]
  have flo : lFlo S4 S4 := by
    refine ⟨?_, fun k hk => ?_⟩
    · exact (p4 57 9 (by omega) (by omega) (by omega) (by omega)).trans ((ps 57 9).trans (if_pos ⟨rfl, rfl⟩))
    · obtain ⟨-, ⟨kd, f, a1, a2, a3, a4, a5, a6⟩, qy, qz⟩ := fk k hk
      obtain ⟨r0, r1, r2, r3, r4⟩ := rw1 k hk
      have u : ∀ j, sI S4 128 j = sI U 128 j := fun j => congrFun (LS 128 (by omega) (by omega)) j
      refine ⟨kd, f, a1, a2, a3, (u _).trans a4, (v0 67 k (by omega) (by omega) (by omega)).trans (r0.trans a4), (u _).trans a5, (v0 68 k (by omega) (by omega) (by omega)).trans (r1.trans a5), ⟨(u _).trans ((v0 69 k (by omega) (by omega) (by omega)).trans r2).symm, fun h => ?_⟩, ⟨(u _).trans ((v0 70 k (by omega) (by omega) (by omega)).trans r3).symm, ?_⟩, (u _).trans ((v0 71 k (by omega) (by omega) (by omega)).trans r4).symm, ?_⟩
      · rw [v0 69 k (by omega) (by omega) (by omega), r2]
        exact a6 h
      · rw [v0 70 k (by omega) (by omega) (by omega), r3]
        exact qy
      · rw [v0 71 k (by omega) (by omega) (by omega), r4]
        exact qz
  have LL : L54 11 11 T5 S4 := by
    refine ⟨iv5, rp5, tl5, ⟨⟨(gz4 73 0 (by omega) (by omega) (by omega) (by omega)).trans z73.1, (gz4 73 1 (by omega) (by omega) (by omega) (by omega)).trans z73.2.1, (gz4 73 2 (by omega) (by omega) (by omega) (by omega)).trans z73.2.2⟩, ?_⟩, ⟨d3, d4⟩, 0, 0, 0, 0, 1, 0, z_LW (fun k j a b c d => ?_) gz4 flo⟩
    · rw [gz4 57 0 (by omega) (by omega) (by omega) (by omega), z57.1]
      decide
    · rw [LS k a b]
      exact hU k j a b c d
  unfold f_W_law_L342 f_W_law_C342
  refine r_ifT (ofT (a := 7) (b := 7) (by omega) (by omega) (by omega)) (r_ifF one0 (o_b2 e ?_))
  rw [ec]
  refine r_ifT rfl (o_b2 e4 (r_ifT rfl ?_))
  unfold f_W_law_B444
  exact lp_loop hL 150 0 kr_FU T5 S4 rfl (show 150 < 2000 by decide) (L54_up2 (L54_upn LL (by decide)) (by decide))
/-- no flow yet: neither publishing nor beginning -/
theorem x_291 (hL : L ≤ 260) {y0 y1 y2 y3 y4 y5 y6 : Int32} (l : LF kr_Z S) (hU : ∀ k j, 127 ≤ k → k < 141 → k ≠ 128 → k ≠ 134 → sI S k j = sI A1 k j) {b1 b2 k3 a3 a4 z5 : Int32} (h0 : RW7 S 0 3 2 0 1 2) (h1 : RW7 S 1 0 2 b1 4 2) (h2 : RW7 S 2 0 0 b2 3 (-1)) (h3 : RW7 S 3 k3 a3 0 5 4) (h4 : RW7 S 4 4 a4 0 6 5) (f1 : FK7 0 2 b1 4 2) (f2 : FK7 0 0 b2 3 (-1)) (f3 : FK7 k3 a3 0 5 4) (f4 : FK7 4 a4 0 6 5) (f5 : FK7 0 1 1 6 z5) : Ho (f_W_law_B291 X L S (some 4) (some 127) (some 128) (some 129) (some 130) (some 131) (some 132) (some 133) (some 134) (some 135) (some 136) (some 137) (some 138) (some 139) (some 140) (some 128) (5 : Int32) (0 : Int32) (1 : Int32) (1 : Int32) (6 : Int32) z5) (fun q => q.1 = 1 ∧ ∃ T', L54 170 2880 T' q.2) := by
  have lr : LR S := l.LR z_SI.lr
  unfold f_W_law_B291
  refine o_steps (k := 5) lr.2.1 (by decide) rfl (fun S1 l1 q1 w5 => o_steps (k := 6) (l1.LR lr).2.1 (by decide) rfl (fun U l2 q2 w6 => ?_))
  have lu : LF kr_Z U := LF_tr l (LF_tr l1 l2)
  have oU : ∀ q j, q ≠ 128 → sI U q j = sI S q j := fun q j h => (q2 q j (fun z => h z.1)).trans (q1 q j (fun z => h z.1))
  have fl : FL7 U := FL7_of (RW7_fr (RW7_fr h0 (by decide) q1) (by decide) q2) (RW7_fr (RW7_fr h1 (by decide) q1) (by decide) q2) (RW7_fr (RW7_fr h2 (by decide) q1) (by decide) q2) (RW7_fr (RW7_fr h3 (by decide) q1) (by decide) q2) (RW7_fr (RW7_fr h4 (by decide) q1) (by decide) q2) (RW7_fr w5 (by decide) q2) w6 f1 f2 f3 f4 f5
  have hU' : ∀ k j, 127 ≤ k → k < 141 → k ≠ 128 → k ≠ 134 → sI U k j = sI A1 k j := fun k j a b c d => (oU k j c).trans (hU k j a b c d)
  have gu : ∀ k j, k < 126 → sI U k j = sI kr_Z k j := fun k j h => by rw [lu.2.2.2.2.2.2.2 k (by omega)]
  obtain ⟨T, iv, rp, tl, c1, c2⟩ := SI_LF z_SI lu
  have u8 : sI U 66 8 = Int32.ofNat 0 := (gu 66 8 (by omega)).trans z66
  have u9 : sI U 57 9 = 0 := (gu 57 9 (by omega)).trans z57.2.2.2.2.2.2.2.2.2.2.2
  obtain ⟨c, M1, M2, T1, e, g, res⟩ := tg_pub (a0 := 0) iv (by decide) rp u8 (by decide) u9
  obtain ⟨⟨T2, iv2, rp2, tl2, d1, d2⟩, k1, g1, -⟩ := PK_SI iv tl c1 c2 g (by decide +kernel) (by decide +kernel) (by decide +kernel)
  rcases res with ⟨yp, -⟩ | ⟨-, ec, e2⟩
  · exact absurd yp.1 (Nat.lt_irrefl 0)
  have m2 : GK U M2 := by
    rw [e2]
    exact GK_tr g1 (GK_82 M1 1)
  obtain ⟨c', v', N1, N2, T3, e3, e4, g', an⟩ := tg_begin (a0 := 0) (a1 := 0) (a2 := 0) iv2 (by decide) rp2
  obtain ⟨si, k2, g2, -⟩ := PK_SI iv2 tl2 d1 d2 g' (by decide +kernel) (by decide +kernel) (by decide +kernel)
  have n1 : GK U N1 := GK_tr m2 g2
  have e5 : N2 = wI N1 57 82 2 := p_begin0 ((n1 57 9 (by omega) (by omega) (by omega)).trans u9) _ e4
  have ec' : c' = -1003 := ANc_k an (by decide) 1 rfl (by rw [e5]; exact ti_sI_eq _ _ _ _)
  have n2 : GK U N2 := by
    rw [e5]
    exact GK_tr n1 (GK_82 N1 2)
  have D : DI 2 2 0 U N2 := ⟨si, LK_tr k1 k2, fun k j a b c _ => (n2 k j a b (by omega)).trans (gu k j b), (n2 57 9 (by omega) (by omega) (by omega)).trans u9, (n2 66 8 (by omega) (by omega) (by omega)).trans u8, fun k hk => absurd hk (Nat.not_lt_zero _)⟩
  refine o_b2 e ?_
  rw [ec]
  refine r_ifT rfl (o_b2 e3 ?_)
  rw [ec']
  refine r_ifT rfl ?_
  unfold f_W_law_B337
  exact x_342 fl (fun S fu D => x_fin hL fl hU' fu D) 7 0 kr_FU N2 rfl (show 7 < 2000 by decide) D
theorem x_242 (hL : L ≤ 260) {v : Int32} (l : LF kr_Z S) (hU : ∀ k j, 127 ≤ k → k < 141 → k ≠ 128 → k ≠ 134 → sI S k j = sI A1 k j) {b1 b2 k3 a3 : Int32} (h0 : RW7 S 0 3 2 0 1 2) (h1 : RW7 S 1 0 2 b1 4 2) (h2 : RW7 S 2 0 0 b2 3 (-1)) (f1 : FK7 0 2 b1 4 2) (f2 : FK7 0 0 b2 3 (-1)) (f3 : FK7 k3 a3 0 5 4) : Ho (f_W_law_B242 X L S (some 4) (some 127) (some 128) (some 129) (some 130) (some 131) (some 132) (some 133) (some 134) (some 135) (some 136) (some 137) (some 138) (some 139) (some 140) v (some 128) (3 : Int32) k3 a3) (fun q => q.1 = 1 ∧ ∃ T', L54 170 2880 T' q.2) := by
  have lr : LR S := l.LR z_SI.lr
  unfold f_W_law_B242
  refine o_steps (k := 3) lr.2.1 (by decide) rfl (fun S1 l1 q1 w3 => o_some 5 rfl (by decide) (by decide) (fun w w5 => o_steps (k := 4) (l1.LR lr).2.1 (by decide) rfl (fun U l2 q2 w4 => ?_)))
  have lu : LF kr_Z U := LF_tr l (LF_tr l1 l2)
  have hU' : ∀ k j, 127 ≤ k → k < 141 → k ≠ 128 → k ≠ 134 → sI U k j = sI A1 k j := fun k j a b c d => (q2 k j (fun z => c z.1)).trans ((q1 k j (fun z => c z.1)).trans (hU k j a b c d))
  refine o_some 2 rfl (by decide) (by decide) (fun u _ => ?_)
  exact r_if (fun _ => x_291 hL (y0 := 0) (y1 := 0) (y2 := 0) (y3 := 0) (y4 := 0) (y5 := 0) (y6 := 0) lu hU' (RW7_fr (RW7_fr h0 (by decide) q1) (by decide) q2) (RW7_fr (RW7_fr h1 (by decide) q1) (by decide) q2) (RW7_fr (RW7_fr h2 (by decide) q1) (by decide) q2) (RW7_fr w3 (by decide) q2) w4 f1 f2 f3 (fk_4 w5) fk_5a) (fun _ => x_291 hL (y0 := 0) (y1 := 0) (y2 := 0) (y3 := 0) (y4 := 0) (y5 := 0) (y6 := 0) lu hU' (RW7_fr (RW7_fr h0 (by decide) q1) (by decide) q2) (RW7_fr (RW7_fr h1 (by decide) q1) (by decide) q2) (RW7_fr (RW7_fr h2 (by decide) q1) (by decide) q2) (RW7_fr w3 (by decide) q2) w4 f1 f2 f3 (fk_4 w5) fk_5b)
/-- the steps are drawn -/
theorem x_draw (hL : L ≤ 260) (fu : Nat) (l : LF kr_Z S) (hU : ∀ k j, 127 ≤ k → k < 141 → k ≠ 128 → k ≠ 134 → sI S k j = sI A1 k j) : Ho (f_W_law_L128 X L (fu + 1) S (some 4) (some 127) (some 128) (some 129) (some 130) (some 131) (some 132) (some 133) (some 134) (some 135) (some 136) (some 137) (some 138) (some 139) (some 140) (Int32.ofNat 45)) (fun q => q.1 = 1 ∧ ∃ T', L54 170 2880 T' q.2) := by
  have lr : LR S := l.LR z_SI.lr
  unfold f_W_law_L128 f_W_law_C128
  obtain ⟨v, ev⟩ := x_cell X L hL S (i := 0) (by decide)
  refine r_ifT (ofT (a := 45) (b := 45) (by omega) (by omega) (by omega)) (o_b2 (show f_W_cell X L S (0 : Int32) = some (v, S) from ev) ?_)
  refine o_steps (k := 0) lr.2.1 (by decide) rfl (fun S1 l1 q1 w0 => o_some 2 rfl (by decide) (by decide) (fun a a2 => o_steps (k := 1) (l1.LR lr).2.1 (by decide) rfl (fun S2 l2 q2 w1 => o_some 3 rfl (by decide) (by decide) (fun b b3 => o_steps (k := 2) (l2.LR (l1.LR lr)).2.1 (by decide) rfl (fun U l3 q3 w2 => ?_)))))
  have lu : LF kr_Z U := LF_tr l (LF_tr l1 (LF_tr l2 l3))
  have hU' : ∀ k j, 127 ≤ k → k < 141 → k ≠ 128 → k ≠ 134 → sI U k j = sI A1 k j := fun k j a b c d => (q3 k j (fun z => c z.1)).trans ((q2 k j (fun z => c z.1)).trans ((q1 k j (fun z => c z.1)).trans (hU k j a b c d)))
  have h0 := RW7_fr (RW7_fr w0 (by decide) q2) (by decide) q3
  have h1 := RW7_fr w1 (by decide) q3
  obtain ⟨w, w3, e⟩ := x_some U (v >>> ((5 : Int32) &&& 31)) (k := 3) (by decide) (by decide)
  have e : f_W_some U (v >>> ((5 : Int32) &&& 31)) (3 : Int32) = some (Int32.ofNat w, U) := e
  refine o_b2 e ?_
  by_cases c : Int32.ofNat w = 0
  · refine r_ifT c ?_
    unfold f_W_law_B218
    exact o_b2 e (r_ifT c (x_242 hL lu hU' h0 h1 w2 (fk_1 a2) (fk_2 b3) fk_3a))
  · refine r_ifF c ?_
    unfold f_W_law_B218
    exact o_b2 e (r_ifF c (o_some 6 rfl (by decide) (by decide) (fun d d6 => x_242 hL lu hU' h0 h1 w2 (fk_1 a2) (fk_2 b3) (fk_3b d6))))
theorem x_128 (hL : L ≤ 260) : ∀ (k i fu : Nat) (S : AS), i + k = 45 → k < fu → LF kr_Z S → (∀ q j, 127 ≤ q → q < 141 → q ≠ 128 → q ≠ 134 → sI S q j = sI A1 q j) → Ho (f_W_law_L128 X L fu S (some 4) (some 127) (some 128) (some 129) (some 130) (some 131) (some 132) (some 133) (some 134) (some 135) (some 136) (some 137) (some 138) (some 139) (some 140) (Int32.ofNat i)) (fun q => q.1 = 1 ∧ ∃ T', L54 170 2880 T' q.2)
  | _, _, 0, _, _, h, _, _ => absurd h (Nat.not_lt_zero _)
  | 0, i, fu + 1, S, hk, _, l, hU => by
    have e : i = 45 := by omega
    subst e
    exact x_draw hL fu l hU
  | k + 1, i, fu + 1, S, hk, hfu, l, hU => by
    have r134 := (l.LR z_SI.lr).2.2.2.2.2.2.2.1
    unfold f_W_law_L128 f_W_law_C128
    refine r_ifF (ofF (a := i) (b := 45) (by omega) (by omega) (by omega)) (o_bI r134 (n := i) rfl (by omega) (r_val ?_))
    rw [o1]
    exact x_128 hL k (i + 1) fu _ (by omega) (by omega) (LF_w l (by decide)) (fun q j a b c d => (ti_sI_ne (by omega)).trans (hU q j a b c d))
theorem x_103 (hL : L ≤ 260) : ∀ (k i fu : Nat) (S : AS), i + k = 4 → k < fu → LF kr_Z S → (∀ q j, 127 ≤ q → q < 141 → ¬ (q = 139 ∧ j % 4 = 1 ∧ j < 16) → sI S q j = sI A1 q j) → (∀ s, s < i → sI S 139 (4 * s + 1) = 1) → Ho (f_W_law_L103 X L fu S (some 4) (some 127) (some 128) (some 129) (some 130) (some 131) (some 132) (some 133) (some 134) (some 135) (some 136) (some 137) (some 138) (some 139) (some 140) (Int32.ofNat i)) (fun q => q.1 = 1 ∧ ∃ T', L54 170 2880 T' q.2)
  | _, _, 0, _, _, h, _, _, _ => absurd h (Nat.not_lt_zero _)
  | 0, i, fu + 1, S, hk, _, l, hU, h1 => by
    have e : i = 4 := by omega
    subst e
    unfold f_W_law_L103 f_W_law_C103
    refine r_ifT (ofT (a := 4) (b := 4) (by omega) (by omega) (by omega)) (x_128 hL 45 0 kr_FU S rfl (show 45 < 2000 by decide) l (fun q j a b c d => ?_))
    by_cases z : q = 139 ∧ j % 4 = 1 ∧ j < 16
    · obtain ⟨rfl, z1, z2⟩ := z
      have ej : j = 4 * (j / 4) + 1 := by omega
      rw [ej, h1 (j / 4) (by omega), (a139 (j / 4) (by omega)).2.1]
    · exact hU q j a b z
  | k + 1, i, fu + 1, S, hk, hfu, l, hU, h1 => by
    have r139 := (l.LR z_SI.lr).2.2.2.2.2.2.2.2.2.2.2.2.1
    unfold f_W_law_L103 f_W_law_C103
    refine r_ifF (ofF (a := i) (b := 4) (by omega) (by omega) (by omega)) (o_bI r139 (n := 4 * i + 1) (wix 4 i 1) (by omega) (r_val ?_))
    rw [o1]
    refine x_103 hL k (i + 1) fu _ (by omega) (by omega) (LF_w l (by decide)) (fun q j a b c => (ti_sI_ne (by omega)).trans (hU q j a b c)) (fun s hs => ?_)
    by_cases c : s = i
    · rw [c, ti_sI_eq]
    · rw [ti_sI_ne (by omega)]
      exact h1 s (by omega)
end
