/-! ===== attempts that begin ===== -/
/-- what the reference's relation with the class says of attempts that ask -/
theorem AST_of {T : Nat → Nat} {S : AS} {na : Nat} (rp : RPF T S) (h19 : sI S 57 19 = Int32.ofNat na) (n10 : na ≤ 10) : (∀ a, na ≤ a → a < 60 → sI S 82 a = 0) ∧ ∀ a, a < na → sI S 80 a = 0 → (0 ≤ (sI S 82 a).toInt ∧ (sI S 82 a).toInt ≤ 11) ∧ 0 ≤ (sI S 81 a).toInt ∧ (sI S 81 a).toInt < (sI S 69 (12 * nn (sI S 78 a) + nn (sI S 79 a))).toInt := by
  have e : uA S = na := by
    unfold uA nn
    rw [h19]
    exact oc (by omega)
  obtain ⟨h1, h2⟩ := rp.2.2.Ast
  rw [e] at h1 h2
  exact ⟨h1, fun a ha h => ((h2 a ha).2.2.2 h).2.2⟩
def BG (m M : AS) (i p d e : Nat) : Prop := (sR M = sR m ∧ sL M = sL m ∧ ∀ k j, ¬ (k = 57 ∧ (j = 19 ∨ j = 82)) → ¬ ((k = 75 ∨ k = 76 ∨ k = 77 ∨ k = 78 ∨ k = 80 ∨ k = 83) ∧ j = i) → ¬ (k = 84 ∧ 3 * i ≤ j ∧ j < 3 * i + 3) → sI M k j = sI m k j) ∧
  sI M 57 82 = 0 ∧ sI M 57 19 = Int32.ofNat (i + 1) ∧ sI M 75 i = Int32.ofNat p ∧ sI M 76 i = Int32.ofNat d ∧ sI M 77 i = Int32.ofNat e ∧ sI M 78 i = 0 ∧ sI M 80 i = 0 ∧ sI M 83 i = -1 ∧ ∀ f, f < 3 → sI M 84 (3 * i + f) = -1
theorem p_begL {mm : AS} {i : Nat} (hmf : MF mm) (hi : i < 60) (h19 : sI mm 57 19 = Int32.ofNat i) : ∀ (k f fu : Nat) (M : AS), f + k = 3 → sR M = sR mm → sL M = sL mm → (∀ q j, ¬ (q = 84 ∧ 3 * i ≤ j ∧ j < 3 * i + 3) → sI M q j = sI mm q j) → (∀ g, g < f → sI M 84 (3 * i + g) = -1) →
    Hp (f_M_begin_L136 fu M (some 57) (Int32.ofNat i) (Int32.ofNat f)) (fun q => ∃ M2, (sR M2 = sR mm ∧ sL M2 = sL mm ∧ ∀ a j, ¬ (a = 84 ∧ 3 * i ≤ j ∧ j < 3 * i + 3) → ¬ (a = 57 ∧ j = 19) → sI M2 a j = sI mm a j) ∧ sI M2 57 19 = Int32.ofNat (i + 1) ∧ (∀ g, g < 3 → sI M2 84 (3 * i + g) = -1) ∧ f_M_go M2 (some 57) (Int32.ofNat i) (0 : Int32) = some q.2 ∧ q.1 = Int32.ofNat i)
  | _, _, 0, _, _, _, _, _, _ => p_0
  | 0, f, fu + 1, M, hk, r, l, o, z => by
    have e : f = 3 := by omega
    subst e
    unfold f_M_begin_L136 f_M_begin_C136
    refine p_of (st_T (by decide)) (p_of (st_gIe ((o 57 19 (by omega)).trans h19)) (p_of st_pI (p_of st_rv (p_is (fun q h => ?_)))))
    rw [o1] at h
    obtain ⟨m', h1, h2⟩ := bd_inv h
    cases h2
    exact ⟨wI M 57 19 (Int32.ofNat (i + 1)), ⟨r, l, fun a j y1 y2 => (ti_sI_ne y2).trans (o a j y1)⟩, ti_sI_eq _ _ _ _, fun g hg => (ti_sI_ne (by omega)).trans (z g hg), h1, rfl⟩
  | k + 1, f, fu + 1, M, hk, r, l, o, z => by
    have hm := MF_e hmf r
    unfold f_M_begin_L136 f_M_begin_C136
    refine p_of (st_F (fun q => by have := (ole (a := 3) (b := f) (by decide) (by omega)).mp q; omega)) ?_
    refine p_of (st_gRe (hm 29 84 rfl)) (p_of (st_bIe (ix3 i hi f (by omega))) (p_of st_val ?_))
    rw [o1]
    refine p_begL hmf hi h19 k (f + 1) fu _ (by omega) r l (fun q j y => (ti_sI_ne (by omega)).trans (o q j y)) (fun g hg => ?_)
    by_cases c : g = f
    · rw [c, ti_sI_eq]
    · rw [ti_sI_ne (by omega)]
      exact z g (by omega)
theorem p_begin {m : AS} {i p d e : Nat} (hmf : MF m) (h19 : sI m 57 19 = Int32.ofNat i) (i10 : i ≤ 10) (h9 : sI m 57 9 = 1) (p3 : p < 3) (d3 : d < 3) (e3 : e < 3) (h64 : sI m 64 p = 0) : Hp (f_M_begin m (some 57) (Int32.ofNat p) (Int32.ofNat d) (Int32.ofNat e)) (fun q => ∃ M, BG m M i p d e ∧ f_M_go M (some 57) (Int32.ofNat i) (0 : Int32) = some q.2 ∧ q.1 = Int32.ofNat i) := by
  have ii : (Int32.ofNat i).toNatClampNeg = i := oc (by omega)
  unfold f_M_begin
  refine p_of (st_b2 (q_six m _)) ?_
  rw [if_pos (in5 p3)]
  refine p_of (st_F one0) (p_of (st_b2 (q_six m _)) ?_)
  rw [if_pos (in5 d3)]
  refine p_of (st_F one0) (p_of (st_b2 (q_six m _)) ?_)
  rw [if_pos (in5 e3)]
  refine p_of (st_F one0) ?_
  unfold f_M_begin_B26
  refine p_of (st_F one0) (p_of (st_gIe h9) (p_of (st_F (by decide)) (p_of (st_gRe (hmf 7 64 rfl)) (p_of (st_aIe (oc (by omega)) h64) (p_of (st_T rfl) (p_of (st_gIe h19) (p_of (st_F (fun q => by have := (oleq (a := 60) (b := i) (by omega) (by omega)).mp q; omega)) ?_)))))))
  unfold f_M_begin_B66
  refine p_of st_rv (p_b2 p_mayB (fun v m' q => ?_))
  rw [if_neg one0, if_neg one0] at q
  obtain ⟨q1, q2⟩ := Prod.mk.inj q
  rw [q1]
  obtain ⟨m1, e1⟩ : ∃ m1, m1 = wI m 57 82 0 := ⟨_, rfl⟩
  rw [q2, ← e1]
  have hm1 : MF m1 := by rw [e1]; exact MF_e hmf rfl
  have o : ∀ k j, ¬ (k = 57 ∧ j = 82) → sI m1 k j = sI m k j := fun k j z => by rw [e1, ti_sI_ne z]
  refine p_of (st_F one0) (p_of (st_gIe ((o 57 19 (by omega)).trans h19)) (p_of (st_gRe (hm1 20 75 rfl)) (p_of (st_bIe ii) ?_)))
  refine p_of (st_gRe (v := some 76) (hm1 21 76 rfl)) (p_of (st_bIe ii) (p_of (st_gRe (v := some 77) (hm1 22 77 rfl)) (p_of (st_bIe ii) ?_)))
  refine p_of (st_gRe (v := some 78) (hm1 23 78 rfl)) (p_of (st_gIe (v := (1 : Int32)) (by rw [ti_sI_ne (by omega), ti_sI_ne (by omega), ti_sI_ne (by omega)]; exact (o 57 9 (by omega)).trans h9)) (p_of (st_bIe ii) ?_))
  refine p_of (st_gRe (v := some 80) (hm1 25 80 rfl)) (p_of (st_bIe ii) (p_of (st_gRe (v := some 83) (hm1 28 83 rfl)) (p_of (st_bIe ii) ?_)))
  obtain ⟨m2, e2⟩ : ∃ m2, m2 = wI (wI (wI (wI (wI (wI m1 75 i (Int32.ofNat p)) 76 i (Int32.ofNat d)) 77 i (Int32.ofNat e)) 78 i ((1 : Int32) - 1)) 80 i 0) 83 i (-1) := ⟨_, rfl⟩
  rw [← e2]
  have hm2 : MF m2 := by rw [e2]; exact MF_e hm1 rfl
  have o2 : ∀ k j, ¬ (k = 57 ∧ j = 82) → ¬ ((k = 75 ∨ k = 76 ∨ k = 77 ∨ k = 78 ∨ k = 80 ∨ k = 83) ∧ j = i) → sI m2 k j = sI m k j := fun k j z1 z2 => by
    rw [e2, ti_sI_ne (by omega), ti_sI_ne (by omega), ti_sI_ne (by omega), ti_sI_ne (by omega), ti_sI_ne (by omega), ti_sI_ne (by omega)]
    exact o k j z1
  refine p_mono (p_begL (mm := m2) (i := i) hm2 (by omega) ((o2 57 19 (by omega) (by omega)).trans h19) 3 0 kr_FU m2 rfl rfl rfl (fun _ _ _ => rfl) (fun g hg => absurd hg (Nat.not_lt_zero _))) (fun q h => ?_)
  obtain ⟨M2, ⟨r1, l1, o3⟩, x19, x84, go, v1⟩ := h
  refine ⟨M2, ⟨⟨r1.trans (by rw [e2, e1]; rfl), l1.trans (by rw [e2, e1]; rfl), fun k j z1 z2 z3 => (o3 k j z3 (by omega)).trans (o2 k j (by omega) z2)⟩, ?_, x19, ?_, ?_, ?_, ?_, ?_, ?_, x84⟩, go, v1⟩
  · rw [o3 57 82 (by omega) (by omega), e2, ti_sI_ne (by omega), ti_sI_ne (by omega), ti_sI_ne (by omega), ti_sI_ne (by omega), ti_sI_ne (by omega), ti_sI_ne (by omega), e1, ti_sI_eq]
  · rw [o3 75 i (by omega) (by omega), e2, ti_sI_ne (by omega), ti_sI_ne (by omega), ti_sI_ne (by omega), ti_sI_ne (by omega), ti_sI_ne (by omega), ti_sI_eq]
  · rw [o3 76 i (by omega) (by omega), e2, ti_sI_ne (by omega), ti_sI_ne (by omega), ti_sI_ne (by omega), ti_sI_ne (by omega), ti_sI_eq]
  · rw [o3 77 i (by omega) (by omega), e2, ti_sI_ne (by omega), ti_sI_ne (by omega), ti_sI_ne (by omega), ti_sI_eq]
  · rw [o3 78 i (by omega) (by omega), e2, ti_sI_ne (by omega), ti_sI_ne (by omega), ti_sI_eq]
    rfl
  · rw [o3 80 i (by omega) (by omega), e2, ti_sI_ne (by omega), ti_sI_eq]
  · rw [o3 83 i (by omega) (by omega), e2, ti_sI_eq]
section
variable {S : AS} {i p : Nat}
theorem o_begL {Q : Int32 × AS → Prop} (lr : LR S) (hi : i < 10) (H : ∀ T, LF S T → (∀ q j, ¬ (q = 132 ∧ 3 * i ≤ j ∧ j < 3 * i + 3) → sI T q j = sI S q j) → (∀ g, g < 3 → sI T 132 (3 * i + g) = -1) → Ho ((aI T 40 (some 127) (11 : Int32)).bind fun v10 => (bI T (some 127) (11 : Int32) (v10 + (1 : Int32))).bind fun S11 => (f_W_goes S11 (some 127) (some 128) (some 129) (some 130) (some 131) (some 132) (some 133) (some 134) (Int32.ofNat i) (0 : Int32)).bind fun S12 => (aI S12 40 (some 130) (((6 : Int32) * Int32.ofNat i) + (1 : Int32))).bind fun v13 => (aI S12 40 (some 130) (((6 : Int32) * Int32.ofNat i) + (2 : Int32))).bind fun v14 => kr_b2 (f_W_threeg S12 (some 4) (0 : Int32) (Int32.ofNat p) v13 v14) fun v16 S15 => if v16 = Int32.ofNat i then some ((1 : Int32), S15) else some ((0 : Int32), S15)) Q) :
    ∀ (k f fu : Nat) (T : AS), f + k = 3 → k < fu → LF S T → (∀ q j, ¬ (q = 132 ∧ 3 * i ≤ j ∧ j < 3 * i + 3) → sI T q j = sI S q j) → (∀ g, g < f → sI T 132 (3 * i + g) = -1) → Ho (f_W_attempts_L238 fu T (some 4) (some 127) (some 128) (some 129) (some 130) (some 131) (some 132) (some 133) (some 134) (Int32.ofNat p) (Int32.ofNat i) (Int32.ofNat f)) Q
  | _, _, 0, _, _, h, _, _, _ => absurd h (Nat.not_lt_zero _)
  | 0, f, fu + 1, T, hk, _, l, o, z => by
    have e : f = 3 := by omega
    subst e
    unfold f_W_attempts_L238 f_W_attempts_C238
    exact r_ifT (by decide) (H T l o z)
  | k + 1, f, fu + 1, T, hk, hfu, l, o, z => by
    obtain ⟨-, -, -, -, -, r132, -⟩ := l.LR lr
    unfold f_W_attempts_L238 f_W_attempts_C238
    refine r_ifF (fun q => by have := (oleq (a := 3) (b := f) (by omega) (by omega)).mp q; omega) (o_bI r132 (n := 3 * i + f) (wix 3 i f) (by omega) (r_val ?_))
    rw [o1]
    refine o_begL lr hi H k (f + 1) fu _ (by omega) (by omega) (LF_w l (by decide)) (fun q j y => (ti_sI_ne (by omega)).trans (o q j y)) (fun g hg => ?_)
    by_cases c : g = f
    · rw [c, ti_sI_eq]
    · rw [ti_sI_ne (by omega)]
      exact z g (by omega)
end
section
variable {n r : Nat} {T : Nat → Nat} {S : AS}
theorem l_begin (L : L54 n r T S) (hn : n ≤ 500) {y : Int32} : Ho (f_W_attempts S (some 4) (1 : Int32) y (some 127) (some 128) (some 129) (some 130) (some 131) (some 132) (some 133) (some 134)) (G54 n r) := by
  obtain ⟨iv, rp, tl, pts, -, ns, nc, nf, nt, nk, na, lw⟩ := id L
  have lr := TL_LR iv.1 tl
  obtain ⟨⟨z1, z2, z3, z4, z5, z6⟩, ⟨now, aud, key, hlp⟩, flo, ⟨fac, wrg, kn⟩, ⟨att, ast, ash⟩, ⟨sp, usd, lv, ssh⟩, -⟩ := id lw
  have n14 := z1.2.2
  have na10 := z6.2.2
  obtain ⟨r127, -, -, r130, r131, r132, -⟩ := id lr
  unfold f_W_attempts
  refine o_some 3 rfl (by decide) (by decide) (fun p p3 => r_ifF (by decide) (r_ifT rfl (o_aIe r127 (n := 11) rfl (by decide) z6.1 ?_)))
  by_cases a10 : na = 10
  · exact r_ifT (by rw [a10]; rfl) (G54_no L)
  refine r_ifF (fun q => a10 (oinjq (a := na) (b := 10) (by omega) (by omega) q)) (o_aIe r127 (n := 1) rfl (by decide) z1.1 ?_)
  by_cases n12 : ns ≤ 12
  case neg => exact r_ifF (fun q => n12 ((oleq (b := 12) (by omega) (by omega)).mp q)) (G54_no L)
  refine r_ifT ((oleq (b := 12) (by omega) (by omega)).mpr n12) (o_aIe r127 (n := 11) rfl (by decide) z6.1 (o_bI r130 (n := 6 * na) (wmul 6 na) (by omega) ?_))
  refine o_some 3 rfl (by decide) (by decide) (fun d d3 => o_bI r130.w (n := 6 * na + 1) (wix 6 na 1) (by omega) (o_some 3 rfl (by decide) (by decide) (fun e e3 => o_bI r130.w.w (n := 6 * na + 2) (wix 6 na 2) (by omega) (o_bI r131.w.w.w (n := 2 * na) (wmul 2 na) (by omega) ?_))))
  obtain ⟨Sb, eb⟩ : ∃ Sb, Sb = wI (wI (wI (wI S 130 (6 * na) (Int32.ofNat p)) 130 (6 * na + 1) (Int32.ofNat d)) 130 (6 * na + 2) (Int32.ofNat e)) 131 (2 * na) 0 := ⟨_, rfl⟩
  rw [← eb]
  have lb : LF S Sb := by rw [eb]; exact LF_w (LF_w (LF_w (LF_w (LF_rf S) (by decide)) (by decide)) (by decide)) (by decide)
  have ob : ∀ k j, ¬ (k = 130 ∧ 6 * na ≤ j ∧ j < 6 * na + 3) → ¬ (k = 131 ∧ j = 2 * na) → sI Sb k j = sI S k j := fun k j q1 q2 => by
    rw [eb, ti_sI_ne (by omega), ti_sI_ne (by omega), ti_sI_ne (by omega), ti_sI_ne (by omega)]
  have b0 : sI Sb 130 (6 * na) = Int32.ofNat p := by rw [eb, ti_sI_ne (by omega), ti_sI_ne (by omega), ti_sI_ne (by omega), ti_sI_eq]
  have b1 : sI Sb 130 (6 * na + 1) = Int32.ofNat d := by rw [eb, ti_sI_ne (by omega), ti_sI_ne (by omega), ti_sI_eq]
  have b2 : sI Sb 130 (6 * na + 2) = Int32.ofNat e := by rw [eb, ti_sI_ne (by omega), ti_sI_eq]
  have b3 : sI Sb 131 (2 * na) = 0 := by rw [eb, ti_sI_eq]
  refine o_begL (lb.LR lr) (by omega) (fun U lu ou zu => ?_) 3 0 kr_FU Sb rfl (by decide) (LF_rf Sb) (fun _ _ _ => rfl) (fun g hg => absurd hg (Nat.not_lt_zero _))
  have ru : Rw U 127 14 := lu.Rw (lb.Rw r127)
  refine o_aIe ru (n := 11) rfl (by decide) ((ou 127 11 (by omega)).trans ((ob 127 11 (by omega) (by omega)).trans z6.1)) (o_bI ru (n := 11) rfl (by decide) ?_)
  rw [o1]
  obtain ⟨Sc, ec⟩ : ∃ Sc, Sc = wI U 127 11 (Int32.ofNat (na + 1)) := ⟨_, rfl⟩
  rw [← ec]
  have lc : LF S Sc := by rw [ec]; exact LF_w (LF_tr lb lu) (by decide)
  have oc' : ∀ k j, ¬ (k = 127 ∧ j = 11) → ¬ (k = 130 ∧ 6 * na ≤ j ∧ j < 6 * na + 3) → ¬ (k = 131 ∧ j = 2 * na) → ¬ (k = 132 ∧ 3 * na ≤ j ∧ j < 3 * na + 3) → sI Sc k j = sI S k j := fun k j q1 q2 q3 q4 => by
    rw [ec, ti_sI_ne q1, ou k j q4]
    exact ob k j q2 q3
  have c0 : sI Sc 130 (6 * na) = Int32.ofNat p := by rw [ec, ti_sI_ne (by omega), ou _ _ (by omega), b0]
  have c1 : sI Sc 130 (6 * na + 1) = Int32.ofNat d := by rw [ec, ti_sI_ne (by omega), ou _ _ (by omega), b1]
  have c2 : sI Sc 130 (6 * na + 2) = Int32.ofNat e := by rw [ec, ti_sI_ne (by omega), ou _ _ (by omega), b2]
  have c3 : sI Sc 131 (2 * na) = 0 := by rw [ec, ti_sI_ne (by omega), ou _ _ (by omega), b3]
  have c11 : sI Sc 127 11 = Int32.ofNat (na + 1) := by rw [ec, ti_sI_eq]
  have c132 : ∀ g, g < 3 → sI Sc 132 (3 * na + g) = -1 := fun g hg => by rw [ec, ti_sI_ne (by omega), zu g hg]
  -- the law's going on beside the reference's, from any state that agrees
  have run : ∀ M q, MF M → GK S M → f_M_begin M (some 57) (Int32.ofNat p) (Int32.ofNat d) (Int32.ofNat e) = some q → ∃ Sg M2, f_W_goes Sc (some 127) (some 128) (some 129) (some 130) (some 131) (some 132) (some 133) (some 134) (Int32.ofNat na) (0 : Int32) = some Sg ∧ GOQ na ns Sc M2 Sg q.2 ∧ q.1 = Int32.ofNat na ∧ BG M M2 na p d e ∧ lAtt (na + 1) Sc M2 ∧ lAsh (na + 1) Sc M2 := fun M q mf gk h => by
    have g57 : ∀ j, j < 100 → j ≠ 82 → sI M 57 j = sI S 57 j := fun j h1 h2 => gk 57 j (by omega) (by omega) (by omega)
    have gE : ∀ k, 58 ≤ k → k < 126 → ∀ j, sI M k j = sI S k j := fun k h1 h2 j => gk k j (by omega) (by omega) (by omega)
    obtain ⟨M2, bg, go, v1⟩ := p_begin mf ((g57 19 (by omega) (by omega)).trans z6.2.1) na10 ((g57 9 (by omega) (by omega)).trans flo.1) p3 d3 e3 ((gE 64 (by omega) (by omega) p).trans (hlp p p3).2.2) _ h
    obtain ⟨⟨r1, l1, o2⟩, x82, x19, x75, x76, x77, x78, x80, x83, x84⟩ := id bg
    have oM : ∀ k j, 57 ≤ k → k < 126 → ¬ (k = 57 ∧ (100 ≤ j ∨ j = 82)) → ¬ (k = 57 ∧ j = 19) → ¬ ((k = 75 ∨ k = 76 ∨ k = 77 ∨ k = 78 ∨ k = 80 ∨ k = 83) ∧ j = na) → ¬ (k = 84 ∧ 3 * na ≤ j ∧ j < 3 * na + 3) → sI M2 k j = sI S k j := fun k j h1 h2 h3 h4 h5 h6 => (o2 k j (by omega) h5 h6).trans (gk k j h1 h2 h3)
    have oE : ∀ k, 58 ≤ k → k < 126 → ¬ (75 ≤ k ∧ k ≤ 84) → sI M2 k = sI S k := fun k h1 h2 h3 => funext fun j => oM k j (by omega) (by omega) (by omega) (by omega) (by omega) (by omega)
    have o57 : ∀ j, j < 100 → j ≠ 82 → j ≠ 19 → sI M2 57 j = sI S 57 j := fun j h1 h2 h3 => oM 57 j (by omega) (by omega) (by omega) (by omega) (by omega) (by omega)
    have att2 : lAtt (na + 1) Sc M2 := fun i hi => by
      by_cases c : i = na
      · rw [c, c0, c1, c2, x75, x76, x77]
        exact ⟨⟨p, p3, rfl, rfl⟩, ⟨d, d3, rfl, rfl⟩, ⟨e, e3, rfl, rfl⟩, x78⟩
      · rw [oc' 130 _ (by omega) (by omega) (by omega) (by omega), oc' 130 _ (by omega) (by omega) (by omega) (by omega), oc' 130 _ (by omega) (by omega) (by omega) (by omega), oM 75 i (by omega) (by omega) (by omega) (by omega) (by omega) (by omega), oM 76 i (by omega) (by omega) (by omega) (by omega) (by omega) (by omega), oM 77 i (by omega) (by omega) (by omega) (by omega) (by omega) (by omega), oM 78 i (by omega) (by omega) (by omega) (by omega) (by omega) (by omega)]
        exact att i (by omega)
    have ash2 : lAsh (na + 1) Sc M2 := fun i hi f f3 => by
      by_cases c : i = na
      · rw [c, c132 f f3, x84 f f3]
        exact ⟨rfl, Or.inl rfl⟩
      · rw [oc' 132 _ (by omega) (by omega) (by omega) (by omega), oM 84 _ (by omega) (by omega) (by omega) (by omega) (by omega) (by omega)]
        exact ash i (by omega) f f3
    have gh : GH (na + 1) Sc M2 := ⟨lc.LR lr, MF_e mf r1, ⟨lNow_fr now (oc' 127 0 (by omega) (by omega) (by omega) (by omega)) (o57 0 (by omega) (by omega) (by omega)), lFlo_fr flo (funext fun j => oc' 128 j (by omega) (by omega) (by omega) (by omega)) (o57 9 (by omega) (by omega) (by omega)) (fun k h1 h2 => oE k (by omega) (by omega) (by omega))⟩, ⟨lFac_fr fac (fun j _ => oc' 129 j (by omega) (by omega) (by omega) (by omega)) (oE 58 (by omega) (by omega) (by omega)) (oE 59 (by omega) (by omega) (by omega)) (oE 60 (by omega) (by omega) (by omega)), lWrg_fr wrg (fun j _ _ => oc' 129 j (by omega) (by omega) (by omega) (by omega)) (oE 61 (by omega) (by omega) (by omega)), lKn_fr kn (fun j _ => oc' 129 j (by omega) (by omega) (by omega) (by omega)) (oE 62 (by omega) (by omega) (by omega)) (oE 63 (by omega) (by omega) (by omega))⟩, ⟨att2, ash2, by omega⟩, lPts_e pts.1 (fun j => by rw [oE 73 (by omega) (by omega) (by omega)])⟩
    have gp : GP ns Sc M2 na := ⟨⟨lSz_fr z1 (oc' 127 1 (by omega) (by omega) (by omega) (by omega)) (o57 30 (by omega) (by omega) (by omega)), by omega⟩, lAud_fr aud (oc' 127 9 (by omega) (by omega) (by omega) (by omega)) (oc' 127 10 (by omega) (by omega) (by omega) (by omega)) (o57 77 (by omega) (by omega) (by omega)) (o57 81 (by omega) (by omega) (by omega)), ⟨lSp_fr sp (fun j _ => oc' 133 j (by omega) (by omega) (by omega) (by omega)) (oE 85 (by omega) (by omega) (by omega)) (oE 86 (by omega) (by omega) (by omega)) (oE 88 (by omega) (by omega) (by omega)), lUsd_fr usd (fun j _ => oc' 133 j (by omega) (by omega) (by omega) (by omega)) (oE 87 (by omega) (by omega) (by omega)), lLiv_fr lv (fun j _ => oc' 133 j (by omega) (by omega) (by omega) (by omega)) (oE 88 (by omega) (by omega) (by omega)) (oE 89 (by omega) (by omega) (by omega)), lSsh_fr ssh (funext fun j => oc' 134 j (by omega) (by omega) (by omega) (by omega)) (oE 90 (by omega) (by omega) (by omega))⟩, x80, x83⟩
    obtain ⟨Sg, eg, gq⟩ := g_goes gh gp (Nat.lt_succ_self na) (x := (0 : Int32)) (Or.inr ⟨0, by decide, rfl⟩) _ go
    exact ⟨Sg, M2, eg, gq, v1, bg, att2, ash2⟩
  obtain ⟨q0, e0, -⟩ := mm_begin (a1 := Int32.ofNat p) (a2 := Int32.ofNat d) (a3 := Int32.ofNat e) iv.1 (x57 iv) iv.2.1 (by have := iv.2.2.1; omega)
  obtain ⟨Sg, M0, eg, gq0, -⟩ := run S q0 (MF_of iv.1) (GK_rf S) e0
  have lg : LF Sc Sg := gq0.1.1
  have la : LF S Sg := LF_tr lc lg
  have og := gq0.1.2.1
  refine o_bd eg (o_aIe (la.Rw r130) (n := 6 * na + 1) (wix 6 na 1) (by omega) ((og 130 _ (by omega) (by omega) (by omega) (by omega) (by omega) (by omega)).trans c1) (o_aIe (la.Rw r130) (n := 6 * na + 2) (wix 6 na 2) (by omega) ((og 130 _ (by omega) (by omega) (by omega) (by omega) (by omega) (by omega)).trans c2) ?_))
  obtain ⟨c', v, S1, S2, T1, e1, e2, g, an⟩ := tg_begin (a0 := Int32.ofNat p) (a1 := Int32.ofNat d) (a2 := Int32.ofNat e) (LF_IV iv tl la) (by omega) (LF_RPF iv.1 tl rp la)
  have bh := PK_BH L la g (by decide +kernel) (by decide +kernel) (by decide +kernel)
  obtain ⟨-, -, -, -, kS, kS1, kG, mf⟩ := id bh
  have gk0 : GK S S1 := GK_tr (LF_GK la) kG
  obtain ⟨Sg', M2, eg', gq, v1, bg, att2, ash2⟩ := run S1 _ mf gk0 e2
  rw [eg] at eg'
  cases eg'
  have v1 : v = Int32.ofNat na := v1
  obtain ⟨⟨-, ogl, -, -, ogm⟩, n', hn', y1, yaud, ykn, ysp, yusd, yliv, yssh, yas⟩ := gq
  have ogm : ∀ q j, ¬ (q = 57 ∧ (j = 30 ∨ j = 77 ∨ j = 81)) → q ≠ 62 → q ≠ 63 → ¬ ((q = 79 ∨ q = 80 ∨ q = 81 ∨ q = 83) ∧ j = na) → ¬ ((q = 85 ∨ q = 86 ∨ q = 87 ∨ q = 88 ∨ q = 89) ∧ j = ns) → ¬ (q = 90 ∧ 3 * ns ≤ j ∧ j < 3 * ns + 3) → q ≠ 123 → q ≠ 124 → q ≠ 125 → sI S2 q j = sI M2 q j := ogm
  obtain ⟨⟨-, -, o2⟩, x82, x19, x75, x76, x77, x78, x80, x83, x84⟩ := bg
  have oM : ∀ k j, 57 ≤ k → k < 126 → ¬ (k = 57 ∧ (100 ≤ j ∨ j = 82)) → ¬ ((k = 57 ∧ (j = 19 ∨ j = 30 ∨ j = 77 ∨ j = 81)) ∨ k = 62 ∨ k = 63 ∨ ((75 ≤ k ∧ k ≤ 83) ∧ k ≠ 82 ∧ j = na) ∨ (k = 84 ∧ 3 * na ≤ j ∧ j < 3 * na + 3) ∨ (85 ≤ k ∧ k ≤ 90) ∨ (123 ≤ k ∧ k ≤ 126)) → sI S2 k j = sI S k j := fun k j h1 h2 h3 h4 => by
    rw [ogm k j (by omega) (by omega) (by omega) (by omega) (by omega) (by omega) (by omega) (by omega) (by omega), o2 k j (by omega) (by omega) (by omega)]
    exact gk0 k j h1 h2 h3
  have oW : ∀ k j, ¬ ((k = 127 ∧ (j = 1 ∨ j = 9 ∨ j = 10 ∨ j = 11)) ∨ (k = 129 ∧ 10 ≤ j % 12) ∨ (k = 130 ∧ 6 * na ≤ j ∧ j < 6 * na + 6) ∨ (k = 131 ∧ 2 * na ≤ j ∧ j < 2 * na + 2) ∨ (k = 132 ∧ 3 * na ≤ j ∧ j < 3 * na + 3) ∨ k = 133 ∨ k = 134) → sI Sg k j = sI S k j := fun k j h => by
    rw [ogl k j (by omega) (by omega) (by omega) (by omega) (by omega) (by omega)]
    exact oc' k j (by omega) (by omega) (by omega) (by omega)
  have v82 : sI S2 57 82 = 0 := by rw [ogm 57 82 (by omega) (by omega) (by omega) (by omega) (by omega) (by omega) (by omega) (by omega) (by omega), x82]
  obtain ⟨as1, -⟩ := AST_of rp z6.2.1 na10
  have lw2 : LW n' nc nf nt nk (na + 1) Sg S2 := LWa_begin lw (fun k j h1 h2 h3 => oW k j (by omega)) (fun k j h1 h2 h3 h4 => oM k j h1 h2 h3 (by omega)) (by omega) (by omega) y1
    ⟨(ogl 127 11 (by omega) (by omega) (by omega) (by omega) (by omega) (by omega)).trans c11, (ogm 57 19 (by omega) (by omega) (by omega) (by omega) (by omega) (by omega) (by omega) (by omega) (by omega)).trans x19, by omega⟩ yaud ykn
    (lAtt_fr att2 (fun j _ => ogl 130 j (by omega) (by omega) (by omega) (by omega) (by omega) (by omega)) (funext fun j => ogm 75 j (by omega) (by omega) (by omega) (by omega) (by omega) (by omega) (by omega) (by omega) (by omega)) (funext fun j => ogm 76 j (by omega) (by omega) (by omega) (by omega) (by omega) (by omega) (by omega) (by omega) (by omega)) (funext fun j => ogm 77 j (by omega) (by omega) (by omega) (by omega) (by omega) (by omega) (by omega) (by omega) (by omega)) (funext fun j => ogm 78 j (by omega) (by omega) (by omega) (by omega) (by omega) (by omega) (by omega) (by omega) (by omega)))
    (fun i hi => by
      by_cases c : i = na
      · rw [c]
        obtain ⟨w1, w2⟩ := yas
        refine ⟨w1, ⟨0, by decide, ?_, ?_⟩, w2⟩
        · rw [ogl 131 _ (by omega) (by omega) (by omega) (by omega) (by omega) (by omega), c3]
          rfl
        · rw [oM 82 na (by omega) (by omega) (by omega) (by omega), as1 na (Nat.le_refl _) (by omega)]
          rfl
      · exact lAs1_fr (lAs1_mono (ast i (by omega)) (show ns ≤ n' by omega)) (fun j h1 h2 => oW 130 _ (by omega)) (fun j h1 => oW 131 _ (by omega)) (funext fun j => oM 67 j (by omega) (by omega) (by omega) (by omega)) (oM 79 i (by omega) (by omega) (by omega) (by omega)) (oM 80 i (by omega) (by omega) (by omega) (by omega)) (oM 81 i (by omega) (by omega) (by omega) (by omega)) (oM 82 i (by omega) (by omega) (by omega) (by omega)) (oM 83 i (by omega) (by omega) (by omega) (by omega)))
    (lAsh_fr ash2 (funext fun j => ogl 132 j (by omega) (by omega) (by omega) (by omega) (by omega) (by omega)) (funext fun j => ogm 84 j (by omega) (by omega) (by omega) (by omega) (by omega) (by omega) (by omega) (by omega) (by omega)))
    ysp yusd yliv yssh
  exact o_b2 e1 (o_fin (by rw [ANc_0 an (by decide) v82, v1]) (BH_L bh (lPN_e pts (fun j => oM 73 j (by omega) (by omega) (by omega) (by omega)) (oM 57 0 (by omega) (by omega) (by omega) (by omega))) ⟨n', nc, nf, nt, nk, na + 1, LW_cong2 lw2 kS (GK_rf _)⟩))
end
