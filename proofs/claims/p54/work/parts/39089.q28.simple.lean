/-! ===== enrolling, helping, needing, consenting ===== -/
theorem o_b2 {α β : Type} {x : Option (α × AS)} {v : α} {S' : AS} {F : α → AS → Option β} {Q : β → Prop} (e : x = some (v, S')) (g : Ho (F v S') Q) : Ho (kr_b2 x F) Q := by rw [e]; exact g
theorem L54_up {n r : Nat} {T : Nat → Nat} {S : AS} (L : L54 n r T S) : L54 (n + 1) (r + 1) T S := by
  obtain ⟨⟨h1, h2, h3, h4⟩, rp, tl, pts, ⟨c1, c2⟩, lw⟩ := L
  exact ⟨⟨h1, h2, by omega, h4⟩, rp, tl, ⟨pts.1, by have := pts.2; omega⟩, ⟨by omega, by omega⟩, lw⟩
theorem G54_no {n r : Nat} {T : Nat → Nat} {S : AS} (L : L54 n r T S) : Ho (some ((1 : Int32), S)) (G54 n r) := r_some ⟨rfl, T, L54_up L⟩
theorem GK_82 (m : AS) (v : Int32) : GK m (wI m 57 82 v) := fun k j _ _ c => ti_sI_ne (by omega)
/-- the answer of a wrapped call is the one that the law looks for -/
theorem o_fin {n r : Nat} {T1 : Nat → Nat} {S2 : AS} {c p : Int32} (e : c = p) (L : L54 (n + 1) (r + 1) T1 S2) : Ho (if c = p then some ((1 : Int32), S2) else some ((0 : Int32), S2)) (G54 n r) := r_ifT e (r_some ⟨rfl, T1, L⟩)
theorem in5 {p : Nat} (h : p < 3) : (0 : Int32) ≤ Int32.ofNat p ∧ Int32.ofNat p ≤ (5 : Int32) := ⟨(oleq (a := 0) (by omega) (by omega)).mpr (Nat.zero_le _), (oleq (b := 5) (by omega) (by omega)).mpr (by omega)⟩
theorem in2 {p : Nat} (h : p < 3) : (0 : Int32) ≤ Int32.ofNat p ∧ Int32.ofNat p ≤ (2 : Int32) := ⟨(oleq (a := 0) (by omega) (by omega)).mpr (Nat.zero_le _), (oleq (b := 2) (by omega) (by omega)).mpr (by omega)⟩
theorem in3 {p : Nat} (h : p < 4) : (0 : Int32) ≤ Int32.ofNat p ∧ Int32.ofNat p ≤ (3 : Int32) := ⟨(oleq (a := 0) (by omega) (by omega)).mpr (Nat.zero_le _), (oleq (b := 3) (by omega) (by omega)).mpr (by omega)⟩
theorem in15 {p : Nat} (h : p < 16) : (0 : Int32) ≤ Int32.ofNat p ∧ Int32.ofNat p ≤ (15 : Int32) := ⟨(oleq (a := 0) (by omega) (by omega)).mpr (Nat.zero_le _), (oleq (b := 15) (by omega) (by omega)).mpr (by omega)⟩
theorem p_enroll_bad {m : AS} {p : Nat} (p3 : p < 3) : Hp (f_M_enroll m (some 57) (Int32.ofNat p) (3 : Int32)) (fun q => sI q.2 57 82 = Int32.ofNat 2 ∧ GK m q.2) := by
  unfold f_M_enroll
  refine p_of (st_b2 (q_six m _)) (p_of (st_b2 (q_fac m _)) (p_of st_rv ?_))
  rw [if_pos (in5 p3), if_neg (by decide)]
  refine p_b2 p_mayB (fun v m' q => ?_)
  rw [if_neg one0, if_pos rfl] at q
  obtain ⟨q1, q2⟩ := Prod.mk.inj q
  rw [q1, q2]
  exact p_of (st_T rfl) (p_ret ⟨ti_sI_eq _ _ _ _, GK_82 _ _⟩)
section
variable {n r : Nat} {T : Nat → Nat} {S : AS}
theorem l_enroll (L : L54 n r T S) (hn : n ≤ 500) {y : Int32} : Ho (f_W_attempts S (some 4) (0 : Int32) y (some 127) (some 128) (some 129) (some 130) (some 131) (some 132) (some 133) (some 134)) (G54 n r) := by
  obtain ⟨iv, rp, tl, pts, -, ns, nc, nf, nt, nk, na, lw⟩ := id L
  obtain ⟨r127, r128, r129, -⟩ := TL_LR iv.1 tl
  have fac : lFac S S := lw.2.2.2.1.1
  unfold f_W_attempts
  refine o_some 3 rfl (by decide) (by decide) (fun p p3 => r_ifT rfl (o_some 25 rfl (by decide) (by decide) (fun v _ => ?_)))
  have bad : Ho (f_W_attempts_B33 S (some 4) (some 129) (Int32.ofNat p) (3 : Int32)) (G54 n r) := by
    unfold f_W_attempts_B33
    obtain ⟨c, v, S1, S2, T1, e1, e2, g, an⟩ := tg_enroll (a0 := Int32.ofNat p) (a1 := (3 : Int32)) iv (by omega) rp
    have bh := PK_BH L (LF_rf S) g (by decide +kernel) (by decide +kernel) (by decide +kernel)
    obtain ⟨t, o⟩ := p_enroll_bad p3 _ e2
    have gk := GK_tr bh.2.2.2.2.2.2.1 o
    refine r_ifT rfl (o_b2 e1 (o_fin (ANc_k an (by decide) 1 rfl t) (BH_L bh (lPN_e pts (fun j => gk 73 j (by omega) (by omega) (by omega)) (gk 57 0 (by omega) (by omega) (by omega))) ⟨_, _, _, _, _, _, LW_cong2 lw bh.2.2.2.2.1 gk⟩)))
  have good : ∀ f, f < 3 → Ho (f_W_attempts_B33 S (some 4) (some 129) (Int32.ofNat p) (Int32.ofNat f)) (G54 n r) := fun f f3 => by
    have i0 : (12 : Int32) * Int32.ofNat p + Int32.ofNat f = Int32.ofNat (12 * p + f) := wix 12 p f
    have fin : ∀ S8 : AS, S8 = wI (wI S 129 (12 * p + f) 1) 129 (12 * p + f + 3) 0 → ∀ y2 : Int32, y2 = (if f = 2 then 0 else sI S 129 (12 * p + 6)) → Ho (f_W_attempts_B132 S8 (some 4) (Int32.ofNat p) (Int32.ofNat f) (sI S 129 (12 * p + f)) (some 129) ((12 : Int32) * Int32.ofNat p + (6 : Int32)) y2) (G54 n r) := fun S8 e8 y2 ey => by
      unfold f_W_attempts_B132
      have l8 : LF S S8 := by rw [e8]; exact LF_w (LF_w (LF_rf S) (by decide)) (by decide)
      refine o_bI (l8.Rw r129) (n := 12 * p + 6) (wix 12 p 6) (by omega) ?_
      obtain ⟨Sa, ea⟩ : ∃ Sa, Sa = wI S8 129 (12 * p + 6) y2 := ⟨_, rfl⟩
      rw [← ea]
      have la : LF S Sa := by rw [ea]; exact LF_w l8 (by decide)
      have oa : ∀ k j, ¬ (k = 129 ∧ (j = 12 * p + f ∨ j = 12 * p + f + 3 ∨ j = 12 * p + 6)) → sI Sa k j = sI S k j := fun k j q => by
        rw [ea, ti_sI_ne (by omega), e8, ti_sI_ne (by omega), ti_sI_ne (by omega)]
      have a1 : sI Sa 129 (12 * p + f) = 1 := by rw [ea, ti_sI_ne (by omega), e8, ti_sI_ne (by omega), ti_sI_eq]
      have a2 : sI Sa 129 (12 * p + f + 3) = 0 := by rw [ea, ti_sI_ne (by omega), e8, ti_sI_eq]
      have a3 : sI Sa 129 (12 * p + 6) = if f = 2 then 0 else sI S 129 (12 * p + 6) := by rw [ea, ti_sI_eq, ey]
      obtain ⟨c, v, S1, S2, T1, e1, e2, g, an⟩ := tg_enroll (a0 := Int32.ofNat p) (a1 := Int32.ofNat f) (LF_IV iv tl la) (by omega) (LF_RPF iv.1 tl rp la)
      have bh := PK_BH L la g (by decide +kernel) (by decide +kernel) (by decide +kernel)
      obtain ⟨-, -, -, -, kS, kS1, kG, mf⟩ := id bh
      obtain ⟨v1, ⟨-, -, o⟩, v82, v58, v59, v60⟩ := p_enroll mf p3 f3 _ e2
      have v1 : v = sI S1 58 (3 * p + f) := v1
      have o : ∀ k j, ¬ (k = 57 ∧ j = 82) → ¬ ((k = 58 ∨ k = 59) ∧ j = 3 * p + f) → ¬ (k = 60 ∧ j = p) → sI S2 k j = sI S1 k j := o
      have m1 : ∀ k j, 57 ≤ k → k < 126 → ¬ (k = 57 ∧ (100 ≤ j ∨ j = 82)) → sI S1 k j = sI S k j := fun k j h1 h2 h3 => (kG k j h1 h2 h3).trans (oa k j (by omega))
      have s2 : ∀ k j, 127 ≤ k → k < 141 → sI S2 k j = sI Sa k j := fun k j h1 h2 => by rw [kS k h1 h2]
      have m2 : ∀ k j, 57 ≤ k → k < 126 → ¬ (k = 57 ∧ (100 ≤ j ∨ j = 82)) → ¬ ((k = 58 ∨ k = 59) ∧ j = 3 * p + f) → ¬ (k = 60 ∧ j = p) → sI S2 k j = sI S k j := fun k j h1 h2 h3 h4 h5 => (o k j (by omega) h4 h5).trans (m1 k j h1 h2 h3)
      obtain ⟨⟨w, w3, x1, x2⟩, x3⟩ := (fac p p3).1 f f3
      refine o_b2 e1 (o_fin ?_ (BH_L bh (lPN_e pts (fun j => m2 73 j (by omega) (by omega) (by omega) (by omega) (by omega)) (m2 57 0 (by omega) (by omega) (by omega) (by omega) (by omega))) ⟨ns, nc, nf, nt, nk, na, LWa_enroll lw (fun k j h1 h2 h3 => (s2 k j h1 h2).trans (oa k j (by omega))) (fun k j h1 h2 h3 h4 => m2 k j h1 h2 h3 (by omega) (by omega)) ?_⟩))
      · rw [ANc_0 an (by decide) v82, v1, m1 58 _ (by omega) (by omega) (by omega), x1, x2]
      · refine lFac_set fac p3 f3 ⟨1, by decide, ?_, v58⟩ ?_ ?_ (fun j h1 h2 => (s2 129 j (by omega) (by omega)).trans (oa 129 j (by omega))) (fun j h => ⟨m2 58 j (by omega) (by omega) (by omega) (by omega) (by omega), m2 59 j (by omega) (by omega) (by omega) (by omega) (by omega)⟩) (fun j h => m2 60 j (by omega) (by omega) (by omega) (by omega) (by omega))
        · rw [s2 _ _ (by omega) (by omega), a1]
          rfl
        · rw [s2 _ _ (by omega) (by omega), a2]
          exact v59.symm
        · rw [s2 _ _ (by omega) (by omega), a3]
          refine Eq.trans ?_ v60.symm
          rw [m1 60 p (by omega) (by omega) (by omega), (fac p p3).2]
    unfold f_W_attempts_B33
    refine r_ifF (fun q => by have := oinjq (a := f) (b := 3) (by omega) (by omega) q; omega) ?_
    refine o_aI r129 (n := 12 * p + f) i0 (by omega) (o_bI r129 (n := 12 * p + f) i0 (by omega) (o_bI r129.w (n := 12 * p + f + 3) ((congrArg (fun z => z + (3 : Int32)) i0).trans (wadd (12 * p + f) 3)) (by omega) ?_))
    by_cases c : f = 2
    · exact r_ifT (by rw [c]; rfl) (fin _ rfl _ (by rw [if_pos c]))
    · refine r_ifF (fun q => c (oinjq (a := f) (b := 2) (by omega) (by omega) q)) (o_aIe r129.w.w (n := 12 * p + 6) (wix 12 p 6) (by omega) ((ti_sI_ne (by omega)).trans (ti_sI_ne (by omega))) (fin _ rfl _ (by rw [if_neg c])))
  by_cases c : Int32.ofNat v = 0
  · exact r_ifT c bad
  · exact r_ifF c (o_some 3 rfl (by decide) (by decide) (fun f f3 => good f f3))
end
