/-! ===== leave ===== -/
theorem MI_80 {S S' : AS} (hM : MI S) (e : ∀ p i, p ≠ 80 → sI S' p i = sI S p i) (h0 : ∀ b, sI S' 80 b = 0 → sI S 80 b = 0) : MI S' := by
  have s5 : same5 S S' := fun p i hp => e p i (by omega)
  refine ⟨SR_same hM.1 s5, AC_same hM.2.1 s5, fun b hb => ?_, ?_⟩
  · rw [e 57 19 (by decide)] at hb
    exact AKa_same (hM.2.2.1 b hb) s5 (e 78 b (by decide)) (e 79 b (by decide)) (h0 b)
  · rw [Gf_eq (funext fun i => e 57 i (by decide)) (funext fun i => e 98 i (by decide))]
    exact hM.2.2.2
def kw_lv : List Nat := [10077, 10081, 10082, 10700, 12500, 13500, 15100, 16900, 17300, 17800, 17900, 18000]
theorem lv_L52 {T : Nat → Nat} {S0 Sb : AS} {x : Option Nat} {a z : Int32} (hx : Tx T 100 x) (ha : In 0 5 a) {na : Nat} (hna : na ≤ 60) (hn : (sI Sb 57 19).toInt = (na : Int)) (hM : MI Sb) :
    ∀ m i fu, i + m = na → m < fu → ∀ S, Rl T kw_lv S0 0 0 T S → (∀ p i, p ≠ 80 → sI S p i = sI Sb p i) → (∀ b, sI S 80 b = 0 → sI Sb 80 b = 0) → Ho (f_M_leave_L52 fu S x a z (Int32.ofNat i)) (fun q => Rl T kw_lv S0 0 0 T q.2 ∧ MI q.2) := by
  intro m
  induction m with
  | zero =>
    intro i fu h1 h2 S hR hp h0
    obtain ⟨fu, rfl⟩ : ∃ g, fu = g + 1 := ⟨fu - 1, by omega⟩
    have hi : i = na := by omega
    subst hi
    show Ho (f_M_leave_C52 _ _ _ _ _ _) _
    unfold f_M_leave_C52
    refine r_gIs hR.1 hx rfl (p := 57) rfl (fun v13 _ e13 => ?_)
    have e13' : v13 = Int32.ofNat i := by rw [e13, hp 57 19 (by decide)]; exact ofNat_of hn
    rw [e13']
    refine r_ifT (Int32.le_refl _) ?_
    obtain ⟨q, hq, gq, -⟩ := tR_M_leave_L103 (S0 := S) kr_FU S x a z (0 : Int32) (Rlweak (Rlrf hR.1) (fun z hz => by cases hz) (Nat.le_refl _) (Nat.le_refl _)) hx ha (by decide) (by decide)
    exact ⟨q, hq, Rltrans hR gq (by decide +kernel), MI_fr (MI_80 hM hp h0) gq hx (by decide)⟩
  | succ m ih =>
    intro i fu h1 h2 S hR hp h0
    obtain ⟨fu, rfl⟩ : ∃ g, fu = g + 1 := ⟨fu - 1, by omega⟩
    have hi : i < 60 := by omega
    have e1 : Int32.ofNat i + (1 : Int32) = Int32.ofNat (i + 1) := (Int32.ofNat_add i 1).symm
    have rI : In 0 59 (Int32.ofNat i) := ⟨by rw [(gl2 i (by omega)).1]; omega, by rw [(gl2 i (by omega)).1]; omega⟩
    have tI : (Int32.ofNat i).toNatClampNeg = i := (gl2 i (by omega)).2
    show Ho (f_M_leave_C52 _ _ _ _ _ _) _
    unfold f_M_leave_C52
    refine r_gIs hR.1 hx rfl (p := 57) rfl (fun v13 _ e13 => ?_)
    have e13' : v13 = Int32.ofNat na := by rw [e13, hp 57 19 (by decide)]; exact ofNat_of hn
    rw [e13']
    refine r_ifF (fun q => by have := (le_n (by omega) (by omega)).mp q; omega) ?_
    refine r_gR hR.1 hx rfl rfl (fun v14 h14 => ?_)
    have wr : ∀ y : Int32, In 0 2 y → (y = 0 → sI S 80 i = 0) → Ho (f_M_leave_B94 (f_M_leave_L52 fu) S x a z (Int32.ofNat i) v14 (Int32.ofNat i) y) (fun q => Rl T kw_lv S0 0 0 T q.2 ∧ MI q.2) := by
      intro y hy hy0
      unfold f_M_leave_B94
      refine r_bIs (w' := kw_lv) hR h14 rfl (p := 80) rfl rfl rI (by decide) (fun _ _ _ q => by cases q; exact hy) (fun _ => rfl) (by decide) (by decide +kernel) (fun _ => by unfold phc; omega) (fun S1 g1 e => ?_)
      rw [tI] at e
      refine r_val ?_
      rw [e1]
      refine ih (i + 1) fu (by omega) (by omega) S1 g1 (fun p j hpj => by rw [e, ti_sI_ne (fun q => hpj q.1)]; exact hp p j hpj) (fun b hb => ?_)
      by_cases c : b = i
      · subst c
        rw [e, ti_sI_eq] at hb
        exact h0 b (hy0 hb)
      · rw [e, ti_sI_ne (fun q => c q.2)] at hb
        exact h0 b hb
    have same : Ho (f_M_leave_B88 (f_M_leave_L52 fu) S x a z (Int32.ofNat i) v14 (Int32.ofNat i)) (fun q => Rl T kw_lv S0 0 0 T q.2 ∧ MI q.2) := by
      unfold f_M_leave_B88
      refine r_gR hR.1 hx rfl rfl (fun v3 h3 => ?_)
      refine r_aIs hR.1 h3 rfl (p := 80) rfl rfl rI (by decide) (fun v4 b4 e4 => ?_)
      rw [tI] at e4
      exact wr v4 (b4 _ _ rfl) (fun q => by rw [← e4]; exact q)
    refine r_gR hR.1 hx rfl rfl (fun v15 h15 => ?_)
    refine r_aI hR.1 h15 rfl rfl rI (by decide) (fun v16 _ => ?_)
    refine r_if (fun _ => ?_) (fun _ => same)
    refine r_gR hR.1 hx rfl rfl (fun v17 h17 => ?_)
    refine r_aI hR.1 h17 rfl rfl rI (by decide) (fun v18 _ => ?_)
    exact r_if (fun _ => wr 2 (by decide) (fun q => absurd q (by decide))) (fun _ => same)
theorem t_M_leave2 {T : Nat → Nat} {S : AS} (hT : TI T S) {x : Option Nat} {a : Int32} (hx : Tx T 100 x) (hph : Ph S ≤ 1100) (hM : MI S) : Ho (f_M_leave S x a) (fun q => Rl T kw_lv S 0 0 T q.2 ∧ MI q.2) := by
  have g0 := Rlrf hT
  have b32 : ∀ S9, Rl T [10082] S 0 0 T S9 → MI S9 → In 0 5 a → ∀ (v30 : Option Nat), Tx T 107 v30 → ∀ y : Int32, In 0 1 y → Ho (f_M_leave_B32 S9 x a v30 a y) (fun q => Rl T kw_lv S 0 0 T q.2 ∧ MI q.2) := by
    intro S9 g9 m9 ha v30 h30 y hy
    unfold f_M_leave_B32
    refine r_bZs (w' := [10082, 10700]) g9 h30 rfl (p := 64) rfl rfl ha (by decide) hy (fun _ _ _ q => by cases q; exact hy) (fun _ => rfl) (by decide) (by decide +kernel) (fun _ => by unfold phc; omega) (fun S19 g19 e19 => ?_)
    have l19 : Rl T [10700] S9 0 0 T S19 := by
      rw [e19]
      obtain ⟨p1, p2, -⟩ := sgp g9.1 h30 (p := 64) rfl
      exact RlwI (Rlrf g9.1) (by rw [← e19]; exact g19.1) p1 (by omega) (by rw [cl_a (by decide)]; decide) (by unfold phc; omega)
    have m19 := MI_fr m9 l19 hx (by decide)
    refine r_gR g19.1 hx rfl rfl (fun v20 h20 => ?_)
    refine r_aI g19.1 h20 rfl rfl ha (by decide) (fun v21 _ => ?_)
    refine r_if (fun _ => r_some ⟨Rlweak g19 (by decide +kernel) (by decide) (by decide), m19⟩) (fun _ => ?_)
    refine r_rv g19.1 hx rfl ?_
    refine r_b2 (t_M_endAllOf g19.1 hx (phS hph g19 (by decide))) (fun v24 S23 hh => ?_)
    obtain ⟨l23, -⟩ := hh
    have m23 := MI_fr m19 l23 hx (by decide)
    have g23 : Rl T kw_lv S 0 0 T S23 := Rltrans g19 l23 (by decide +kernel)
    obtain ⟨na, hna, hna60⟩ := fld g23.1 hx (j := 19) (b := 60) rfl
    exact lv_L52 hx ha hna60 hna m23 na 0 kr_FU (by omega) (by show na < 2000; omega) S23 g23 (fun _ _ _ => rfl) (fun _ q => q)
  have key : ∀ y : Int32, In 0 1 y → (¬ y = 0 → In 0 5 a) → Ho ((kr_rv S 39 x).bind fun _ => kr_b2 (f_M_may S x y) fun v29 S28 => if v29 = 0 then some ((0 : Int32), S28) else (gR S28 39 7 x).bind fun v30 => (gR S28 39 7 x).bind fun v31 => (aI S28 47 v31 a).bind fun v32 => if v32 = 0 then f_M_leave_B32 S28 x a v30 a (1 : Int32) else f_M_leave_B32 S28 x a v30 a (0 : Int32)) (fun q => Rl T kw_lv S 0 0 T q.2 ∧ MI q.2) := by
    intro y hy h
    refine r_rv hT hx rfl ?_
    refine r_may (w' := [10082]) g0 hx hy (by decide +kernel) (fun S9 g9 f9 c => ?_) (fun S9 g9 _ => r_ifT rfl (r_some ⟨Rlweak g9 (by decide +kernel) (by decide) (by decide), MI_fr hM g9 hx (by decide)⟩))
    have ha := h c
    have m9 := MI_fr hM g9 hx (by decide)
    refine r_ifF (by decide) ?_
    refine r_gR g9.1 hx rfl rfl (fun v30 h30 => ?_)
    refine r_gR g9.1 hx rfl rfl (fun v31 h31 => ?_)
    refine r_aI g9.1 h31 rfl rfl ha (by decide) (fun v32 _ => ?_)
    exact r_if (fun _ => b32 S9 g9 m9 ha v30 h30 1 (by decide)) (fun _ => b32 S9 g9 m9 ha v30 h30 0 (by decide))
  unfold f_M_leave
  exact r_spl (u_isSix S a) (fun h => key 1 (by decide) (fun _ => h)) (key 0 (by decide) (fun q => absurd rfl q))
/-! ===== the start ===== -/
def kr_T0l : List Nat := [0, 52, 0, 0, 1, 2, 3, 4, 5, 6, 7, 40, 41, 41, 41, 41, 41, 20, 21, 22, 8, 9, 23, 24, 25, 10, 11, 26, 12, 13, 14, 15, 16, 13, 14, 15, 16, 13, 14, 15, 16, 13, 14, 15, 16, 13, 14, 15, 16, 13, 14, 15, 16, 17, 17, 17, 17, 100, 101, 102, 103, 104, 105, 106, 107, 108, 110, 111, 112, 113, 114, 115, 116, 117, 118, 120, 121, 122, 123, 124, 125, 126, 127, 128, 129, 131, 132, 133, 134, 135, 136, 137, 138, 140, 141, 142, 143, 144, 145, 147, 148, 149, 150, 151, 153, 154, 155, 156, 157, 158, 159, 164, 165, 166, 167, 168, 169, 171, 172, 173, 174, 175, 176, 178, 179, 180, 50, 200, 201, 202, 203, 204, 205, 206, 207, 208, 209, 210, 211, 212, 213]
def kr_T0 (k : Nat) : Nat := kr_T0l.getD k 0
