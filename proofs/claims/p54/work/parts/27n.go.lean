/-! ===== the way through a version ===== -/
theorem fr80 {T : Nat → Nat} {w : List Nat} {S S' : AS} {c s : Nat} {x : Option Nat} (hR : Rl T w S c s T S') (hx : Tx T 100 x) (τ p j : Nat) (hf : ft 100 j = some τ) (hs : sg τ = some p) (hk : 40 ≤ kd τ) (hw : ¬ cl τ 0 ∈ w) (i : Nat) : sI S' p i = sI S p i := by
  obtain ⟨e1, e2⟩ := sg_p hR.1 hx hf hs
  exact hR.fI p i (by rw [e1]; exact e2) (by rw [e1, cl_a hk]; exact hw)
def kw_gr : List Nat := [10030, 10077, 10081, 10500, 10600, 12500, 12800, 13100, 13200, 13300, 13400, 13500, 13600, 17800, 17900, 18000]
theorem t_M_grant2 {T : Nat → Nat} {S : AS} (hT : TI T S) {x : Option Nat} {a : Int32} (hx : Tx T 100 x) (ha : In 0 59 a) (hph : Ph S ≤ 1160) : Ho (f_M_grant S x a) (fun q => Rl T kw_gr S 0 0 T q ∧ (∀ b, b ≠ a.toNatClampNeg → sI q 80 b = sI S 80 b) ∧ ¬ sI q 80 a.toNatClampNeg = 0) := by
  have g0 := Rlrf hT
  unfold f_M_grant
  refine r_gIs g0.1 hx rfl (p := 57) rfl (fun v16 b1 e2 => ?_)
  have q3 : In 0 60 v16 := b1 _ _ rfl
  refine r_if (fun c4 => ?_) (fun c4 => ?_)
  · refine r_gR g0.1 hx rfl rfl (fun v17 h6 => ?_)
    refine r_bIs (w' := kw_gr) g0 h6 rfl (p := 80) rfl rfl ha (by decide) (fun _ _ _ q => by cases q; decide) (fun _ => rfl) (by decide) (by decide +kernel) (fun _ => by unfold phc; omega) (fun s7 g8 e9 => ?_)
    exact r_some ⟨g8, fun b hb => by rw [e9, ti_sI_ne (fun z => hb z.2)], by rw [e9, ti_sI_eq]; decide⟩
  · have q12 : In 0 59 v16 := In_w (In_neR c4 q3 (by decide)) (by decide) (by decide)
    refine r_gR g0.1 hx rfl rfl (fun v19 h13 => ?_)
    refine r_aIs g0.1 h13 rfl (p := 75) rfl rfl ha (by decide) (fun v20 b14 _ => ?_)
    have q16 : In 0 5 v20 := b14 _ _ rfl
    refine r_gR g0.1 hx rfl rfl (fun v21 h17 => ?_)
    refine r_bIs (w' := [12500]) g0 h17 rfl (p := 80) rfl rfl ha (by decide) (fun _ _ _ q => by cases q; decide) (fun _ => rfl) (by decide) (by decide +kernel) (fun _ => by unfold phc; omega) (fun s18 g19 e20 => ?_)
    have f21 : In 0 59 (sI s18 57 30) := In_ne e20 (by omega) (In_cell e2 q12)
    have fA : (∀ b, b ≠ a.toNatClampNeg → sI s18 80 b = sI S 80 b) ∧ ¬ sI s18 80 a.toNatClampNeg = 0 := ⟨fun b hb => by rw [e20, ti_sI_ne (fun z => hb z.2)], by rw [e20, ti_sI_eq]; decide⟩
    clear e20
    refine r_gR g19.1 hx rfl rfl (fun v23 h23 => ?_)
    refine r_rv g19.1 hx rfl ?_
    refine r_b2 (t_M_newSession g19.1 hx q16 (by decide) f21 (phS hph g19 (by decide))) (fun v26 s25 h24 => ?_)
    obtain ⟨g26, h24r⟩ := h24
    have fB : ∀ b, sI s25 80 b = sI s18 80 b := fr80 g26 hx 125 80 25 rfl rfl (by decide) (by decide +kernel)
    have g27 : Rl T kw_gr S 0 0 T s25 := Rltrans g19 g26 (by decide +kernel)
    refine r_bIs (w' := kw_gr) g27 h23 rfl (p := 83) rfl rfl ha (by decide) (fun _ _ _ q => by cases q; exact In_w h24r (by decide) (by decide)) (fun _ => rfl) (by decide) (by decide +kernel) (fun _ => by unfold phc; omega) (fun s29 g30 e31 => ?_)
    have f33 : In 0 59 (sI s29 83 a.toNatClampNeg) := In_eqw e31 h24r
    have fC : ∀ b, sI s29 80 b = sI s25 80 b := fun b => by rw [e31, ti_sI_ne (by omega)]
    obtain ⟨q, hq, gq⟩ := tR_M_grant_L45 (S0 := s29) kr_FU s29 x a v20 (0 : Int32) (Rlweak (Rlrf g30.1) (fun z hz => by cases hz) (Nat.le_refl _) (Nat.le_refl _)) hx ha q16 (by decide) f33 (by decide)
    have fD : ∀ b, sI q 80 b = sI s29 80 b := fr80 gq hx 125 80 25 rfl rfl (by decide) (by decide +kernel)
    refine ⟨q, hq, Rltrans g30 gq (by decide +kernel), fun b hb => ?_, ?_⟩
    · rw [fD, fC, fB]
      exact fA.1 b hb
    · rw [fD, fC, fB]
      exact fA.2
def kw_go : List Nat := [12400, 12600, 10030, 10077, 10081, 10500, 10600, 12500, 12800, 13100, 13200, 13300, 13400, 13500, 13600, 17800, 17900, 18000]
/-- what going on leaves: other attempts as they were; who still is asked stands at a step that asks -/
def GO (T : Nat → Nat) (S : AS) (a v n : Nat) (q : AS) : Prop := Rl T kw_go S 0 0 T q ∧ (∀ b, b ≠ a → sI q 79 b = sI S 79 b ∧ sI q 80 b = sI S 80 b) ∧ (sI q 80 a = 0 → ∃ k, k < n ∧ sI q 79 a = Int32.ofNat k ∧ sI S 67 (12 * v + k) = 0)
theorem go_B77 {T : Nat → Nat} {S : AS} (hT : TI T S) {x : Option Nat} {a st at' : Int32} {v n : Nat} (hx : Tx T 100 x) (ha : In 0 59 a) (hph : Ph S ≤ 1150) (hv : v < 8) (hn : n ≤ 12) (hst : st = -1 ∨ ∃ k, k < n ∧ st = Int32.ofNat k ∧ at' = Int32.ofNat (12 * v + k) ∧ ¬ te S (12 * v) k) : Ho (f_M_go_B77 S x a st at') (fun q => GO T S a.toNatClampNeg v n q) := by
  have g0 := Rlrf hT
  have rst : In (-1) 11 st := by
    rcases hst with rfl | ⟨k, k1, rfl, -⟩
    · decide
    · exact ⟨by rw [(gl2 k (by omega)).1]; omega, by rw [(gl2 k (by omega)).1]; omega⟩
  unfold f_M_go_B77
  refine r_gR g0.1 hx rfl rfl (fun v6 h6 => ?_)
  refine r_bIs (w' := [12400]) g0 h6 rfl (p := 79) rfl rfl ha (by decide) (fun _ _ _ q => by cases q; exact rst) (fun _ => rfl) (by decide) (by decide +kernel) (fun _ => by unfold phc; omega) (fun s7 g7 e7 => ?_)
  refine r_gR g7.1 hx rfl rfl (fun v8 h8 => ?_)
  refine r_bIs (w' := [12400, 12600]) g7 h8 rfl (p := 81) rfl rfl ha (by decide) (fun _ _ _ q => by cases q) (fun _ => rfl) (by decide) (by decide +kernel) (fun _ => by unfold phc; omega) (fun s9 g9 e9 => ?_)
  have f79 : (∀ b, b ≠ a.toNatClampNeg → sI s9 79 b = sI S 79 b) ∧ sI s9 79 a.toNatClampNeg = st := ⟨fun b hb => by rw [e9, ti_sI_ne (by omega), e7, ti_sI_ne (fun z => hb z.2)], by rw [e9, ti_sI_ne (by omega), e7, ti_sI_eq]⟩
  have f80 : ∀ b, sI s9 80 b = sI S 80 b := fun b => by rw [e9, ti_sI_ne (by omega), e7, ti_sI_ne (by omega)]
  have f67 : ∀ b, sI s9 67 b = sI S 67 b := fun b => by rw [e9, ti_sI_ne (by omega), e7, ti_sI_ne (by omega)]
  clear e7 e9
  have b108 : Ho (f_M_go_B108 s9 x a) (fun q => GO T S a.toNatClampNeg v n q) := by
    unfold f_M_go_B108
    refine r_gR g9.1 hx rfl rfl (fun v4 h4 => ?_)
    refine r_bIs (w' := [12400, 12600, 12500]) g9 h4 rfl (p := 80) rfl rfl ha (by decide) (fun _ _ _ q => by cases q; decide) (fun _ => rfl) (by decide) (by decide +kernel) (fun _ => by unfold phc; omega) (fun s5 g5 e5 => ?_)
    refine r_some ⟨Rlweak g5 (by decide +kernel) (by decide) (by decide), fun b hb => ⟨?_, ?_⟩, fun q => ?_⟩
    · rw [e5, ti_sI_ne (by omega)]
      exact f79.1 b hb
    · rw [e5, ti_sI_ne (fun z => hb z.2), f80]
    · rw [e5, ti_sI_eq] at q
      exact absurd q (by decide)
  by_cases c1 : st = -1
  · rw [if_pos c1]
    exact b108
  · rw [if_neg c1]
    rcases hst with q | ⟨k, k1, k2, k3, k4⟩
    · exact absurd q c1
    · obtain ⟨r1, r2⟩ := ri (n := 12 * v + k) (by omega)
      subst k3
      refine r_gR g9.1 hx rfl rfl (fun v10 h10 => ?_)
      refine r_aIs g9.1 h10 rfl (p := 67) rfl rfl r1 (by decide) (fun v11 b11 e11 => ?_)
      rw [r2, f67] at e11
      have q11 : In 0 6 v11 := b11 _ _ rfl
      refine r_if (fun _ => b108) (fun c6 => ?_)
      refine r_gR g9.1 hx rfl rfl (fun v12 h12 => ?_)
      refine r_aIs g9.1 h12 rfl (p := 67) rfl rfl r1 (by decide) (fun v13 _ e13 => ?_)
      rw [r2, f67] at e13
      refine r_if (fun _ => ?_) (fun c5 => ?_)
      · refine r_rv g9.1 hx rfl ?_
        refine r_bind (t_M_grant2 g9.1 hx ha (phS hph g9 (by decide))) (fun q hq => ?_)
        obtain ⟨gq, hq1, hq2⟩ := hq
        have f79q : ∀ b, sI q 79 b = sI s9 79 b := fr80 gq hx 124 79 24 rfl rfl (by decide) (by decide +kernel)
        refine r_some ⟨Rltrans g9 gq (by decide +kernel), fun b hb => ⟨?_, ?_⟩, fun z => absurd z hq2⟩
        · rw [f79q]
          exact f79.1 b hb
        · rw [hq1 b hb, f80]
      · refine r_some ⟨Rlweak g9 (by decide +kernel) (by decide) (by decide), fun b hb => ⟨f79.1 b hb, f80 b⟩, fun _ => ⟨k, k1, by rw [f79.2, k2], ?_⟩⟩
        rw [← e11]
        have h1 : ¬ In 1 4 v11 := fun z => k4 (In_cell e11 z)
        have h6 : ¬ v11.toInt = 6 := fun z => c6 (Int32.toInt_inj.mp (by rw [z]; decide))
        have h5 : ¬ v11.toInt = 5 := fun z => c5 (by rw [e13, ← e11]; exact Int32.toInt_inj.mp (by rw [z]; decide))
        obtain ⟨z1, z2⟩ := q11
        have h0 : v11.toInt = 0 := by
          by_cases c : 1 ≤ v11.toInt
          · exact absurd ⟨c, by omega⟩ h1
          · omega
        exact Int32.toInt_inj.mp (by rw [h0]; decide)
theorem go_L15 {T : Nat → Nat} {S : AS} (hT : TI T S) {x : Option Nat} {a : Int32} {v n : Nat} {ρ : Nat → Nat} (hx : Tx T 100 x) (ha : In 0 59 a) (hph : Ph S ≤ 1150) (hsr : SR S) (hv : v < 8) (hn : n ≤ 12) (hva : sI S 78 a.toNatClampNeg = Int32.ofNat v) (hnx : nxin S (12 * v) n) (hrk : rnk S (12 * v) n ρ) :
    ∀ m fu st at', m < fu → (st = -1 ∨ ∃ k, k < n ∧ st = Int32.ofNat k ∧ at' = Int32.ofNat (12 * v + k) ∧ (te S (12 * v) k → ρ k < m)) → Ho (f_M_go_L15 fu S x a st at') (fun q => GO T S a.toNatClampNeg v n q) := by
  intro m
  induction m with
  | zero =>
    intro fu st at' h1 hst
    obtain ⟨fu, rfl⟩ : ∃ g, fu = g + 1 := ⟨fu - 1, by omega⟩
    show Ho (f_M_go_C15 _ _ _ _ _ _) _
    unfold f_M_go_C15
    rcases hst with rfl | ⟨k, k1, rfl, rfl, k4⟩
    · rw [if_pos rfl]
      exact go_B77 hT hx ha hph hv hn (Or.inl rfl)
    · obtain ⟨r1, r2⟩ := ri (n := 12 * v + k) (by omega)
      have hne : ¬ Int32.ofNat k = -1 := fun q => by
        have := congrArg Int32.toInt q
        rw [(gl2 k (by omega)).1, show (-1 : Int32).toInt = -1 from by decide] at this
        omega
      rw [if_neg hne]
      refine r_gR hT hx rfl rfl (fun v16 h16 => ?_)
      refine r_aIs hT h16 rfl (p := 67) rfl rfl r1 (by decide) (fun v17 _ e17 => ?_)
      rw [r2] at e17
      have hnt : ¬ te S (12 * v) k := fun q => absurd (k4 q) (Nat.not_lt_zero _)
      rw [isTest_f (fun q => hnt (In_cell e17 q)), b2_s]
      exact r_ifT rfl (go_B77 hT hx ha hph hv hn (Or.inr ⟨k, k1, rfl, rfl, hnt⟩))
  | succ m ih =>
    intro fu st at' h1 hst
    obtain ⟨fu, rfl⟩ : ∃ g, fu = g + 1 := ⟨fu - 1, by omega⟩
    show Ho (f_M_go_C15 _ _ _ _ _ _) _
    unfold f_M_go_C15
    rcases hst with rfl | ⟨k, k1, rfl, rfl, k4⟩
    · rw [if_pos rfl]
      exact go_B77 hT hx ha hph hv hn (Or.inl rfl)
    · obtain ⟨r1, r2⟩ := ri (n := 12 * v + k) (by omega)
      have hne : ¬ Int32.ofNat k = -1 := fun q => by
        have := congrArg Int32.toInt q
        rw [(gl2 k (by omega)).1, show (-1 : Int32).toInt = -1 from by decide] at this
        omega
      rw [if_neg hne]
      refine r_gR hT hx rfl rfl (fun v16 h16 => ?_)
      refine r_aIs hT h16 rfl (p := 67) rfl rfl r1 (by decide) (fun v17 _ e17 => ?_)
      rw [r2] at e17
      by_cases ct : In 1 4 v17
      · have hte : te S (12 * v) k := In_cell e17 ct
        rw [isTest_t ct, b2_s]
        refine r_ifF (by decide) ?_
        refine r_rv hT hx rfl ?_
        refine r_P (P := fun _ => True) (by
          obtain ⟨b, h2, h3, -⟩ := t_M_holds hT hx ha r1 hsr
          exact ⟨b, h2, h3, trivial⟩) (fun v22 _ => ?_)
        have kc : In 1 4 (sI S 67 (Int32.ofNat (12 * v + k)).toNatClampNeg) := by rw [r2]; exact hte
        have h5 : (sI S 67 (12 * v + k)).toInt < 5 := by have := hte.2; omega
        have next : ∀ y : Int32, In (-1) 11 y → (∀ t : Nat, y.toInt = (t : Int) → nx S (12 * v) k t) → Ho (f_M_go_B60 (f_M_go_L15 fu) S x a y) (fun q => GO T S a.toNatClampNeg v n q) := by
          intro y hy hyt
          unfold f_M_go_B60
          refine r_gR hT hx rfl rfl (fun v1 g1 => ?_)
          refine r_aIs hT g1 rfl (p := 78) rfl rfl ha (by decide) (fun v2 _ e2 => ?_)
          refine r_val ?_
          refine ih fu y _ (by omega) ?_
          by_cases c : y.toInt < 0
          · exact Or.inl (Int32.toInt_inj.mp (by rw [show (-1 : Int32).toInt = -1 from by decide]; have := hy.1; omega))
          · obtain ⟨t, ht, rfl⟩ := ofNat_In (n := 11) (v := y) ⟨by omega, hy.2⟩
            have hnt := hyt t (gl2 t (by omega)).1
            have htn := nxin_t hnx k1 h5 hnt
            refine Or.inr ⟨t, htn, rfl, ?_, fun q => ?_⟩
            · rw [e2, hva, mulv v hv t (by omega)]
            · have := hrk.2 k k1 hte t hnt q
              have := k4 hte
              omega
        refine r_if (fun _ => ?_) (fun _ => ?_)
        · refine r_gR hT hx rfl rfl (fun v23 g23 => ?_)
          refine r_aIs hT g23 rfl (p := 71) rfl rfl r1 (by decide) (fun v24 _ e24 => ?_)
          have r24 : In (-1) 11 v24 := SR_n hsr r1 kc (by decide) e24
          rw [r2] at e24
          exact next v24 r24 (fun t ht => Or.inr (by rw [← e24]; exact ht))
        · refine r_gR hT hx rfl rfl (fun v25 g25 => ?_)
          refine r_aIs hT g25 rfl (p := 70) rfl rfl r1 (by decide) (fun v26 _ e26 => ?_)
          have r26 : In (-1) 11 v26 := SR_y hsr r1 kc (by decide) e26
          rw [r2] at e26
          exact next v26 r26 (fun t ht => Or.inl (by rw [← e26]; exact ht))
      · rw [isTest_f ct, b2_s]
        exact r_ifT rfl (go_B77 hT hx ha hph hv hn (Or.inr ⟨k, k1, rfl, rfl, fun q => ct (In_read e17 q)⟩))
theorem t_M_go {T : Nat → Nat} {S : AS} (hT : TI T S) {x : Option Nat} {a st : Int32} {v n : Nat} {ρ : Nat → Nat} (hx : Tx T 100 x) (ha : In 0 59 a) (hph : Ph S ≤ 1150) (hsr : SR S) (hv : v < 8) (hn : n ≤ 12) (hva : sI S 78 a.toNatClampNeg = Int32.ofNat v) (hnx : nxin S (12 * v) n) (hrk : rnk S (12 * v) n ρ) (hst : st = -1 ∨ ∃ k, k < n ∧ st = Int32.ofNat k) : Ho (f_M_go S x a st) (fun q => GO T S a.toNatClampNeg v n q) := by
  unfold f_M_go
  refine r_gR hT hx rfl rfl (fun v27 g27 => ?_)
  refine r_aIs hT g27 rfl (p := 78) rfl rfl ha (by decide) (fun v28 _ e28 => ?_)
  refine r_val ?_
  refine go_L15 hT hx ha hph hsr hv hn hva hnx hrk 13 kr_FU st _ (by decide) ?_
  rcases hst with q | ⟨k, k1, rfl⟩
  · exact Or.inl q
  · refine Or.inr ⟨k, k1, rfl, by rw [e28, hva, mulv v hv k (by omega)], fun _ => ?_⟩
    have := hrk.1 k
    omega
