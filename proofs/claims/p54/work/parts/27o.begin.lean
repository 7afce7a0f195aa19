/-! ===== what holds between the reference's calls ===== -/
def AC (S : AS) : Prop := ∀ v n : Nat, (v : Int) < (sI S 57 9).toInt → (sI S 66 v).toInt = (n : Int) → 1 ≤ n ∧ nxin S (12 * v) n ∧ ∃ ρ, rnk S (12 * v) n ρ
def AKa (S : AS) (a : Nat) : Prop := ∃ v n : Nat, sI S 78 a = Int32.ofNat v ∧ (v : Int) < (sI S 57 9).toInt ∧ (sI S 66 v).toInt = (n : Int) ∧ (sI S 80 a = 0 → ∃ k, k < n ∧ sI S 79 a = Int32.ofNat k ∧ sI S 67 (12 * v + k) = 0)
def AK (S : AS) : Prop := ∀ a : Nat, (a : Int) < (sI S 57 19).toInt → AKa S a
def MI (S : AS) : Prop := SR S ∧ AC S ∧ AK S ∧ Gf S ≤ 0
/-- rows of steps as they were -/
def same5 (S S' : AS) : Prop := ∀ p i, (p = 66 ∨ p = 67 ∨ p = 68 ∨ p = 70 ∨ p = 71 ∨ (p = 57 ∧ i = 9)) → sI S' p i = sI S p i
theorem SR_same {S S' : AS} (h : SR S) (e : same5 S S') : SR S' := by
  intro i hi
  rw [e 67 i (by omega), e 68 i (by omega), e 70 i (by omega), e 71 i (by omega)]
  exact h i hi
theorem te_same {S S' : AS} (e : same5 S S') {b k : Nat} : te S' b k ↔ te S b k := by
  unfold te
  rw [e 67 _ (by omega)]
theorem nx_same {S S' : AS} (e : same5 S S') {b k t : Nat} : nx S' b k t ↔ nx S b k t := by
  unfold nx
  rw [e 70 _ (by omega), e 71 _ (by omega)]
theorem nxin_same {S S' : AS} (e : same5 S S') {b n : Nat} (h : nxin S b n) : nxin S' b n := by
  intro k hk h5
  rw [e 67 _ (by omega)] at h5
  rw [e 70 _ (by omega), e 71 _ (by omega)]
  exact h k hk h5
theorem rnk_same {S S' : AS} (e : same5 S S') {b n : Nat} {ρ : Nat → Nat} (h : rnk S b n ρ) : rnk S' b n ρ :=
  ⟨h.1, fun k hk h1 t h2 h3 => h.2 k hk ((te_same e).mp h1) t ((nx_same e).mp h2) ((te_same e).mp h3)⟩
theorem AC_same {S S' : AS} (h : AC S) (e : same5 S S') : AC S' := by
  intro v n hv hn
  rw [e 57 9 (by omega)] at hv
  rw [e 66 v (by omega)] at hn
  obtain ⟨h1, h2, ρ, h3⟩ := h v n hv hn
  exact ⟨h1, nxin_same e h2, ρ, rnk_same e h3⟩
theorem same5_Rl {T : Nat → Nat} {w : List Nat} {S S' : AS} {c s : Nat} {x : Option Nat} (hR : Rl T w S c s T S') (hx : Tx T 100 x) (hw : ∀ z ∈ w, ¬ z ∈ [10009, 11000, 11100, 11200, 11400, 11500]) : same5 S S' := by
  have hn : ∀ z, z ∈ [10009, 11000, 11100, 11200, 11400, 11500] → ¬ z ∈ w := fun z hz q => hw z q hz
  intro p i hp
  rcases hp with rfl | rfl | rfl | rfl | rfl | ⟨rfl, rfl⟩
  · exact fr80 hR hx 110 66 10 rfl rfl (by decide) (hn _ (by decide)) i
  · exact fr80 hR hx 111 67 11 rfl rfl (by decide) (hn _ (by decide)) i
  · exact fr80 hR hx 112 68 12 rfl rfl (by decide) (hn _ (by decide)) i
  · exact fr80 hR hx 114 70 14 rfl rfl (by decide) (hn _ (by decide)) i
  · exact fr80 hR hx 115 71 15 rfl rfl (by decide) (hn _ (by decide)) i
  · obtain ⟨e1, e2, -⟩ := sgp hR.1 hx (p := 57) rfl
    exact hR.fI 57 9 (by rw [e1]; exact e2) (by rw [e1]; exact hn _ (by decide))
theorem AKa_same {S S' : AS} {a : Nat} (h : AKa S a) (e : same5 S S') (h8 : sI S' 78 a = sI S 78 a) (h9 : sI S' 79 a = sI S 79 a) (h0 : sI S' 80 a = 0 → sI S 80 a = 0) : AKa S' a := by
  obtain ⟨v, n, a1, a2, a3, a4⟩ := h
  refine ⟨v, n, by rw [h8]; exact a1, by rw [e 57 9 (by omega)]; exact a2, by rw [e 66 v (by omega)]; exact a3, fun q => ?_⟩
  obtain ⟨k, k1, k2, k3⟩ := a4 (h0 q)
  exact ⟨k, k1, by rw [h9]; exact k2, by rw [e 67 _ (by omega)]; exact k3⟩
def kw_mi : List Nat := [10009, 10019, 11000, 11100, 11200, 11400, 11500, 12300, 12400, 12500]
theorem MI_fr {T : Nat → Nat} {w : List Nat} {S S' : AS} {c : Nat} {x : Option Nat} (h : MI S) (hR : Rl T w S c 0 T S') (hx : Tx T 100 x) (hw : ∀ z ∈ w, ¬ z ∈ kw_mi) : MI S' := by
  obtain ⟨h1, h2, h3, h4⟩ := h
  have hn : ∀ z, z ∈ kw_mi → ¬ z ∈ w := fun z hz q => hw z q hz
  have e : same5 S S' := same5_Rl hR hx (fun z hz q => hw z hz (by
    have : ∀ z, z ∈ [10009, 11000, 11100, 11200, 11400, 11500] → z ∈ kw_mi := by decide
    exact this z q))
  refine ⟨SR_same h1 e, AC_same h2 e, fun a ha => ?_, by have := hR.2.2.2.1.2.2.2; omega⟩
  obtain ⟨e1, e2, -⟩ := sgp hR.1 hx (p := 57) rfl
  rw [hR.fI 57 19 (by rw [e1]; exact e2) (by rw [e1]; exact hn _ (by decide))] at ha
  exact AKa_same (h3 a ha) e (fr80 hR hx 123 78 23 rfl rfl (by decide) (hn _ (by decide)) a) (fr80 hR hx 124 79 24 rfl rfl (by decide) (hn _ (by decide)) a) (fun q => by rw [← fr80 hR hx 125 80 25 rfl rfl (by decide) (hn _ (by decide)) a]; exact q)
theorem steps_n {T : Nat → Nat} {S : AS} {x : Option Nat} (hT : TI T S) (hx : Tx T 100 x) {v : Nat} (hv : v < 9) : ∃ n : Nat, (sI S 66 v).toInt = (n : Int) ∧ n ≤ 12 := by
  obtain ⟨e1, e2⟩ := sg_p hT hx (j := 10) (τ := 110) (p := 66) rfl rfl
  have := hT.t5 66 v 9 0 12 (by rw [e1]; rfl) hv
  exact ⟨(sI S 66 v).toInt.toNat, by have := this.1; omega, by have := this.2; omega⟩
theorem fld {T : Nat → Nat} {S : AS} {x : Option Nat} (hT : TI T S) (hx : Tx T 100 x) {j : Nat} {b : Nat} (hr : rf 100 j = some (0, (b : Int))) : ∃ n : Nat, (sI S 57 j).toInt = (n : Int) ∧ n ≤ b := by
  obtain ⟨e1, e2, -⟩ := sgp hT hx (p := 57) rfl
  have := hT.t4 57 j 0 b (by rw [e1]; exact hr)
  exact ⟨(sI S 57 j).toInt.toNat, by have := this.1; omega, by have := this.2; omega⟩
/-! ===== begin ===== -/
theorem mul3 : ∀ a, a < 60 → ∀ i, i < 3 → In 0 179 ((3 : Int32) * Int32.ofNat a + Int32.ofNat i) := by decide +kernel
theorem bg_loop {T : Nat → Nat} {w : List Nat} {S0 Sb : AS} {x : Option Nat} {a : Nat} (hx : Tx T 100 x) (ha : a < 60) (hw : 12900 ∈ w) {Q : Int32 × AS → Prop}
    (hk : ∀ S, Rl T w S0 0 0 T S → (∀ p i, p ≠ 84 → sI S p i = sI Sb p i) → Ho ((gI S 39 19 x).bind fun v1 => (pI S 39 19 x (v1 + (1 : Int32))).bind fun S2 => (kr_rv S2 39 x).bind fun _ => (f_M_go S2 x (Int32.ofNat a) (0 : Int32)).bind fun S4 => some (Int32.ofNat a, S4)) Q) :
    ∀ m i fu, i + m = 3 → m < fu → ∀ S, Rl T w S0 0 0 T S → (∀ p i, p ≠ 84 → sI S p i = sI Sb p i) → Ho (f_M_begin_L136 fu S x (Int32.ofNat a) (Int32.ofNat i)) Q := by
  intro m
  induction m with
  | zero =>
    intro i fu h1 h2 S hR hp
    obtain ⟨fu, rfl⟩ : ∃ g, fu = g + 1 := ⟨fu - 1, by omega⟩
    have hi : i = 3 := by omega
    subst hi
    show Ho (f_M_begin_C136 _ _ _ _ _) Q
    unfold f_M_begin_C136
    exact r_ifT (by decide) (hk S hR hp)
  | succ m ih =>
    intro i fu h1 h2 S hR hp
    obtain ⟨fu, rfl⟩ : ∃ g, fu = g + 1 := ⟨fu - 1, by omega⟩
    have hi : i < 3 := by omega
    have e1 : Int32.ofNat i + (1 : Int32) = Int32.ofNat (i + 1) := (Int32.ofNat_add i 1).symm
    show Ho (f_M_begin_C136 _ _ _ _ _) Q
    unfold f_M_begin_C136
    refine r_ifF (fun q => by
      have := Int32.le_iff_toInt_le.mp q
      rw [(gl2 i (by omega)).1, show (3 : Int32).toInt = 3 from by decide] at this
      omega) ?_
    refine r_gR hR.1 hx rfl rfl (fun v5 h5 => ?_)
    refine r_bIs (w' := w) hR h5 rfl (p := 84) rfl rfl (mul3 a ha i hi) (by decide) (fun _ _ _ q => by cases q) (fun _ => rfl) (by decide) (fun z hz => by
      rcases List.mem_cons.mp hz with hz | hz
      · rw [hz]; exact hw
      · exact hz) (fun _ => by unfold phc; omega) (fun S6 R6 E6 => ?_)
    refine r_val ?_
    rw [e1]
    exact ih (i + 1) fu (by omega) (by omega) S6 R6 (fun p j hpj => by rw [E6, ti_sI_ne (fun z => hpj z.1)]; exact hp p j hpj)
def kw_bg : List Nat := [10082, 10019, 12000, 12100, 12200, 12300, 12500, 12800, 12900, 12400, 12600, 10030, 10077, 10081, 10500, 10600, 13100, 13200, 13300, 13400, 13500, 13600, 17800, 17900, 18000]
theorem bg_B66 {T : Nat → Nat} {S : AS} (hT : TI T S) {x : Option Nat} {a1 a2 a3 y1 y2 : Int32} (hx : Tx T 100 x) (hph : Ph S ≤ 1100) (hM : MI S) (h : ¬ y1 = 0 → ¬ y2 = 0 → In 0 5 a1 ∧ In 0 5 a2 ∧ In 0 5 a3 ∧ 0 < (sI S 57 9).toInt ∧ (sI S 57 19).toInt < 60) : Ho (f_M_begin_B66 S x a1 a2 a3 x y1 y2) (fun q => Rl T kw_bg S 0 0 T q.2 ∧ MI q.2) := by
  have g0 := Rlrf hT
  unfold f_M_begin_B66
  refine r_rv hT hx rfl ?_
  refine r_mayBoth (w' := [10082]) g0 hx (by decide +kernel) (fun S9 g9 f9 c1 c2 => ?_) (fun S9 g9 _ => ?_)
  · obtain ⟨r1, r2, r3, hv0, hat⟩ := h c1 c2
    obtain ⟨a, ha, ha60⟩ := fld hT hx (j := 19) (b := 60) rfl
    obtain ⟨nv, hnv, hnv8⟩ := fld hT hx (j := 9) (b := 8) rfl
    have ha' : a < 60 := by omega
    refine r_ifF (by decide) ?_
    refine r_gIs g9.1 hx rfl (p := 57) rfl (fun v11 _ e11 => ?_)
    have e11' : v11 = Int32.ofNat a := by rw [e11, f9 57 19 (by omega)]; exact ofNat_of ha
    subst e11'
    have rA : In 0 59 (Int32.ofNat a) := ⟨by rw [(gl2 a (by omega)).1]; omega, by rw [(gl2 a (by omega)).1]; omega⟩
    have tA : (Int32.ofNat a).toNatClampNeg = a := (gl2 a (by omega)).2
    refine r_gR g9.1 hx rfl rfl (fun v12 h12 => ?_)
    refine r_bIs (w' := [10082, 12000]) g9 h12 rfl (p := 75) rfl rfl rA (by decide) (fun _ _ _ q => by cases q; exact r1) (fun _ => rfl) (by decide) (by decide +kernel) (fun _ => by unfold phc; omega) (fun S13 g13 e13 => ?_)
    refine r_gR g13.1 hx rfl rfl (fun v14 h14 => ?_)
    refine r_bIs (w' := [10082, 12000, 12100]) g13 h14 rfl (p := 76) rfl rfl rA (by decide) (fun _ _ _ q => by cases q; exact r2) (fun _ => rfl) (by decide) (by decide +kernel) (fun _ => by unfold phc; omega) (fun S15 g15 e15 => ?_)
    refine r_gR g15.1 hx rfl rfl (fun v16 h16 => ?_)
    refine r_bIs (w' := [10082, 12000, 12100, 12200]) g15 h16 rfl (p := 77) rfl rfl rA (by decide) (fun _ _ _ q => by cases q; exact r3) (fun _ => rfl) (by decide) (by decide +kernel) (fun _ => by unfold phc; omega) (fun S17 g17 e17 => ?_)
    have fA : ∀ p i, p ≠ 75 → p ≠ 76 → p ≠ 77 → ¬ (p = 57 ∧ i = 82) → sI S17 p i = sI S p i := fun p i h1 h2 h3 h4 => by rw [e17, ti_sI_ne (fun z => h3 z.1), e15, ti_sI_ne (fun z => h2 z.1), e13, ti_sI_ne (fun z => h1 z.1), f9 p i h4]
    clear e13 e15 e17
    refine r_gR g17.1 hx rfl rfl (fun v18 h18 => ?_)
    refine r_gIs g17.1 hx rfl (p := 57) rfl (fun v19 _ e19 => ?_)
    have e19' : v19 - (1 : Int32) = Int32.ofNat (nv - 1) := by
      rw [e19, fA 57 9 (by omega) (by omega) (by omega) (by omega), ofNat_of hnv]
      have : ∀ n, n < 9 → 0 < n → Int32.ofNat n - (1 : Int32) = Int32.ofNat (n - 1) := by decide +kernel
      exact this nv (by omega) (by omega)
    rw [e19']
    refine r_bIs (w' := [10082, 12000, 12100, 12200, 12300]) g17 h18 rfl (p := 78) rfl rfl rA (by decide) (fun _ _ _ q => by cases q; exact ⟨by rw [(gl2 (nv - 1) (by omega)).1]; omega, by rw [(gl2 (nv - 1) (by omega)).1]; omega⟩) (fun _ => rfl) (by decide) (by decide +kernel) (fun _ => by unfold phc; omega) (fun S20 g20 e20 => ?_)
    refine r_gR g20.1 hx rfl rfl (fun v21 h21 => ?_)
    refine r_bIs (w' := [10082, 12000, 12100, 12200, 12300, 12500]) g20 h21 rfl (p := 80) rfl rfl rA (by decide) (fun _ _ _ q => by cases q; decide) (fun _ => rfl) (by decide) (by decide +kernel) (fun _ => by unfold phc; omega) (fun S22 g22 e22 => ?_)
    refine r_gR g22.1 hx rfl rfl (fun v23 h23 => ?_)
    refine r_bIs (w' := kw_bg) g22 h23 rfl (p := 83) rfl rfl rA (by decide) (fun _ _ _ q => by cases q; decide) (fun _ => rfl) (by decide) (by decide +kernel) (fun _ => by unfold phc; omega) (fun S24 g24 e24 => ?_)
    rw [tA] at e20 e22 e24
    have fB : ∀ p i, p ≠ 75 → p ≠ 76 → p ≠ 77 → p ≠ 83 → ¬ (p = 57 ∧ i = 82) → ¬ (p = 78 ∧ i = a) → ¬ (p = 80 ∧ i = a) → sI S24 p i = sI S p i := fun p i h1 h2 h3 h4 h5 h6 h7 => by rw [e24, ti_sI_ne (fun z => h4 z.1), e22, ti_sI_ne h7, e20, ti_sI_ne h6]; exact fA p i h1 h2 h3 h5
    have f78 : sI S24 78 a = Int32.ofNat (nv - 1) := by rw [e24, ti_sI_ne (by omega), e22, ti_sI_ne (by omega), e20, ti_sI_eq]
    clear e20 e22 e24 fA
    refine bg_loop (w := kw_bg) (S0 := S) (Sb := S24) hx ha' (by decide) ?_ 3 0 kr_FU rfl (by decide) S24 g24 (fun _ _ _ => rfl)
    intro S1 R1 hp
    have fC : ∀ p i, p ≠ 84 → p ≠ 75 → p ≠ 76 → p ≠ 77 → p ≠ 83 → ¬ (p = 57 ∧ i = 82) → ¬ (p = 78 ∧ i = a) → ¬ (p = 80 ∧ i = a) → sI S1 p i = sI S p i := fun p i h0 h1 h2 h3 h4 h5 h6 h7 => (hp p i h0).trans (fB p i h1 h2 h3 h4 h5 h6 h7)
    have f78' : sI S1 78 a = Int32.ofNat (nv - 1) := (hp 78 a (by omega)).trans f78
    clear hp fB f78
    refine r_gIs R1.1 hx rfl (p := 57) rfl (fun v1 _ e1 => ?_)
    have e1' : v1 + (1 : Int32) = Int32.ofNat (a + 1) := by
      rw [e1, fC 57 19 (by omega) (by omega) (by omega) (by omega) (by omega) (by omega) (by omega) (by omega), ofNat_of ha]
      exact (Int32.ofNat_add a 1).symm
    rw [e1']
    refine r_pIs (w' := kw_bg) R1 hx (fun _ _ q => by cases q; exact ⟨by rw [(gl2 (a + 1) (by omega)).1]; omega, by rw [(gl2 (a + 1) (by omega)).1]; omega⟩) (by decide +kernel) (by unfold phc; decide) (fun S2 R2 E2 => ?_)
    refine r_rv R2.1 hx rfl ?_
    have fD : ∀ p i, p ≠ 84 → p ≠ 75 → p ≠ 76 → p ≠ 77 → p ≠ 83 → ¬ (p = 57 ∧ i = 82) → ¬ (p = 78 ∧ i = a) → ¬ (p = 80 ∧ i = a) → ¬ (p = 57 ∧ i = 19) → sI S2 p i = sI S p i := fun p i h0 h1 h2 h3 h4 h5 h6 h7 h8 => by rw [E2, ti_sI_ne h8]; exact fC p i h0 h1 h2 h3 h4 h5 h6 h7
    have f78'' : sI S2 78 a = Int32.ofNat (nv - 1) := by rw [E2, ti_sI_ne (by omega)]; exact f78'
    have f19 : sI S2 57 19 = Int32.ofNat (a + 1) := by rw [E2, ti_sI_eq]
    clear E2 fC f78'
    have s5 : same5 S S2 := fun p i hpi => fD p i (by omega) (by omega) (by omega) (by omega) (by omega) (by omega) (by omega) (by omega) (by omega)
    have hsr2 := SR_same hM.1 s5
    have hac2 := AC_same hM.2.1 s5
    obtain ⟨n, hn, hn12⟩ := steps_n R2.1 hx (v := nv - 1) (by omega)
    have hlt : ((nv - 1 : Nat) : Int) < (sI S2 57 9).toInt := by rw [s5 57 9 (by omega), hnv]; omega
    obtain ⟨n1, hnx, ρ, hrk⟩ := hac2 (nv - 1) n hlt hn
    refine r_bind (t_M_go (v := nv - 1) (n := n) R2.1 hx rA (phS hph R2 (by decide)) hsr2 (by omega) hn12 (by rw [tA]; exact f78'') hnx hrk (Or.inr ⟨0, by omega, rfl⟩)) (fun q hq => ?_)
    obtain ⟨gq, hq1, hq2⟩ := hq
    rw [tA] at hq1 hq2
    have s5q : same5 S2 q := same5_Rl gq hx (by decide)
    have f78q : ∀ b, sI q 78 b = sI S2 78 b := fr80 gq hx 123 78 23 rfl rfl (by decide) (by decide +kernel)
    have hR := Rltrans R2 gq (w' := kw_bg) (by decide +kernel)
    refine r_some ⟨hR, SR_same hsr2 s5q, AC_same hac2 s5q, ?_, by show Gf q ≤ 0; have h1 := hR.2.2.2.1.2.2.2; have h2 := hM.2.2.2; omega⟩
    intro b hb
    obtain ⟨e1, e2, -⟩ := sgp gq.1 hx (p := 57) rfl
    have f19q : sI q 57 19 = sI S2 57 19 := gq.fI 57 19 (by rw [e1]; exact e2) (by rw [e1]; decide)
    have hb' : (b : Int) < (a + 1 : Nat) := by
      have := hb
      change (b : Int) < (sI q 57 19).toInt at this
      rw [f19q, f19, (gl2 (a + 1) (by omega)).1] at this
      exact this
    by_cases c : b = a
    · subst c
      refine ⟨nv - 1, n, by rw [f78q]; exact f78'', by rw [s5q 57 9 (by omega)]; exact hlt, by rw [s5q 66 _ (by omega)]; exact hn, fun z => ?_⟩
      obtain ⟨k, k1, k2, k3⟩ := hq2 z
      exact ⟨k, k1, k2, by rw [s5q 67 _ (by omega)]; exact k3⟩
    · have hak := hM.2.2.1 b (by rw [ha]; omega)
      refine AKa_same (AKa_same hak s5 (fD 78 b (by omega) (by omega) (by omega) (by omega) (by omega) (by omega) (by omega) (by omega) (by omega)) (fD 79 b (by omega) (by omega) (by omega) (by omega) (by omega) (by omega) (by omega) (by omega) (by omega)) (fun z => by rw [← fD 80 b (by omega) (by omega) (by omega) (by omega) (by omega) (by omega) (by omega) (by omega) (by omega)]; exact z)) s5q (f78q b) (hq1 b c).1 (fun z => by rw [← (hq1 b c).2]; exact z)
  · refine r_ifT rfl (r_some ⟨Rlweak g9 (by decide +kernel) (by decide) (by decide), MI_fr hM g9 hx (by decide)⟩)
theorem t_M_begin {T : Nat → Nat} {S : AS} (hT : TI T S) {x : Option Nat} {a1 a2 a3 : Int32} (hx : Tx T 100 x) (hph : Ph S ≤ 1100) (hM : MI S) : Ho (f_M_begin S x a1 a2 a3) (fun q => Rl T kw_bg S 0 0 T q.2 ∧ MI q.2) := by
  have b65 : ∀ y : Int32, Ho (f_M_begin_B65 S x a1 a2 a3 x y) (fun q => Rl T kw_bg S 0 0 T q.2 ∧ MI q.2) := fun y => by
    unfold f_M_begin_B65
    exact bg_B66 hT hx hph hM (fun _ q => absurd rfl q)
  have b25 : Ho (f_M_begin_B25 S x a1 a2 a3) (fun q => Rl T kw_bg S 0 0 T q.2 ∧ MI q.2) := by
    unfold f_M_begin_B25 f_M_begin_B26
    exact r_ifT rfl (b65 _)
  unfold f_M_begin
  refine r_spl (u_isSix S a1) (fun h1 => ?_) (r_ifT rfl b25)
  refine r_ifF (by decide) ?_
  refine r_spl (u_isSix S a2) (fun h2 => ?_) (r_ifT rfl b25)
  refine r_ifF (by decide) ?_
  refine r_spl (u_isSix S a3) (fun h3 => ?_) (r_ifT rfl b25)
  refine r_ifF (by decide) ?_
  unfold f_M_begin_B26
  refine r_ifF (by decide) ?_
  refine r_gIs hT hx rfl (p := 57) rfl (fun v25 _ e25 => ?_)
  refine r_if (fun _ => b65 _) (fun c => ?_)
  refine r_gR hT hx rfl rfl (fun v26 h26 => ?_)
  refine r_aI hT h26 rfl rfl h1 (by decide) (fun v27 _ => ?_)
  refine r_if (fun _ => ?_) (fun _ => b65 _)
  refine r_gIs hT hx rfl (p := 57) rfl (fun v28 _ e28 => ?_)
  refine r_if (fun _ => b65 _) (fun c6 => ?_)
  refine bg_B66 hT hx hph hM (fun _ _ => ⟨h1, h2, h3, ?_, ?_⟩)
  · have := Int32.lt_iff_toInt_lt.mp (Int32.not_le.mp c)
    rw [e25, show (0 : Int32).toInt = 0 from by decide] at this
    exact this
  · have := Int32.lt_iff_toInt_lt.mp (Int32.not_le.mp c6)
    rw [e28, show (60 : Int32).toInt = 60 from by decide] at this
    exact this
/-! ===== answer, asked ===== -/
theorem MI_go {T : Nat → Nat} {S q : AS} {x : Option Nat} {a v n : Nat} (hM : MI S) (hx : Tx T 100 x) (h78 : sI S 78 a = Int32.ofNat v) (hv : (v : Int) < (sI S 57 9).toInt) (hn : (sI S 66 v).toInt = (n : Int)) (hg : GO T S a v n q) : MI q := by
  obtain ⟨gq, hq1, hq2⟩ := hg
  have s5q : same5 S q := same5_Rl gq hx (by decide)
  have f78q : ∀ b, sI q 78 b = sI S 78 b := fr80 gq hx 123 78 23 rfl rfl (by decide) (by decide +kernel)
  refine ⟨SR_same hM.1 s5q, AC_same hM.2.1 s5q, ?_, by have h1 := gq.2.2.2.1.2.2.2; have h2 := hM.2.2.2; omega⟩
  intro b hb
  obtain ⟨e1, e2, -⟩ := sgp gq.1 hx (p := 57) rfl
  have f19q : sI q 57 19 = sI S 57 19 := gq.fI 57 19 (by rw [e1]; exact e2) (by rw [e1]; decide)
  rw [f19q] at hb
  by_cases c : b = a
  · subst c
    refine ⟨v, n, by rw [f78q]; exact h78, by rw [s5q 57 9 (by omega)]; exact hv, by rw [s5q 66 _ (by omega)]; exact hn, fun z => ?_⟩
    obtain ⟨k, k1, k2, k3⟩ := hq2 z
    exact ⟨k, k1, k2, by rw [s5q 67 _ (by omega)]; exact k3⟩
  · exact AKa_same (hM.2.2.1 b hb) s5q (f78q b) (hq1 b c).1 (fun z => by rw [← (hq1 b c).2]; exact z)
theorem MI_deny {T : Nat → Nat} {S q : AS} {x : Option Nat} {a : Nat} (hM : MI S) (hx : Tx T 100 x) (hR : Rl T [12500] S 0 0 T q) (e : q = wI S 80 a 2) : MI q := by
  have s5q : same5 S q := same5_Rl hR hx (by decide)
  refine ⟨SR_same hM.1 s5q, AC_same hM.2.1 s5q, ?_, by have h1 := hR.2.2.2.1.2.2.2; have h2 := hM.2.2.2; omega⟩
  intro b hb
  have f19q : sI q 57 19 = sI S 57 19 := by rw [e, ti_sI_ne (by omega)]
  rw [f19q] at hb
  refine AKa_same (hM.2.2.1 b hb) s5q (by rw [e, ti_sI_ne (by omega)]) (by rw [e, ti_sI_ne (by omega)]) (fun z => ?_)
  by_cases c : b = a
  · subst c
    rw [e, ti_sI_eq] at z
    exact absurd z (by decide)
  · rw [e, ti_sI_ne (fun y => c y.2)] at z
    exact z
theorem an_B168 {T : Nat → Nat} {S : AS} (hT : TI T S) {x : Option Nat} {a : Int32} (hx : Tx T 100 x) (ha : In 0 59 a) (hM : MI S) : Ho (f_M_answer_B168 S x a) (fun q => Rl T [12500] S 0 0 T q.2 ∧ MI q.2) := by
  have g0 : Rl T [12500] S 0 0 T S := Rlweak (Rlrf hT) (fun z hz => by cases hz) (Nat.le_refl _) (Nat.le_refl _)
  have b195 : ∀ S', Rl T [12500] S 0 0 T S' → MI S' → Ho (f_M_answer_B195 S' x a) (fun q => Rl T [12500] S 0 0 T q.2 ∧ MI q.2) := fun S' g m => by
    unfold f_M_answer_B195
    refine r_gR g.1 hx rfl rfl (fun v1 h1 => ?_)
    refine r_aI g.1 h1 rfl rfl ha (by decide) (fun v2 _ => r_some ⟨g, m⟩)
  unfold f_M_answer_B168
  refine r_gR hT hx rfl rfl (fun v3 h3 => ?_)
  refine r_aI hT h3 rfl rfl ha (by decide) (fun v4 _ => ?_)
  refine r_if (fun _ => ?_) (fun _ => b195 S g0 hM)
  refine r_gR hT hx rfl rfl (fun v5 h5 => ?_)
  refine r_aI hT h5 rfl rfl ha (by decide) (fun v6 _ => ?_)
  refine r_if (fun _ => ?_) (fun _ => b195 S g0 hM)
  refine r_gR hT hx rfl rfl (fun v7 h7 => ?_)
  refine r_bIs (w' := [12500]) (Rlrf hT) h7 rfl (p := 80) rfl rfl ha (by decide) (fun _ _ _ q => by cases q; decide) (fun _ => rfl) (by decide) (by decide +kernel) (fun _ => by unfold phc; omega) (fun S8 g8 e8 => ?_)
  exact b195 S8 g8 (MI_deny hM hx g8 e8)
def kw_an : List Nat := [10082, 12700, 12600, 12900, 10100, 10200, 10300, 10400, 12400, 10030, 10077, 10081, 10500, 10600, 12500, 12800, 13100, 13200, 13300, 13400, 13500, 13600, 17800, 17900, 18000]
theorem mul3b : ∀ a, a < 60 → ∀ i, i < 3 → In 0 179 ((3 : Int32) * Int32.ofNat a + Int32.ofNat i) := mul3
theorem an_B37 {T : Nat → Nat} {S : AS} (hT : TI T S) {x : Option Nat} {a x2 x3 y1 y2 y3 : Int32} (hx : Tx T 100 x) (hph : Ph S ≤ 1100) (hM : MI S) (h : ¬ y1 = 0 → ¬ y2 = 0 → ¬ y3 = 0 → In 0 59 a ∧ a.toInt < (sI S 57 19).toInt ∧ sI S 80 a.toNatClampNeg = 0) : Ho (f_M_answer_B37 S x a x2 x3 x y1 y2 y3) (fun q => Rl T kw_an S 1 0 T q.2 ∧ MI q.2) := by
  have g0 := Rlrf hT
  unfold f_M_answer_B37
  refine r_rv hT hx rfl ?_
  refine r_mayAll (w' := [10082]) g0 hx (by decide +kernel) (fun S9 g9 f9 c1 c2 c3 => ?_) (fun S9 g9 _ => ?_)
  · obtain ⟨ha, hlt, h80⟩ := h c1 c2 c3
    have hM9 := MI_fr hM g9 hx (by decide)
    have hnat := natI ha.1
    obtain ⟨v, n, k78, kv, kn, kk⟩ := hM9.2.2.1 a.toNatClampNeg (by rw [f9 57 19 (by omega), hnat]; exact hlt)
    obtain ⟨k, k1, k79, k67⟩ := kk (by rw [f9 80 _ (by omega)]; exact h80)
    obtain ⟨nv, hnv, hnv8⟩ := fld g9.1 hx (j := 9) (b := 8) rfl
    have hv8 : v < 8 := by omega
    obtain ⟨n', hn', hn12⟩ := steps_n g9.1 hx (v := v) (by omega)
    have hnn : n' = n := by omega
    subst hnn
    obtain ⟨r1, r2⟩ := ri (n := 12 * v + k) (by omega)
    have kc : In 0 0 (sI S9 67 (Int32.ofNat (12 * v + k)).toNatClampNeg) := by rw [r2, k67]; decide
    clear c1 c2 c3 h f9
    refine r_ifF (by decide) ?_
    refine r_gR g9.1 hx rfl rfl (fun v12 h12 => ?_)
    refine r_aIs g9.1 h12 rfl (p := 78) rfl rfl ha (by decide) (fun v13 _ e13 => ?_)
    refine r_gR g9.1 hx rfl rfl (fun v14 h14 => ?_)
    refine r_aIs g9.1 h14 rfl (p := 79) rfl rfl ha (by decide) (fun v15 _ e15 => ?_)
    refine r_val ?_
    rw [e13, k78, e15, k79, mulv v hv8 k (by omega)]
    refine r_gR g9.1 hx rfl rfl (fun v17 h17 => ?_)
    refine r_aI g9.1 h17 rfl rfl ha (by decide) (fun v18 _ => ?_)
    refine r_bIs (w' := [10082, 12700]) g9 h17 rfl (p := 82) rfl rfl ha (by decide) (fun _ _ _ q => by cases q) (fun _ => rfl) (by decide) (by decide +kernel) (fun _ => by unfold phc; omega) (fun S19 g19 e19 => ?_)
    have l19 : Rl T [12700] S9 0 0 T S19 := by
      rw [e19]
      obtain ⟨p1, p2, -⟩ := sgp g9.1 h17 (p := 82) rfl
      exact RlwI (Rlrf g9.1) (by rw [← e19]; exact g19.1) p1 (by omega) (by rw [cl_a (by decide)]; decide) (by unfold phc; omega)
    clear e19
    have hM19 := MI_fr hM9 l19 hx (by decide)
    have s19 : same5 S9 S19 := same5_Rl l19 hx (by decide)
    have f79 : ∀ b, sI S19 79 b = sI S9 79 b := fr80 l19 hx 124 79 24 rfl rfl (by decide) (by decide +kernel)
    have f78 : ∀ b, sI S19 78 b = sI S9 78 b := fr80 l19 hx 123 78 23 rfl rfl (by decide) (by decide +kernel)
    refine r_gR g19.1 hx rfl rfl (fun v20 h20 => ?_)
    refine r_aIs g19.1 h20 rfl (p := 75) rfl rfl ha (by decide) (fun v21 b21 _ => ?_)
    have q21 : In 0 5 v21 := b21 _ _ rfl
    refine r_gR g19.1 hx rfl rfl (fun v22 h22 => ?_)
    refine r_aIs g19.1 h22 rfl (p := 68) rfl rfl r1 (by decide) (fun v23 _ e23 => ?_)
    have kc19 : In 0 0 (sI S19 67 (Int32.ofNat (12 * v + k)).toNatClampNeg) := by rw [s19 67 _ (by omega)]; exact kc
    have q23 : In 0 2 v23 := SR_a0 hM19.1 r1 kc19 e23
    refine r_rv g19.1 hx rfl ?_
    refine r_b2 (t_M_answers g19.1 hx q21 q23 (phS hph g19 (by decide))) (fun v26 S25 h24 => ?_)
    obtain ⟨l25, -⟩ := h24
    have g25 : Rl T kw_an S 1 0 T S25 := Rltrans g19 l25 (by decide +kernel)
    have hM25 := MI_fr hM19 l25 hx (by decide)
    have s25 : same5 S19 S25 := same5_Rl l25 hx (by decide)
    have f78b : sI S25 78 a.toNatClampNeg = Int32.ofNat v := by rw [fr80 l25 hx 123 78 23 rfl rfl (by decide) (by decide +kernel), f78]; exact k78
    have s95 : same5 S9 S25 := fun p i hp => (s25 p i hp).trans (s19 p i hp)
    clear s19 s25 f79 f78 hM19 l19 l25 g19
    have go : ∀ (S' : AS), Rl T kw_an S 1 0 T S' → Rl T [12600, 12900] S25 0 0 T S' → ∀ y : Int32, (y = -1 ∨ ∃ t, t < n' ∧ y = Int32.ofNat t) → Ho ((f_M_go S' x a y).bind fun S37 => f_M_answer_B168 S37 x a) (fun q => Rl T kw_an S 1 0 T q.2 ∧ MI q.2) := by
      intro S' g' l' y hy
      have hM' := MI_fr hM25 l' hx (by decide)
      have s' : same5 S9 S' := fun p i hp => ((same5_Rl l' hx (by decide)) p i hp).trans (s95 p i hp)
      have h78' : sI S' 78 a.toNatClampNeg = Int32.ofNat v := by rw [fr80 l' hx 123 78 23 rfl rfl (by decide) (by decide +kernel)]; exact f78b
      have hv' : (v : Int) < (sI S' 57 9).toInt := by rw [s' 57 9 (by omega)]; exact kv
      have hn2 : (sI S' 66 v).toInt = (n' : Int) := by rw [s' 66 v (by omega)]; exact hn'
      obtain ⟨n1, hnx, ρ, hrk⟩ := hM'.2.1 v n' hv' hn2
      refine r_bind (t_M_go (v := v) (n := n') g'.1 hx ha (phS hph g' (by decide)) hM'.1 hv8 hn12 h78' hnx hrk hy) (fun S37 hq => ?_)
      have hM37 := MI_go hM' hx h78' hv' hn2 hq
      have g37 : Rl T kw_an S 1 0 T S37 := Rltrans g' hq.1 (by decide +kernel)
      obtain ⟨b, hb, l1, m1⟩ := an_B168 g37.1 hx ha hM37
      exact ⟨b, hb, Rltrans g37 l1 (by decide +kernel), m1⟩
    have nxt : ∀ y : Int32, (∀ S', same5 S9 S' → SR S' → In (-1) 11 y) → nx S9 (12 * v) k y.toNatClampNeg ∨ y.toInt < 0 → In (-1) 11 y → (y = -1 ∨ ∃ t, t < n' ∧ y = Int32.ofNat t) := by
      intro y _ h1 h2
      by_cases c : y.toInt < 0
      · exact Or.inl (Int32.toInt_inj.mp (by rw [show (-1 : Int32).toInt = -1 from by decide]; have := h2.1; omega))
      · rcases h1 with h1 | h1
        · obtain ⟨n1, hnx, -⟩ := hM9.2.1 v n' kv hn'
          have hnat2 := natI (i := y) (by omega)
          have := nxin_t hnx k1 (by rw [k67]; decide) h1
          exact Or.inr ⟨y.toNatClampNeg, this, ofNat_of hnat2.symm⟩
        · exact absurd h1 c
    refine r_if (fun _ => ?_) (fun _ => ?_)
    · refine r_gR g25.1 hx rfl rfl (fun v27 h27 => ?_)
      refine r_aI g25.1 h27 rfl rfl ha (by decide) (fun v28 _ => ?_)
      refine r_bIs (w' := kw_an) g25 h27 rfl (p := 81) rfl rfl ha (by decide) (fun _ _ _ q => by cases q) (fun _ => rfl) (by decide) (by decide +kernel) (fun _ => by unfold phc; omega) (fun S29 g29 e29 => ?_)
      have l29 : Rl T [12600, 12900] S25 0 0 T S29 := by
        rw [e29]
        obtain ⟨p1, p2, -⟩ := sgp g25.1 h27 (p := 81) rfl
        exact RlwI (Rlrf g25.1) (by rw [← e29]; exact g29.1) p1 (by omega) (by rw [cl_a (by decide)]; decide) (by unfold phc; omega)
      clear e29
      have s29 : same5 S9 S29 := fun p i hp => ((same5_Rl l29 hx (by decide)) p i hp).trans (s95 p i hp)
      have hM29 := MI_fr hM25 l29 hx (by decide)
      refine r_gR g29.1 hx rfl rfl (fun v30 h30 => ?_)
      refine r_aI g29.1 h30 rfl rfl ha (by decide) (fun v31 _ => ?_)
      refine r_gR g29.1 hx rfl rfl (fun v32 h32 => ?_)
      refine r_aI g29.1 h32 rfl rfl r1 (by decide) (fun v33 _ => ?_)
      refine r_if (fun _ => ?_) (fun _ => ?_)
      · refine r_gR g29.1 hx rfl rfl (fun v34 h34 => ?_)
        refine r_aIs g29.1 h34 rfl (p := 71) rfl rfl r1 (by decide) (fun v35 _ e35 => ?_)
        have kc29 : In 0 0 (sI S29 67 (Int32.ofNat (12 * v + k)).toNatClampNeg) := by rw [s29 67 _ (by omega)]; exact kc
        have r35 : In (-1) 11 v35 := SR_n hM29.1 r1 kc29 (by decide) e35
        refine r_rv g29.1 hx rfl ?_
        refine go S29 g29 l29 v35 (nxt v35 (fun _ _ _ => r35) ?_ r35)
        by_cases c : v35.toInt < 0
        · exact Or.inr c
        · refine Or.inl (Or.inr ?_)
          rw [natI (i := v35) (by omega), e35, r2, s29 71 _ (by omega)]
      · obtain ⟨b, hb, l1, m1⟩ := an_B168 g29.1 hx ha hM29
        exact ⟨b, hb, Rltrans g29 l1 (by decide +kernel), m1⟩
    · refine r_gR g25.1 hx rfl rfl (fun v38 h38 => ?_)
      refine r_gR g25.1 hx rfl rfl (fun v39 h39 => ?_)
      refine r_aIs g25.1 h39 rfl (p := 68) rfl rfl r1 (by decide) (fun v40 _ e40 => ?_)
      have kc25 : In 0 0 (sI S25 67 (Int32.ofNat (12 * v + k)).toNatClampNeg) := by rw [s95 67 _ (by omega)]; exact kc
      have q40 : In 0 2 v40 := SR_a0 hM25.1 r1 kc25 e40
      refine r_gIs g25.1 hx rfl (p := 57) rfl (fun v41 _ _ => ?_)
      obtain ⟨na, hna, rfl⟩ := ofNat_In (n := 59) ha
      obtain ⟨nb, hnb, rfl⟩ := ofNat_In (n := 2) q40
      refine r_bIs (w' := kw_an) g25 h38 rfl (p := 84) rfl rfl (mul3 na (by omega) nb (by omega)) (by decide) (fun _ _ _ q => by cases q) (fun _ => rfl) (by decide) (by decide +kernel) (fun _ => by unfold phc; omega) (fun S42 g42 e42 => ?_)
      have l42 : Rl T [12600, 12900] S25 0 0 T S42 := by
        rw [e42]
        obtain ⟨p1, p2, -⟩ := sgp g25.1 h38 (p := 84) rfl
        exact RlwI (Rlrf g25.1) (by rw [← e42]; exact g42.1) p1 (by omega) (by rw [cl_a (by decide)]; decide) (by unfold phc; omega)
      clear e42
      have s42 : same5 S9 S42 := fun p i hp => ((same5_Rl l42 hx (by decide)) p i hp).trans (s95 p i hp)
      have hM42 := MI_fr hM25 l42 hx (by decide)
      refine r_gR g42.1 hx rfl rfl (fun v43 h43 => ?_)
      refine r_aIs g42.1 h43 rfl (p := 70) rfl rfl r1 (by decide) (fun v44 _ e44 => ?_)
      have kc42 : In 0 0 (sI S42 67 (Int32.ofNat (12 * v + k)).toNatClampNeg) := by rw [s42 67 _ (by omega)]; exact kc
      have r44 : In (-1) 11 v44 := SR_y hM42.1 r1 kc42 (by decide) e44
      refine r_rv g42.1 hx rfl ?_
      refine go S42 g42 l42 v44 (nxt v44 (fun _ _ _ => r44) ?_ r44)
      by_cases c : v44.toInt < 0
      · exact Or.inr c
      · refine Or.inl (Or.inl ?_)
        rw [natI (i := v44) (by omega), e44, r2, s42 70 _ (by omega)]
  · refine r_ifT rfl (r_some ⟨Rlweak g9 (by decide +kernel) (by decide) (by decide), MI_fr hM g9 hx (by decide)⟩)
theorem t_M_answer {T : Nat → Nat} {S : AS} (hT : TI T S) {x : Option Nat} {a x2 x3 : Int32} (hx : Tx T 100 x) (hph : Ph S ≤ 1100) (hM : MI S) : Ho (f_M_answer S x a x2 x3) (fun q => Rl T kw_an S 1 0 T q.2 ∧ MI q.2) := by
  have key : ∀ v49 v51 : Int32, (¬ v49 = 0 → In 0 59 a ∧ a.toInt < (sI S 57 19).toInt) → Ho (if v49 = 0 then f_M_answer_B36 S x a x2 x3 x v49 v51 else (gR S 39 25 x).bind fun v52 => (aI S 46 v52 a).bind fun v53 => if v53 = 0 then f_M_answer_B37 S x a x2 x3 x v49 v51 (1 : Int32) else f_M_answer_B36 S x a x2 x3 x v49 v51) (fun q => Rl T kw_an S 1 0 T q.2 ∧ MI q.2) := by
    intro v49 v51 h
    have b36 : Ho (f_M_answer_B36 S x a x2 x3 x v49 v51) (fun q => Rl T kw_an S 1 0 T q.2 ∧ MI q.2) := by
      unfold f_M_answer_B36
      exact an_B37 hT hx hph hM (fun _ _ q => absurd rfl q)
    refine r_if (fun _ => b36) (fun c => ?_)
    obtain ⟨ha, hlt⟩ := h c
    refine r_gR hT hx rfl rfl (fun v52 h52 => ?_)
    refine r_aIs hT h52 rfl (p := 80) rfl rfl ha (by decide) (fun v53 _ e53 => ?_)
    refine r_if (fun c0 => ?_) (fun _ => b36)
    exact an_B37 hT hx hph hM (fun _ _ _ => ⟨ha, hlt, by rw [← e53]; exact c0⟩)
  unfold f_M_answer
  refine r_rv hT hx rfl ?_
  refine r_spl (u_isAttempt hT hx) (fun h => ?_) ?_
  · refine r_Mi (fun _ _ => ?_) ?_
    · exact key 1 1 (fun _ => h)
    · exact key 1 0 (fun _ => h)
  · refine r_Mi (fun _ _ => ?_) ?_
    · exact key 0 1 (fun q => absurd rfl q)
    · exact key 0 0 (fun q => absurd rfl q)
theorem t_M_asked {T : Nat → Nat} {S : AS} (hT : TI T S) {x : Option Nat} {a : Int32} (hx : Tx T 100 x) (hM : MI S) : Ho (f_M_asked S x a) (fun q => Rl T [10082] S 0 0 T q.2 ∧ MI q.2) := by
  have g0 := Rlrf hT
  have key : ∀ y : Int32, In 0 1 y → (¬ y = 0 → In 0 59 a ∧ a.toInt < (sI S 57 19).toInt) → Ho ((kr_rv S 39 x).bind fun _ => kr_b2 (f_M_may S x y) fun v6 S5 => if v6 = 0 then some ((0 : Int32), S5) else (gR S5 39 25 x).bind fun v7 => (aI S5 46 v7 a).bind fun v8 => if v8 = 0 then (gR S5 39 12 x).bind fun v9 => (gR S5 39 23 x).bind fun v10 => (aI S5 46 v10 a).bind fun v11 => (gR S5 39 24 x).bind fun v12 => (aI S5 46 v12 a).bind fun v13 => (aI S5 46 v9 (((12 : Int32) * v11) + v13)).bind fun v14 => some (v14, S5) else some ((-1 : Int32), S5)) (fun q => Rl T [10082] S 0 0 T q.2 ∧ MI q.2) := by
    intro y hy h
    refine r_rv hT hx rfl ?_
    refine r_may (w' := [10082]) g0 hx hy (by decide +kernel) (fun S9 g9 f9 c => ?_) (fun S9 g9 _ => r_ifT rfl (r_some ⟨g9, MI_fr hM g9 hx (by decide)⟩))
    obtain ⟨ha, hlt⟩ := h c
    have hM9 := MI_fr hM g9 hx (by decide)
    refine r_ifF (by decide) ?_
    refine r_gR g9.1 hx rfl rfl (fun v7 h7 => ?_)
    refine r_aIs g9.1 h7 rfl (p := 80) rfl rfl ha (by decide) (fun v8 _ e8 => ?_)
    refine r_if (fun c0 => ?_) (fun _ => r_some ⟨g9, hM9⟩)
    have hnat := natI ha.1
    obtain ⟨v, n, k78, kv, kn, kk⟩ := hM9.2.2.1 a.toNatClampNeg (by rw [f9 57 19 (by omega), hnat]; exact hlt)
    obtain ⟨k, k1, k79, k67⟩ := kk (by rw [← e8]; exact c0)
    obtain ⟨nv, hnv, hnv8⟩ := fld g9.1 hx (j := 9) (b := 8) rfl
    obtain ⟨n', hn', hn12⟩ := steps_n g9.1 hx (v := v) (by omega)
    have hnn : n' = n := by omega
    subst hnn
    obtain ⟨r1, r2⟩ := ri (n := 12 * v + k) (by omega)
    refine r_gR g9.1 hx rfl rfl (fun v9 h9 => ?_)
    refine r_gR g9.1 hx rfl rfl (fun v10 h10 => ?_)
    refine r_aIs g9.1 h10 rfl (p := 78) rfl rfl ha (by decide) (fun v11 _ e11 => ?_)
    refine r_gR g9.1 hx rfl rfl (fun v12 h12 => ?_)
    refine r_aIs g9.1 h12 rfl (p := 79) rfl rfl ha (by decide) (fun v13 _ e13 => ?_)
    rw [e11, k78, e13, k79, mulv v (by omega) k (by omega)]
    exact r_aI g9.1 h9 rfl rfl r1 (by decide) (fun v14 _ => r_some ⟨g9, hM9⟩)
  unfold f_M_asked
  refine r_rv hT hx rfl ?_
  exact r_spl (u_isAttempt hT hx) (fun h => key 1 (by decide) (fun _ => h)) (key 0 (by decide) (fun q => absurd rfl q))
