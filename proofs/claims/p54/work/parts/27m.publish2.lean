/-! ===== publish: the rows are copied ===== -/
theorem mulv : ∀ v, v < 8 → ∀ j, j < 12 → (12 : Int32) * Int32.ofNat v + Int32.ofNat j = Int32.ofNat (12 * v + j) := by decide +kernel
theorem ri {n : Nat} (h : n < 108) : In 0 107 (Int32.ofNat n) ∧ (Int32.ofNat n).toNatClampNeg = n := ⟨⟨by rw [(gl2 n (by omega)).1]; omega, by rw [(gl2 n (by omega)).1]; omega⟩, (gl2 n (by omega)).2⟩
theorem cp_step {β : Type} {T0 T : Nat → Nat} {w w' : List Nat} {S0 S : AS} {c s fj : Nat} (τ p : Nat) {x : Option Nat} {v j : Nat} {F : AS → Option β} {Q : β → Prop} (hR : Rl T0 w S0 c s T S) (hx : Tx T 100 x) (hf : ft 100 fj = some τ) (hk : kd τ = 46) (hs : sg τ = some p) (hl : ln τ = some 108) (hz : ∀ j, rf τ j = none) (hnl : ¬ (20 ≤ τ ∧ τ < 27)) (hp : ∀ j, ¬ phc τ j) (hw : ∀ x ∈ cl τ 0 :: w, x ∈ w') (hv : v < 8) (hj : j < 12) (hra : ∀ n lo hi, ra τ = some (n, lo, hi) → n = 108) (h : ∀ S', Rl T0 w' S0 c s T S' → S' = wI S p (12 * v + j) (sI S p (96 + j)) → Ho (F S') Q) :
    Ho ((gR S 39 fj x).bind fun v17 => (gR S 39 fj x).bind fun v18 => (aI S 46 v18 ((96 : Int32) + Int32.ofNat j)).bind fun v19 => (bI S v17 (Int32.ofNat (12 * v + j)) v19 46).bind F) Q := by
  have hix : In 0 107 ((96 : Int32) + Int32.ofNat j) := ⟨by rw [(i96 hj).1]; omega, by rw [(i96 hj).1]; omega⟩
  obtain ⟨r1, r2⟩ := ri (n := 12 * v + j) (by omega)
  refine r_gR hR.1 hx rfl hf (fun v17 g17 => ?_)
  refine r_gR hR.1 hx rfl hf (fun v18 g18 => ?_)
  refine r_aIs hR.1 g18 hk hs hl hix (by decide) (fun v19 h19 e19 => ?_)
  rw [(i96 hj).2] at e19
  refine r_bIs hR g17 hk hs hl r1 (by decide) (fun n lo hi q => h19 lo hi (by rw [← hra n lo hi q]; exact q)) hz hnl hw hp (fun S' g e => h S' g ?_)
  rw [e, r2, e19]
def CP (Sb S : AS) (v j : Nat) : Prop := ∀ p i, sI S p i = if (67 ≤ p ∧ p ≤ 71) ∧ 12 * v ≤ i ∧ i < 12 * v + j then sI Sb p (96 + (i - 12 * v)) else sI Sb p i
def kw_pub : List Nat := [10009, 11000, 11100, 11200, 11300, 11400, 11500]
/-- what publish leaves, said cell by cell -/
def PUBS (Sb S : AS) (v n : Nat) : Prop := ∀ p i, sI S p i = if p = 57 ∧ i = 9 then Int32.ofNat (v + 1) else if p = 66 ∧ i = 8 then 0 else if p = 66 ∧ i = v then Int32.ofNat n else if (67 ≤ p ∧ p ≤ 71) ∧ 12 * v ≤ i ∧ i < 12 * v + n then sI Sb p (96 + (i - 12 * v)) else sI Sb p i
theorem sI_if (S : AS) (k j : Nat) (v : Int32) (a b : Nat) : sI (wI S k j v) a b = if a = k ∧ b = j then v else sI S a b := rfl
theorem pb_L165 {T : Nat → Nat} {S0 Sb : AS} {w : List Nat} {x : Option Nat} (hx : Tx T 100 x) {n v : Nat} (hn : n ≤ 12) (hv : v < 8) (hs8 : (sI Sb 66 8).toInt = (n : Int)) (hvv : sI Sb 57 9 = Int32.ofNat v) (hw : ∀ z ∈ kw_pub, z ∈ w) {Q : Int32 × AS → Prop}
    (hQ : ∀ S', Rl T w S0 0 0 T S' → PUBS Sb S' v n → Q (Int32.ofNat v, S')) :
    ∀ m j fu, j + m = n → m < fu → ∀ S, Rl T w S0 0 0 T S → CP Sb S v j → Ho (f_M_publish_L165 fu S x (Int32.ofNat j)) Q := by
  intro m
  induction m with
  | zero =>
    intro j fu h1 h2 S hR hc
    obtain ⟨fu, rfl⟩ : ∃ g, fu = g + 1 := ⟨fu - 1, by omega⟩
    have hj : j = n := by omega
    subst hj
    have c66 : ∀ i, sI S 66 i = sI Sb 66 i := fun i => (hc 66 i).trans (if_neg (by omega))
    have c57 : ∀ i, sI S 57 i = sI Sb 57 i := fun i => (hc 57 i).trans (if_neg (by omega))
    have e9 : sI S 57 9 = Int32.ofNat v := (c57 9).trans hvv
    show Ho (f_M_publish_C165 _ _ _ _) Q
    unfold f_M_publish_C165
    refine rd8 hR.1 hx (by rw [c66]; exact hs8) (r_ifT (Int32.le_refl _) ?_)
    refine r_gR hR.1 hx rfl rfl (fun v5 g5 => ?_)
    refine r_gIs hR.1 hx rfl (p := 57) rfl (fun v6 _ e6 => ?_)
    have e6' : v6 = Int32.ofNat v := e6.trans e9
    refine rd8 hR.1 hx (by rw [c66]; exact hs8) ?_
    have r6 : In 0 8 v6 := by rw [e6']; exact ⟨by rw [(gl2 v (by omega)).1]; omega, by rw [(gl2 v (by omega)).1]; omega⟩
    refine r_bIs (w' := w) (p := 66) hR g5 rfl rfl rfl r6 (by decide) (fun _ _ _ q => by cases q; exact ⟨by rw [(gl2 j (by omega)).1]; omega, by rw [(gl2 j (by omega)).1]; omega⟩) (fun _ => rfl) (by decide) (fun z hz => by
      rcases List.mem_cons.mp hz with hz | hz
      · rw [hz]; exact hw _ (by decide)
      · exact hz) (fun _ => by unfold phc; omega) (fun S2 R2 E2 => ?_)
    rw [e6', (gl2 v (by omega)).2] at E2
    refine r_gR R2.1 hx rfl rfl (fun v10 g10 => ?_)
    refine r_bIs (w' := w) (p := 66) R2 g10 rfl rfl rfl (by decide : In 0 8 (8 : Int32)) (by decide) (fun _ _ _ q => by cases q; decide) (fun _ => rfl) (by decide) (fun z hz => by
      rcases List.mem_cons.mp hz with hz | hz
      · rw [hz]; exact hw _ (by decide)
      · exact hz) (fun _ => by unfold phc; omega) (fun S3 R3 E3 => ?_)
    rw [toNat8] at E3
    refine r_gIs R3.1 hx rfl (p := 57) rfl (fun v12 _ e12 => ?_)
    have e12' : v12 = Int32.ofNat v := by
      rw [e12, E3, E2, ti_sI_ne (by omega), ti_sI_ne (by omega)]
      exact e9
    have e13 : v12 + (1 : Int32) = Int32.ofNat (v + 1) := by
      rw [e12']
      exact (Int32.ofNat_add v 1).symm
    rw [e13]
    refine r_pIs (w' := w) R3 hx (fun _ _ q => by cases q; exact ⟨by rw [(gl2 (v + 1) (by omega)).1]; omega, by rw [(gl2 (v + 1) (by omega)).1]; omega⟩) (fun z hz => by
      rcases List.mem_cons.mp hz with hz | hz
      · rw [hz]; exact hw _ (by decide)
      · exact hz) (by unfold phc; decide) (fun S4 R4 E4 => ?_)
    refine r_gIs R4.1 hx rfl (p := 57) rfl (fun v14 _ e14 => ?_)
    have e15 : v14 - (1 : Int32) = Int32.ofNat v := by
      rw [e14, E4, ti_sI_eq]
      have : ∀ v, v < 8 → Int32.ofNat (v + 1) - (1 : Int32) = Int32.ofNat v := by decide +kernel
      exact this v hv
    rw [e15]
    refine r_some (hQ S4 R4 ?_)
    intro p i
    rw [E4, sI_if, E3, sI_if, E2, sI_if, hc]
  | succ m ih =>
    intro j fu h1 h2 S hR hc
    obtain ⟨fu, rfl⟩ : ∃ g, fu = g + 1 := ⟨fu - 1, by omega⟩
    have hj : j < 12 := by omega
    have e1 : Int32.ofNat j + (1 : Int32) = Int32.ofNat (j + 1) := (Int32.ofNat_add j 1).symm
    have c66 : ∀ i, sI S 66 i = sI Sb 66 i := fun i => (hc 66 i).trans (if_neg (by omega))
    have c57 : ∀ i, sI S 57 i = sI Sb 57 i := fun i => (hc 57 i).trans (if_neg (by omega))
    have e9 : sI S 57 9 = Int32.ofNat v := (c57 9).trans hvv
    show Ho (f_M_publish_C165 _ _ _ _) Q
    unfold f_M_publish_C165
    refine rd8 hR.1 hx (by rw [c66]; exact hs8) (r_ifF (fun q => by have := (le_n (by omega) (by omega)).mp q; omega) ?_)
    refine r_gIs hR.1 hx rfl (p := 57) rfl (fun v15 _ e15 => ?_)
    refine r_val ?_
    rw [e15, e9, mulv v hv j hj]
    have hin : ∀ (τ : Nat), cl τ 0 ∈ kw_pub → ∀ z ∈ cl τ 0 :: w, z ∈ w := fun τ hτ z hz => by
      rcases List.mem_cons.mp hz with hz | hz
      · rw [hz]; exact hw _ hτ
      · exact hz
    refine cp_step 111 67 hR hx rfl rfl rfl rfl (fun _ => rfl) (by decide) (fun _ => by unfold phc; omega) (hin 111 (by decide)) hv hj (fun _ _ _ q => by cases q; rfl) (fun S1 R1 E1 => ?_)
    refine cp_step 112 68 R1 hx rfl rfl rfl rfl (fun _ => rfl) (by decide) (fun _ => by unfold phc; omega) (hin 112 (by decide)) hv hj (fun _ _ _ q => by cases q; rfl) (fun S2 R2 E2 => ?_)
    refine cp_step 113 69 R2 hx rfl rfl rfl rfl (fun _ => rfl) (by decide) (fun _ => by unfold phc; omega) (hin 113 (by decide)) hv hj (fun _ _ _ q => by cases q) (fun S3 R3 E3 => ?_)
    refine cp_step 114 70 R3 hx rfl rfl rfl rfl (fun _ => rfl) (by decide) (fun _ => by unfold phc; omega) (hin 114 (by decide)) hv hj (fun _ _ _ q => by cases q) (fun S4 R4 E4 => ?_)
    refine cp_step 115 71 R4 hx rfl rfl rfl rfl (fun _ => rfl) (by decide) (fun _ => by unfold phc; omega) (hin 115 (by decide)) hv hj (fun _ _ _ q => by cases q) (fun S5 R5 E5 => ?_)
    refine r_val ?_
    rw [e1]
    refine ih (j + 1) fu (by omega) (by omega) S5 R5 ?_
    have b1 : sI S1 68 (96 + j) = sI S 68 (96 + j) := by rw [E1, ti_sI_ne (by omega)]
    have b2 : sI S2 69 (96 + j) = sI S 69 (96 + j) := by rw [E2, ti_sI_ne (by omega), E1, ti_sI_ne (by omega)]
    have b3 : sI S3 70 (96 + j) = sI S 70 (96 + j) := by rw [E3, ti_sI_ne (by omega), E2, ti_sI_ne (by omega), E1, ti_sI_ne (by omega)]
    have b4 : sI S4 71 (96 + j) = sI S 71 (96 + j) := by rw [E4, ti_sI_ne (by omega), E3, ti_sI_ne (by omega), E2, ti_sI_ne (by omega), E1, ti_sI_ne (by omega)]
    rw [b1] at E2
    rw [b2] at E3
    rw [b3] at E4
    rw [b4] at E5
    have q1 : ∀ p i, sI S5 p i = if (67 ≤ p ∧ p ≤ 71) ∧ i = 12 * v + j then sI S p (96 + j) else sI S p i := by
      intro p i
      rw [E5, sI_if, E4, sI_if, E3, sI_if, E2, sI_if, E1, sI_if]
      by_cases ci : i = 12 * v + j
      · by_cases c1 : p = 71
        · rw [if_pos ⟨c1, ci⟩, if_pos ⟨by omega, ci⟩, c1]
        · by_cases c2 : p = 70
          · rw [if_neg (by omega), if_pos ⟨c2, ci⟩, if_pos ⟨by omega, ci⟩, c2]
          · by_cases c3 : p = 69
            · rw [if_neg (by omega), if_neg (by omega), if_pos ⟨c3, ci⟩, if_pos ⟨by omega, ci⟩, c3]
            · by_cases c4 : p = 68
              · rw [if_neg (by omega), if_neg (by omega), if_neg (by omega), if_pos ⟨c4, ci⟩, if_pos ⟨by omega, ci⟩, c4]
              · by_cases c5 : p = 67
                · rw [if_neg (by omega), if_neg (by omega), if_neg (by omega), if_neg (by omega), if_pos ⟨c5, ci⟩, if_pos ⟨by omega, ci⟩, c5]
                · rw [if_neg (by omega), if_neg (by omega), if_neg (by omega), if_neg (by omega), if_neg (by omega), if_neg (by omega)]
      · rw [if_neg (by omega), if_neg (by omega), if_neg (by omega), if_neg (by omega), if_neg (by omega), if_neg (by omega)]
    intro p i
    rw [q1]
    by_cases ci : (67 ≤ p ∧ p ≤ 71) ∧ i = 12 * v + j
    · rw [if_pos ci, hc, if_neg (by omega), if_pos (by omega)]
      rw [ci.2]
      congr 1
      omega
    · rw [if_neg ci, hc]
      by_cases cd : (67 ≤ p ∧ p ≤ 71) ∧ 12 * v ≤ i ∧ i < 12 * v + j
      · rw [if_pos cd, if_pos (by omega)]
      · rw [if_neg cd, if_neg (by omega)]
/-- what publish answers and leaves -/
theorem t_M_publish {T : Nat → Nat} {S : AS} {x : Option Nat} (hT : TI T S) (hx : Tx T 100 x) (hsr : SR S) {n v : Nat} (hn : n ≤ 12) (hs8 : (sI S 66 8).toInt = (n : Int)) (hv : sI S 57 9 = Int32.ofNat v) (hv8 : v ≤ 8) :
    Ho (f_M_publish S x) (fun q => Rl T (10082 :: kw_pub) S 0 0 T q.2 ∧ ((PUB S n ∧ q.1 = Int32.ofNat v ∧ PUBS (wI S 57 82 0) q.2 v n) ∨ (¬ PUB S n ∧ q = (0, wI S 57 82 1)))) := by
  have g0 : Rl T (10082 :: kw_pub) S 0 0 T S := Rlweak (Rlrf hT) (fun z hz => by cases hz) (Nat.le_refl _) (Nat.le_refl _)
  have hv9 : (sI S 57 9).toInt = (v : Int) := by rw [hv, (gl2 v (by omega)).1]
  have fin : ∀ (F0 : Prop), (F0 ↔ 0 < n ∧ v < 8) → ∀ y, In 0 1 y → (y = 1 ↔ (F0 ∧ nxin S 96 n) ∧ ∀ k, k < n → te S 96 k → ∃ R, circ S n k 0 R) → Ho (f_M_publish_B153 S x y) (fun q => Rl T (10082 :: kw_pub) S 0 0 T q.2 ∧ ((PUB S n ∧ q.1 = Int32.ofNat v ∧ PUBS (wI S 57 82 0) q.2 v n) ∨ (¬ PUB S n ∧ q = (0, wI S 57 82 1)))) := by
    intro F0 hF y hy hd
    have hP : y = 1 ↔ PUB S n := by
      rw [hd]
      unfold PUB
      constructor
      · rintro ⟨⟨a, b⟩, c⟩
        exact ⟨(hF.mp a).1, by rw [hv9]; have := (hF.mp a).2; omega, b, rank_of hn b c⟩
      · rintro ⟨a, b, c, ρ, hρ⟩
        rw [hv9] at b
        refine ⟨⟨hF.mpr ⟨a, by omega⟩, c⟩, fun k hk hkt => ?_⟩
        obtain ⟨⟨b', S'⟩, -, -, R, hR⟩ := t_circ hT hx hsr hn hs8 (f := k) (by omega)
        have := rank_no hρ hkt hR
        exact ⟨R, by rw [← this]; exact hR⟩
    unfold f_M_publish_B153
    refine r_rv hT hx rfl ?_
    unfold f_M_may
    by_cases c : y = 0
    · rw [if_pos c]
      have hnp : ¬ PUB S n := fun q => by
        have := hP.mpr q
        rw [c] at this
        exact absurd this (by decide)
      refine r_b2 (P := fun q => q.1 = 0 ∧ q.2 = wI S 57 82 1 ∧ Rl T (10082 :: kw_pub) S 0 0 T q.2) (r_thr (w' := 10082 :: kw_pub) g0 hx (by decide +kernel) (fun g => r_z hy (r_some ⟨c, rfl, g⟩))) (fun v' S' hh => ?_)
      obtain ⟨e1, e2, g⟩ := hh
      cases e1
      cases e2
      exact r_ifT rfl (r_some ⟨g, Or.inr ⟨hnp, rfl⟩⟩)
    · rw [if_neg c]
      have y1 : y = 1 := by
        rcases In01 hy with q | q
        · exact absurd q c
        · exact q
      have hp := hP.mp y1
      refine r_b2 (P := fun q => q.1 = 1 ∧ q.2 = wI S 57 82 0 ∧ Rl T (10082 :: kw_pub) S 0 0 T q.2) (r_thr (w' := 10082 :: kw_pub) g0 hx (by decide +kernel) (fun g => r_z hy (r_some ⟨y1, rfl, g⟩))) (fun v' S' hh => ?_)
      obtain ⟨e1, e2, g⟩ := hh
      cases e1
      cases e2
      refine r_ifF (by decide) ?_
      have hv7 : v < 8 := by
        have := hp.2.1
        omega
      refine pb_L165 (Sb := wI S 57 82 0) hx hn hv7 (by rw [ti_sI_ne (by omega)]; exact hs8) (by rw [ti_sI_ne (by omega)]; exact hv) (fun z hz => List.mem_cons_of_mem _ hz) (fun S' g' hp' => ⟨g', Or.inl ⟨hp, rfl, hp'⟩⟩) n 0 kr_FU (by omega) (by show n < 2000; omega) _ g (fun p i => ?_)
      rw [if_neg (by omega)]
      rfl
  unfold f_M_publish
  refine rd8 hT hx hs8 ?_
  have st : ∀ y, In 0 1 y → (y = 1 ↔ 0 < n ∧ v < 8) → Ho (f_M_publish_B24 S x y) (fun q => Rl T (10082 :: kw_pub) S 0 0 T q.2 ∧ ((PUB S n ∧ q.1 = Int32.ofNat v ∧ PUBS (wI S 57 82 0) q.2 v n) ∨ (¬ PUB S n ∧ q = (0, wI S 57 82 1)))) := by
    intro y hy hd
    unfold f_M_publish_B24
    exact pb_L27 hT hx hsr hn hs8 (F0 := 0 < n ∧ v < 8) (fin _ Iff.rfl) n 0 kr_FU (by omega) (by show n < 2000; omega) y hy (by rw [hd]; exact ⟨fun q => ⟨q, fun k hk => absurd hk (Nat.not_lt_zero _)⟩, fun q => q.1⟩)
  by_cases c0 : Int32.ofNat n ≤ 0
  · rw [if_pos c0]
    unfold f_M_publish_B23
    have : n = 0 := by
      have := Int32.le_iff_toInt_le.mp c0
      rw [(gl2 n (by omega)).1, show (0 : Int32).toInt = 0 from by decide] at this
      omega
    exact st 0 (by decide) ⟨fun q => absurd q (by decide), fun q => by omega⟩
  · rw [if_neg c0]
    have n0 : 0 < n := by
      refine Nat.pos_of_ne_zero (fun q => c0 ?_)
      rw [q]
      decide
    refine r_gIs hT hx rfl (p := 57) rfl (fun v65 _ e65 => ?_)
    rw [e65, hv]
    by_cases c8 : (8 : Int32) ≤ Int32.ofNat v
    · rw [if_pos c8]
      unfold f_M_publish_B23
      have := Int32.le_iff_toInt_le.mp c8
      rw [(gl2 v (by omega)).1, show (8 : Int32).toInt = 8 from by decide] at this
      exact st 0 (by decide) ⟨fun q => absurd q (by decide), fun q => by omega⟩
    · rw [if_neg c8]
      have h8 : v < 8 := by
        refine Nat.not_le.mp (fun q => c8 (Int32.le_iff_toInt_le.mpr ?_))
        rw [(gl2 v (by omega)).1, show (8 : Int32).toInt = 8 from by decide]
        omega
      exact st 1 (by decide) ⟨fun _ => ⟨n0, h8⟩, fun _ => rfl⟩
