/-! ===== an answer for a factor ===== -/
section
variable {S m : AS}
theorem g_note {p : Nat} (r127 : Rw S 127 14) (r129 : Rw S 129 36) (hmf : MF m) (now : lNow S m) (wr : lWrg S m) (p3 : p < 3) : HW (f_W_answers_B165 S (some 127) (some 129) (Int32.ofNat p)) (f_M_answers_B118 m (some 57) (Int32.ofNat p))
    (fun a b => a.1 = 0 ∧ b.1 = 0 ∧ LF S a.2 ∧ (∀ q j, ¬ (q = 129 ∧ 12 * p + 7 ≤ j ∧ j < 12 * p + 10) → sI a.2 q j = sI S q j) ∧ (sR b.2 = sR m ∧ sL b.2 = sL m ∧ ∀ q j, q ≠ 61 → sI b.2 q j = sI m q j) ∧ lWrg a.2 b.2) := by
  have hx : Ho (f_W_answers_B165 S (some 127) (some 129) (Int32.ofNat p)) (fun a => a = (0, wI (wI (wI S 129 (12 * p + 7) (sI S 129 (12 * p + 8))) 129 (12 * p + 8) (sI S 129 (12 * p + 9))) 129 (12 * p + 9) (sI S 127 0 + 1))) := by
    unfold f_W_answers_B165
    refine o_aI r129 (n := 12 * p + 8) (wix 12 p 8) (by omega) (o_bI r129 (n := 12 * p + 7) (wix 12 p 7) (by omega) ?_)
    refine o_aIe r129.w (n := 12 * p + 9) (wix 12 p 9) (by omega) (ti_sI_ne (by omega)) (o_bI r129.w (n := 12 * p + 8) (wix 12 p 8) (by omega) ?_)
    refine o_aIe r127.w.w (n := 0) rfl (by decide) ((ti_sI_ne (by omega)).trans (ti_sI_ne (by omega))) (o_bI r129.w.w (n := 12 * p + 9) (wix 12 p 9) (by omega) (r_some rfl))
  refine w_sep hx (p_noteM hmf (i := p) (by omega)) (fun a b e g => ?_)
  obtain ⟨g1, ⟨g2, g3⟩, g4, g5, g6, g7⟩ := g
  subst e
  refine ⟨rfl, g1, LF_w (LF_w (LF_w (LF_rf S) (by decide)) (by decide)) (by decide), fun q j z => ?_, ⟨g2, g3, fun q j z => g7 q j (fun y => z y.1)⟩, fun q hq k hk => ?_⟩
  · show sI (wI (wI (wI S _ _ _) _ _ _) _ _ _) q j = _
    rw [ti_sI_ne (by omega), ti_sI_ne (by omega), ti_sI_ne (by omega)]
  · show (sI (wI (wI (wI S 129 (12 * p + 7) (sI S 129 (12 * p + 8))) 129 (12 * p + 8) (sI S 129 (12 * p + 9))) 129 (12 * p + 9) (sI S 127 0 + 1)) 129 (12 * q + 7 + k) = 0 ∧ sI b.2 61 (3 * q + k) = -1000) ∨ (sI (wI (wI (wI S 129 (12 * p + 7) (sI S 129 (12 * p + 8))) 129 (12 * p + 8) (sI S 129 (12 * p + 9))) 129 (12 * p + 9) (sI S 127 0 + 1)) 129 (12 * q + 7 + k) = sI b.2 61 (3 * q + k) + 1 ∧ mi (sI b.2 61 (3 * q + k)))
    by_cases c : q = p
    · subst c
      have k3 : k = 0 ∨ k = 1 ∨ k = 2 := by omega
      rcases k3 with rfl | rfl | rfl
      · have h := wr q hq 1 (by decide)
        rw [show 12 * q + 7 + 0 = 12 * q + 7 from rfl, show 3 * q + 0 = 3 * q from rfl, ti_sI_ne (by omega), ti_sI_ne (by omega), ti_sI_eq, g6]
        exact h
      · have h := wr q hq 2 (by decide)
        rw [show 12 * q + 7 + 1 = 12 * q + 8 from rfl, ti_sI_ne (by omega), ti_sI_eq, g5]
        exact h
      · rw [show 12 * q + 7 + 2 = 12 * q + 9 from rfl, ti_sI_eq, g4, now.1]
        exact Or.inr ⟨rfl, now.2⟩
    · rw [ti_sI_ne (by omega), ti_sI_ne (by omega), ti_sI_ne (by omega), g7 61 _ (by omega)]
      exact wr q hq k hk
/-- what an answer leaves -/
def AWQ (p : Nat) (S m S' m' : AS) : Prop := LF S S' ∧ (∀ q j, ¬ (q = 127 ∧ (j = 9 ∨ j = 10)) → ¬ (q = 129 ∧ 12 * p ≤ j ∧ j < 12 * p + 10) → sI S' q j = sI S q j) ∧
  (sR m' = sR m ∧ sL m' = sL m ∧ ∀ q j, ¬ (q = 58 ∨ q = 59 ∨ q = 60 ∨ q = 61 ∨ q = 123 ∨ q = 124 ∨ q = 125) → ¬ (q = 57 ∧ (j = 77 ∨ j = 81)) → sI m' q j = sI m q j) ∧ lFac S' m' ∧ lWrg S' m' ∧ lAud S' m'
theorem lFac_set {p f : Nat} {S' m' : AS} (h : lFac S m) (p3 : p < 3) (f3 : f < 3) (a1 : sV 3 (sI S' 129 (12 * p + f)) (sI m' 58 (3 * p + f))) (a2 : sI S' 129 (12 * p + f + 3) = sI m' 59 (3 * p + f)) (a3 : sI S' 129 (12 * p + 6) = sI m' 60 p)
    (oS : ∀ j, j % 12 < 7 → ¬ (j = 12 * p + f ∨ j = 12 * p + f + 3 ∨ j = 12 * p + 6) → sI S' 129 j = sI S 129 j) (oM : ∀ j, j ≠ 3 * p + f → sI m' 58 j = sI m 58 j ∧ sI m' 59 j = sI m 59 j) (oM2 : ∀ j, j ≠ p → sI m' 60 j = sI m 60 j) : lFac S' m' := fun q hq => by
  obtain ⟨h1, h2⟩ := h q hq
  refine ⟨fun g hg => ?_, ?_⟩
  · by_cases c : q = p ∧ g = f
    · rw [c.1, c.2]
      exact ⟨a1, a2⟩
    · obtain ⟨o1, o2⟩ := oM (3 * q + g) (by omega)
      rw [oS _ (by omega) (by omega), oS _ (by omega) (by omega), o1, o2]
      exact h1 g hg
  · by_cases c : q = p
    · rw [c]
      exact a3
    · rw [oS _ (by omega) (by omega), oM2 q c]
      exact h2
theorem g_answers {p f : Nat} {r v : Int32} (r127 : Rw S 127 14) (r129 : Rw S 129 36) (hmf : MF m) (now : lNow S m) (au : lAud S m) (fac : lFac S m) (wr : lWrg S m) (p3 : p < 3) (f3 : f < 3) : HW (f_W_answers S (some 127) (some 129) (Int32.ofNat p) (Int32.ofNat f) r v) (f_M_answers m (some 57) (Int32.ofNat p) (Int32.ofNat f) r v)
    (fun a b => a.1 = b.1 ∧ (a.1 = 0 ∨ a.1 = 1) ∧ AWQ p S m a.2 b.2) := by
  obtain ⟨fq, fc⟩ := fac p p3
  obtain ⟨⟨st, st3, s1, s2⟩, s3⟩ := fq f f3
  have ja : (3 * p + f : Nat) < 300 := by omega
  have jx : (Int32.ofNat (3 * p + f)).toNatClampNeg = 3 * p + f := oc (by omega)
  have jp : (Int32.ofNat p).toNatClampNeg = p := oc (by omega)
  -- the noting, from a state where the rest is done
  have note : ∀ S1 m1 : AS, LF S S1 → (sR m1 = sR m ∧ sL m1 = sL m ∧ ∀ q j, ¬ (q = 58 ∨ q = 59 ∨ q = 60 ∨ q = 61 ∨ q = 123 ∨ q = 124 ∨ q = 125) → ¬ (q = 57 ∧ (j = 77 ∨ j = 81)) → sI m1 q j = sI m q j) → (∀ j, sI m1 61 j = sI m 61 j) → (∀ q j, ¬ (q = 127 ∧ (j = 9 ∨ j = 10)) → ¬ (q = 129 ∧ 12 * p ≤ j ∧ j < 12 * p + 7) → sI S1 q j = sI S q j) → lFac S1 m1 → lAud S1 m1 →
      HW (f_W_answers_B165 S1 (some 127) (some 129) (Int32.ofNat p)) (f_M_answers_B118 m1 (some 57) (Int32.ofNat p)) (fun a b => a.1 = b.1 ∧ (a.1 = 0 ∨ a.1 = 1) ∧ AWQ p S m a.2 b.2) := fun S1 m1 l1 ⟨g1, g2, g3⟩ g61 o1 fac1 au1 => by
    refine w_mono (g_note (l1.Rw r127) (l1.Rw r129) (MF_e hmf g1) (lNow_fr now (o1 127 0 (by omega) (by omega)) (g3 57 0 (by omega) (by omega))) (lWrg_fr wr (fun j _ _ => o1 129 j (by omega) (by omega)) (funext g61)) p3) (fun a b q => ?_)
    obtain ⟨q1, q2, q3, q4, ⟨q5, q6, q7⟩, q8⟩ := q
    refine ⟨q1.trans q2.symm, Or.inl q1, LF_tr l1 q3, fun q j z1 z2 => ?_, ⟨q5.trans g1, q6.trans g2, fun q j z1 z2 => ?_⟩, lFac_fr fac1 (fun j hj => q4 129 j (by omega)) (funext fun j => q7 58 j (by omega)) (funext fun j => q7 59 j (by omega)) (funext fun j => q7 60 j (by omega)), q8, lAud_fr au1 (q4 _ _ (by omega)) (q4 _ _ (by omega)) (q7 _ _ (by omega)) (q7 _ _ (by omega))⟩
    · rw [q4 q j (by omega)]
      exact o1 q j z1 (by omega)
    · rw [q7 q j (by omega)]
      exact g3 q j z1 z2
  -- the factor is suspended, then the noting
  have susp : ∀ x : Int32, HW (f_W_answers_B150 (wI S 129 (12 * p + f + 3) x) (some 127) (some 129) (Int32.ofNat p) (Int32.ofNat f) (Int32.ofNat (12 * p + f))) (f_M_answers_B112 (wI m 59 (3 * p + f) x) (some 57) (Int32.ofNat p) (Int32.ofNat f)) (fun a b => a.1 = b.1 ∧ (a.1 = 0 ∨ a.1 = 1) ∧ AWQ p S m a.2 b.2) := fun x => by
    unfold f_W_answers_B150 f_M_answers_B112 f_M_suspend
    refine w_bI r129.w (n := 12 * p + f) rfl (by omega) ?_
    rw [show (3 : Int32) * Int32.ofNat p + Int32.ofNat f = Int32.ofNat (3 * p + f) from wix 3 p f]
    refine wm_of st_rv ?_
    rw [show ∀ (x : Option (Option Nat)) (F : Option Nat → Option AS) (G : AS → Option (Int32 × AS)), (x.bind F).bind G = x.bind (fun v => (F v).bind G) from fun x F G => Option.bind_assoc x F G]
    refine wm_of (st_gRe (v := some 58) (hmf 1 58 rfl)) ?_
    rw [show ∀ (x : Option AS) (F : AS → Option AS) (G : AS → Option (Int32 × AS)), (x.bind F).bind G = x.bind (fun v => (F v).bind G) from fun x F G => Option.bind_assoc x F G]
    refine wm_of (st_bIe jx) ?_
    rw [show ∀ (x : Option Unit) (F : Unit → Option AS) (G : AS → Option (Int32 × AS)), (x.bind F).bind G = x.bind (fun v => (F v).bind G) from fun x F G => Option.bind_assoc x F G]
    refine wm_of st_rv ?_
    rw [show ∀ (x : Option AS) (F : AS → Option AS) (G : AS → Option (Int32 × AS)), (x.bind F).bind G = x.bind (fun v => (F v).bind G) from fun x F G => Option.bind_assoc x F G]
    refine w_dd (g_writes (S := wI (wI S 129 (12 * p + f + 3) x) 129 (12 * p + f) 2) (m := wI (wI m 59 (3 * p + f) x) 58 (3 * p + f) 2) r127.w.w (MF_e hmf rfl) ?_ ⟨?_, ?_⟩) (fun S3 m3 _ q => ?_)
    · rw [ti_sI_ne (by omega), ti_sI_ne (by omega), ti_sI_ne (by omega), ti_sI_ne (by omega)]
      exact now.1
    · rw [ti_sI_ne (by omega), ti_sI_ne (by omega), ti_sI_ne (by omega), ti_sI_ne (by omega)]
      exact au.1
    · rw [ti_sI_ne (by omega), ti_sI_ne (by omega), ti_sI_ne (by omega), ti_sI_ne (by omega)]
      exact au.2
    · obtain ⟨q1, q2, q3, q4⟩ := q
      have oM : ∀ q j, ¬ (q = 58 ∧ j = 3 * p + f) → ¬ (q = 59 ∧ j = 3 * p + f) → q ≠ 123 → q ≠ 124 → q ≠ 125 → ¬ (q = 57 ∧ (j = 77 ∨ j = 81)) → sI m3 q j = sI m q j := fun q j z1 z2 z3 z4 z5 z6 => by
        rw [q4.1.2.2 q j z3 z4 z5 z6, ti_sI_ne z1, ti_sI_ne z2]
      have oS : ∀ q j, ¬ (q = 127 ∧ (j = 9 ∨ j = 10)) → ¬ (q = 129 ∧ (j = 12 * p + f ∨ j = 12 * p + f + 3)) → sI S3 q j = sI S q j := fun q j z1 z2 => by
        rw [q2 q j z1, ti_sI_ne (by omega), ti_sI_ne (by omega)]
      refine note S3 m3 (LF_tr (LF_w (LF_w (LF_rf S) (by decide)) (by decide)) q1) ⟨q4.1.1, q4.1.2.1, fun q j z1 z2 => oM q j (by omega) (by omega) (by omega) (by omega) (by omega) z2⟩ (fun j => oM 61 j (by omega) (by omega) (by omega) (by omega) (by omega) (by omega)) (fun q j z1 z2 => oS q j z1 (by omega)) ?_ q3
      refine lFac_set fac p3 f3 ⟨2, by decide, ?_, ?_⟩ ?_ ?_ (fun j z1 z2 => oS 129 j (by omega) (by omega)) (fun j z => ⟨oM 58 j (by omega) (by omega) (by omega) (by omega) (by omega) (by omega), oM 59 j (by omega) (by omega) (by omega) (by omega) (by omega) (by omega)⟩) (fun j z => oM 60 j (by omega) (by omega) (by omega) (by omega) (by omega) (by omega))
      · rw [q2 _ _ (by omega), ti_sI_eq]
        rfl
      · rw [q4.1.2.2 _ _ (by omega) (by omega) (by omega) (by omega), ti_sI_eq]
        rfl
      · rw [q2 _ _ (by omega), ti_sI_ne (by omega), ti_sI_eq, q4.1.2.2 _ _ (by omega) (by omega) (by omega) (by omega), ti_sI_ne (by omega), ti_sI_eq]
      · rw [oS 129 _ (by omega) (by omega), oM 60 _ (by omega) (by omega) (by omega) (by omega) (by omega) (by omega)]
        exact fc
  -- the row of wrong answers is written, and no more
  have noted : ∀ x : Int32, HW (f_W_answers_B165 (wI S 129 (12 * p + f + 3) x) (some 127) (some 129) (Int32.ofNat p)) (f_M_answers_B118 (wI m 59 (3 * p + f) x) (some 57) (Int32.ofNat p)) (fun a b => a.1 = b.1 ∧ (a.1 = 0 ∨ a.1 = 1) ∧ AWQ p S m a.2 b.2) := fun x => by
    refine note _ _ (LF_w (LF_rf S) (by decide)) ⟨rfl, rfl, fun q j z1 z2 => ti_sI_ne (by omega)⟩ (fun j => ti_sI_ne (by omega)) (fun q j z1 z2 => ti_sI_ne (by omega)) ?_ (lAud_fr au (ti_sI_ne (by omega)) (ti_sI_ne (by omega)) (ti_sI_ne (by omega)) (ti_sI_ne (by omega)))
    refine lFac_set fac p3 f3 ⟨st, st3, ?_, ?_⟩ ?_ ?_ (fun j z1 z2 => ti_sI_ne (by omega)) (fun j z => ⟨ti_sI_ne (by omega), ti_sI_ne (by omega)⟩) (fun j z => ti_sI_ne (by omega))
    · rw [ti_sI_ne (by omega)]
      exact s1
    · rw [ti_sI_ne (by omega)]
      exact s2
    · rw [ti_sI_eq, ti_sI_eq]
    · rw [ti_sI_ne (by omega), ti_sI_ne (by omega)]
      exact fc
  unfold f_W_answers f_M_answers
  rw [show (12 : Int32) * Int32.ofNat p + Int32.ofNat f = Int32.ofNat (12 * p + f) from wix 12 p f, show (3 : Int32) * Int32.ofNat p + Int32.ofNat f = Int32.ofNat (3 * p + f) from wix 3 p f]
  refine w_val (wm_of st_val ?_)
  refine w_aIe r129 (n := 12 * p + f) rfl (by omega) s1 (wm_of (st_gRe (hmf 1 58 rfl)) (wm_of (st_aIe jx s2) ?_))
  have i3 : Int32.ofNat (12 * p + f) + (3 : Int32) = Int32.ofNat (12 * p + f + 3) := wadd (12 * p + f) 3
  by_cases c : Int32.ofNat st = (1 : Int32)
  · refine w_T c (wm_of (st_T c) ?_)
    unfold f_W_answers_B21
    -- wrong, or a stick's number that is not above the last one
    have bad : ∀ y : Int32, (r = 0 ∨ ¬ y = 0) → HW (f_W_answers_B106 S (some 127) (some 129) (Int32.ofNat p) (Int32.ofNat f) r (Int32.ofNat (12 * p + f)) 1 y) (f_M_answers_B77 m (some 57) (Int32.ofNat p) (Int32.ofNat f) r (Int32.ofNat (3 * p + f)) y) (fun a b => a.1 = b.1 ∧ (a.1 = 0 ∨ a.1 = 1) ∧ AWQ p S m a.2 b.2) := fun y hy => by
      unfold f_W_answers_B106 f_M_answers_B77
      rw [i3]
      refine w_val (w_aIe r129 (n := 12 * p + f + 3) rfl (by omega) s3 (w_F one0 ?_))
      refine wm_of (st_gRe (hmf 2 59 rfl)) (wm_of (st_aIe jx rfl) ?_)
      have fin : ∀ x : Int32, HW (f_W_answers_B128 S (some 127) (some 129) (Int32.ofNat p) (Int32.ofNat f) (Int32.ofNat (12 * p + f)) 1 y (some 129) (Int32.ofNat (12 * p + f + 3)) (sI m 59 (3 * p + f)) x) (f_M_answers_B94 m (some 57) (Int32.ofNat p) (Int32.ofNat f) (Int32.ofNat (3 * p + f)) y (some 59) (Int32.ofNat (3 * p + f)) (sI m 59 (3 * p + f)) x) (fun a b => a.1 = b.1 ∧ (a.1 = 0 ∨ a.1 = 1) ∧ AWQ p S m a.2 b.2) := fun x => by
        unfold f_W_answers_B128 f_M_answers_B94
        refine w_bI r129 (n := 12 * p + f + 3) rfl (by omega) (wm_of (st_bIe jx) (w_F one0 ?_))
        by_cases d : y = 0
        · refine w_T d (wm_of (st_T d) ?_)
          rw [i3]
          refine w_aIe r129.w (n := 12 * p + f + 3) rfl (by omega) (ti_sI_eq _ _ _ _) (wm_of (st_gRe (v := some 59) (hmf 2 59 rfl)) (wm_of (st_aIe jx (ti_sI_eq _ _ _ _)) ?_))
          by_cases g : sI m 59 (3 * p + f) + x = (5 : Int32)
          · exact w_T g (wm_of (st_T g) (susp _))
          · exact w_F g (wm_of (st_F g) (noted _))
        · exact w_F d (wm_of (st_F d) (susp _))
      by_cases d : r = 0
      · exact w_T d (wm_of (st_T d) (fin 1))
      · refine w_F d (wm_of (st_F d) ?_)
        unfold f_W_answers_B127
        exact fin 0
    have right : ¬ r = 0 → HW (f_W_answers_B52 S (some 127) (some 129) (Int32.ofNat p) (Int32.ofNat f) r v (Int32.ofNat (12 * p + f)) 1 0) (f_M_answers_B43 m (some 57) (Int32.ofNat p) (Int32.ofNat f) r v (Int32.ofNat (3 * p + f)) 0) (fun a b => a.1 = b.1 ∧ (a.1 = 0 ∨ a.1 = 1) ∧ AWQ p S m a.2 b.2) := fun hr => by
      unfold f_W_answers_B52 f_M_answers_B43
      refine w_F one0 (w_F hr (w_T rfl ?_))
      rw [i3]
      refine w_bI r129 (n := 12 * p + f + 3) rfl (by omega) (wm_of (st_F hr) (wm_of (st_T rfl) (wm_of (st_gRe (hmf 2 59 rfl)) (wm_of (st_bIe jx) ?_))))
      have fin : ∀ (S' m' : AS), LF S S' → (∀ q j, ¬ (q = 129 ∧ (j = 12 * p + f + 3 ∨ j = 12 * p + 6)) → sI S' q j = sI S q j) → (sR m' = sR m ∧ sL m' = sL m ∧ ∀ q j, ¬ (q = 59 ∧ j = 3 * p + f) → ¬ (q = 60 ∧ j = p) → sI m' q j = sI m q j) → sI S' 129 (12 * p + f + 3) = sI m' 59 (3 * p + f) → sI S' 129 (12 * p + 6) = sI m' 60 p → AWQ p S m S' m' := fun S' m' l o ⟨g1, g2, g3⟩ h1 h2 =>
        ⟨l, fun q j z1 z2 => o q j (by omega), ⟨g1, g2, fun q j z1 z2 => g3 q j (by omega) (by omega)⟩, lFac_set fac p3 f3 ⟨st, st3, (o 129 _ (by omega)).trans s1, (g3 58 _ (by omega) (by omega)).trans s2⟩ h1 h2 (fun j z1 z2 => o 129 j (by omega)) (fun j z => ⟨g3 58 j (by omega) (by omega), g3 59 j (by omega) (by omega)⟩) (fun j z => g3 60 j (by omega) (by omega)),
          lWrg_fr wr (fun j z1 z2 => o 129 j (by omega)) (funext fun j => g3 61 j (by omega) (by omega)), lAud_fr au (o _ _ (by omega)) (o _ _ (by omega)) (g3 _ _ (by omega) (by omega)) (g3 _ _ (by omega) (by omega))⟩
      by_cases d : Int32.ofNat f = (2 : Int32)
      · have f2 : f ≠ 3 := by omega
        refine w_T d (w_bI r129.w (n := 12 * p + 6) (wix 12 p 6) (by omega) (wm_of (st_T d) (wm_of (st_gRe (v := some 60) (hmf 3 60 rfl)) (wm_of (st_bIe jp) (w_ret ⟨rfl, Or.inr rfl, ?_⟩)))))
        refine fin _ _ (LF_w (LF_w (LF_rf S) (by decide)) (by decide)) (fun q j z => ?_) ⟨rfl, rfl, fun q j z1 z2 => ?_⟩ ?_ ?_
        · show sI (wI (wI S _ _ _) _ _ _) q j = _
          rw [ti_sI_ne (by omega), ti_sI_ne (by omega)]
        · show sI (wI (wI m _ _ _) _ _ _) q j = _
          rw [ti_sI_ne (by omega), ti_sI_ne (by omega)]
        · show sI (wI (wI S _ _ _) _ _ _) 129 (12 * p + f + 3) = sI (wI (wI m _ _ _) _ _ _) 59 (3 * p + f)
          rw [ti_sI_ne (by omega), ti_sI_eq, ti_sI_ne (by omega), ti_sI_eq]
        · show sI (wI (wI S _ _ _) _ _ _) 129 (12 * p + 6) = sI (wI (wI m _ _ _) _ _ _) 60 p
          rw [ti_sI_eq, ti_sI_eq]
      · refine w_F d (w_aIe r129.w (n := 12 * p + 6) (wix 12 p 6) (by omega) (ti_sI_ne (by omega)) (w_bI r129.w (n := 12 * p + 6) (wix 12 p 6) (by omega) (wm_of (st_F d) (w_ret ⟨rfl, Or.inr rfl, ?_⟩))))
        refine fin _ _ (LF_w (LF_w (LF_rf S) (by decide)) (by decide)) (fun q j z => ?_) ⟨rfl, rfl, fun q j z1 z2 => ?_⟩ ?_ ?_
        · show sI (wI (wI S _ _ _) _ _ _) q j = _
          rw [ti_sI_ne (by omega), ti_sI_ne (by omega)]
        · show sI (wI m _ _ _) q j = _
          rw [ti_sI_ne (by omega)]
        · show sI (wI (wI S _ _ _) _ _ _) 129 (12 * p + f + 3) = sI (wI m _ _ _) 59 (3 * p + f)
          rw [ti_sI_ne (by omega), ti_sI_eq, ti_sI_eq]
        · show sI (wI (wI S _ _ _) _ _ _) 129 (12 * p + 6) = sI (wI m _ _ _) 60 p
          rw [ti_sI_eq, ti_sI_ne (by omega)]
          exact fc
    have plain : HW (f_W_answers_B51 S (some 127) (some 129) (Int32.ofNat p) (Int32.ofNat f) r v (Int32.ofNat (12 * p + f)) 1) (f_M_answers_B42 m (some 57) (Int32.ofNat p) (Int32.ofNat f) r v (Int32.ofNat (3 * p + f))) (fun a b => a.1 = b.1 ∧ (a.1 = 0 ∨ a.1 = 1) ∧ AWQ p S m a.2 b.2) := by
      unfold f_W_answers_B51 f_M_answers_B42
      by_cases d : r = 0
      · unfold f_W_answers_B52 f_M_answers_B43
        exact w_F one0 (w_T d (wm_of (st_T d) (bad 0 (Or.inl d))))
      · exact right d
    by_cases d : Int32.ofNat f = (2 : Int32)
    · refine w_T d (wm_of (st_T d) ?_)
      by_cases g : r = 0
      · exact w_T g (wm_of (st_T g) plain)
      · refine w_F g (wm_of (st_F g) ?_)
        refine w_aIe r129 (n := 12 * p + 6) (wix 12 p 6) (by omega) fc (wm_of (st_gRe (hmf 3 60 rfl)) (wm_of (st_aIe jp rfl) ?_))
        by_cases k : sI m 60 p < v
        · exact w_T k (wm_of (st_T k) plain)
        · refine w_F k (wm_of (st_F k) ?_)
          unfold f_W_answers_B52 f_M_answers_B43
          exact w_F one0 (w_F g (w_F one0 (wm_of (st_F g) (wm_of (st_F one0) (bad 1 (Or.inr one0))))))
    · exact w_F d (wm_of (st_F d) plain)
  · refine w_F c (wm_of (st_F c) ?_)
    -- not ready: the law writes what stands
    have idle : ∀ y : Int32, HW (f_W_answers_B106 S (some 127) (some 129) (Int32.ofNat p) (Int32.ofNat f) r (Int32.ofNat (12 * p + f)) 0 y) (f_M_answers_B118 m (some 57) (Int32.ofNat p)) (fun a b => a.1 = b.1 ∧ (a.1 = 0 ∨ a.1 = 1) ∧ AWQ p S m a.2 b.2) := fun y => by
      unfold f_W_answers_B106 f_W_answers_B127 f_W_answers_B128
      rw [i3]
      refine w_val (w_aIe r129 (n := 12 * p + f + 3) rfl (by omega) s3 (w_T rfl (w_bI r129 (n := 12 * p + f + 3) rfl (by omega) (w_T rfl ?_))))
      refine note _ m (LF_w (LF_rf S) (by decide)) ⟨rfl, rfl, fun _ _ _ _ => rfl⟩ (fun _ => rfl) (fun q j z1 z2 => ti_sI_ne (by omega)) ?_ (lAud_fr au (ti_sI_ne (by omega)) (ti_sI_ne (by omega)) rfl rfl)
      refine lFac_set fac p3 f3 ⟨st, st3, ?_, s2⟩ ?_ ?_ (fun j z1 z2 => ti_sI_ne (by omega)) (fun j z => ⟨rfl, rfl⟩) (fun j z => rfl)
      · rw [ti_sI_ne (by omega)]
        exact s1
      · rw [ti_sI_eq]
        simp
      · rw [ti_sI_ne (by omega)]
        exact fc
    have all : ∀ y : Int32, HW (f_W_answers_B52 S (some 127) (some 129) (Int32.ofNat p) (Int32.ofNat f) r v (Int32.ofNat (12 * p + f)) 0 y) (f_M_answers_B118 m (some 57) (Int32.ofNat p)) (fun a b => a.1 = b.1 ∧ (a.1 = 0 ∨ a.1 = 1) ∧ AWQ p S m a.2 b.2) := fun y => by
      unfold f_W_answers_B52
      exact w_T rfl (idle y)
    unfold f_W_answers_B21 f_W_answers_B51
    refine w_if (fun _ => w_if (fun _ => all 0) (fun _ => w_aI r129 (n := 12 * p + 6) (wix 12 p 6) (by omega) (w_if (fun _ => all 0) (fun _ => all 1)))) (fun _ => all 0)
end
