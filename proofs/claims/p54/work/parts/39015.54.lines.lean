/-! ===== points, line, check, level, asked ===== -/
theorem l_inl {α β : Type} {x : Option (α × AS)} {y : Option β} {P : α × AS → β → Prop} {Q : (α ⊕ String) × AS → β → Prop} (h : H2 x y P) (g : ∀ v S' b, P (v, S') b → Q (.inl v, S') b) : H2 (kr_b2 x fun v S' => some (Sum.inl v, S')) y Q := l_b2 (fun v S' e a b ha hb => by
  cases ha
  exact g _ _ _ (h _ _ e hb))
theorem m_hp {α β : Type} {x : Option α} {y : Option β} {P : β → Prop} {Q : α → β → Prop} (hc : Hp y P) (h : ∀ b, P b → H2 x (some b) Q) : H2 x y Q := fun a b ha hb => h b (hc b hb) a b ha rfl
theorem st_row {α : Type} {S : AS} {κ p j k : Nat} {i v : Int32} {F : Int32 → Option α} (hi : i.toNatClampNeg = k) (e : sI S (fa S p j) k = v) : Le ((gR S κ j (some p)).bind fun r => (aI S 40 r i).bind F) (F v) := fun a ha => by
  have h := (bind_cut ha).2
  unfold fa at e
  cases c : sR S p j with
  | none =>
    rw [c] at h
    exact nomatch h
  | some q =>
    rw [c] at h e
    have z := (bind_cut h).2
    rw [hi] at z
    rw [← e]
    exact z
section
variable {T Tm : Nat → Nat} {S m : AS}
theorem h_points (hT : TV T S) (hm : TI Tm m) (h : FR S m) (a p c : Int32) : H2 (f_K_points S (some 4) a p c) (f_M_points m (some 57) a p c) (fun x y => AN [eA] x.1 y.1 (sI y.2 57 82) ∧ cPts x.2 y.2) := by
  have hmf := MF_of (TI_t hm 0)
  have kf := K4F_of hT.1
  have h0 := (FR_t hT hm h 0).Pts
  have bad : H2 (some ((Sum.inr eA : Int32 ⊕ String), wX S)) (f_M_points_B32 m (some 57) a p c (some 57) 0) (fun x y => AN [eA] x.1 y.1 (sI y.2 57 82) ∧ cPts x.2 y.2) := by
    unfold f_M_points_B32
    refine m_of st_rv (m_p2 p_may (fun v m' q => ?_))
    cases q
    exact m_of (st_T rfl) (h2_ret ⟨AN_e 0 rfl (ti_sI_eq _ _ _ _), (FR_X hT (TI_t hm 1) (FR_t hT hm h 1)).Pts⟩)
  have yes : ∀ i, i < 3 → a = Int32.ofNat i → H2 (if c = 0 then (gR S 22 3 (some 4)).bind fun v7 => f_K_points_B41 S a p v7 else (gR S 22 4 (some 4)).bind fun v8 => f_K_points_B41 S a p v8) (f_M_points_B32 m (some 57) a p c (some 57) 1) (fun x y => AN [eA] x.1 y.1 (sI y.2 57 82) ∧ cPts x.2 y.2) := fun i hi ea => by
    have ei : a.toNatClampNeg = i := by rw [ea]; exact oc (by omega)
    obtain ⟨p1, p2⟩ := h.Pts i hi
    unfold f_M_points_B32 f_M_points_B59 f_K_points_B41
    refine m_of st_rv (m_p2 p_may (fun v m' q => ?_))
    cases q
    refine m_of (st_F one0) ?_
    by_cases d : c = 0
    · refine l_of (st_T d) (m_of (st_T d) (l_of (st_gRe (kf.1 3 9 rfl)) (l_of (st_aIe ei p1) (l_of (st_bIe ei) ?_))))
      refine m_of (st_gRe (hmf 17 73 rfl)) (m_of (st_aIe (v := sI m 73 i) ei (lv0 m (by omega) 0)) (m_of (st_T d) (m_of (st_gRe (hmf 17 73 rfl)) (m_of (st_bIe ei) (h2_ret ⟨AN_v ?_, fun j hj => ?_⟩)))))
      · rw [ti_sI_ne (by omega)]
        exact ti_sI_eq _ _ _ _
      · obtain ⟨z1, z2⟩ := h0 j hj
        by_cases q : j = i
        · subst q
          exact ⟨(ti_sI_eq _ _ _ _).trans (ti_sI_eq _ _ _ _).symm, (ti_sI_ne (by omega)).trans (z2.trans (ti_sI_ne (by omega)).symm)⟩
        · exact ⟨(ti_sI_ne (by omega)).trans (z1.trans (ti_sI_ne (by omega)).symm), (ti_sI_ne (by omega)).trans (z2.trans (ti_sI_ne (by omega)).symm)⟩
    · refine l_of (st_F d) (m_of (st_F d) (l_of (st_gRe (kf.1 4 10 rfl)) (l_of (st_aIe ei p2) (l_of (st_bIe ei) ?_))))
      refine m_of (st_gRe (hmf 18 74 rfl)) (m_of (st_aIe (v := sI m 74 i) ei (lv0 m (by omega) 0)) (m_of (st_F d) (m_of (st_gRe (hmf 18 74 rfl)) (m_of (st_bIe ei) (h2_ret ⟨AN_v ?_, fun j hj => ?_⟩)))))
      · rw [ti_sI_ne (by omega)]
        exact ti_sI_eq _ _ _ _
      · obtain ⟨z1, z2⟩ := h0 j hj
        by_cases q : j = i
        · subst q
          exact ⟨(ti_sI_ne (by omega)).trans (z1.trans (ti_sI_ne (by omega)).symm), (ti_sI_eq _ _ _ _).trans (ti_sI_eq _ _ _ _).symm⟩
        · exact ⟨(ti_sI_ne (by omega)).trans (z1.trans (ti_sI_ne (by omega)).symm), (ti_sI_ne (by omega)).trans (z2.trans (ti_sI_ne (by omega)).symm)⟩
  unfold f_K_points f_M_points f_M_points_B31
  refine l_of (st_b2 (q_win S a 0 2)) (m_of (st_b2 (q_isIn m a 0 2)) ?_)
  by_cases ca : 0 ≤ a ∧ a ≤ 2
  · rw [if_pos ca]
    obtain ⟨i, i1, i2⟩ := (thr_iff a).mp ca
    refine l_of (st_bx (rA1 S)) (m_of (st_F one0) ?_)
    have two : ∀ lo : Int32, H2 (f_K_points_B19 S (some 4) a p c p lo) (f_M_points_B20 m (some 57) a p c (some 57) p lo) (fun x y => AN [eA] x.1 y.1 (sI y.2 57 82) ∧ cPts x.2 y.2) := fun lo => by
      unfold f_K_points_B19 f_M_points_B20 f_M_points_B31
      refine l_of (st_b2 (q_win S p lo 5)) (m_of (st_b2 (q_isIn m p lo 5)) ?_)
      by_cases cp : lo ≤ p ∧ p ≤ 5
      · rw [if_pos cp]
        exact l_of (st_bx (rA1 S)) (m_of (st_F one0) (yes i i1 i2))
      · rw [if_neg cp]
        exact l_of (st_bxe (rA0 S)) (m_of (st_T rfl) bad)
    by_cases d : c = 0
    · exact l_of (st_T d) (m_of (st_T d) (two 0))
    · exact l_of (st_F d) (m_of (st_F d) (two (-1)))
  · rw [if_neg ca]
    exact l_of (st_bxe (rA0 S)) (m_of (st_T rfl) bad)
/-! line -/
def LB (n nt v : Nat) (S1 m1 : AS) : Prop := K4F S1 ∧ MF m1 ∧ n ≤ 60 ∧ nt ≤ 200 ∧ v < 4 ∧ (sI S1 23 2 = Int32.ofNat n ∧ sI m1 57 46 = Int32.ofNat n ∧ sI m1 57 52 = Int32.ofNat nt ∧ sI m1 113 v = 0) ∧
  (∀ f, f < n → sR S1 ((sR S1 23 1).getD 0) f = some (lel S1 23 f)) ∧ (∀ f g, f < n → g < n → lel S1 23 f = lel S1 23 g → f = g) ∧ (∀ f, f < n → sI S1 (lel S1 23 f) 6 = sI m1 103 f ∧ (bt (sI S1 (lel S1 23 f) 10) v = true ↔ ∃ t, t < nt ∧ sI m1 108 t = Int32.ofNat f ∧ sI m1 105 t = Int32.ofNat v))
def LI (n : Nat) (S1 m1 S m : AS) : Prop :=
  (sR S = sR S1 ∧ sL S = sL S1 ∧ ∀ p j, ¬ (j = 11 ∧ ∃ f, f < n ∧ p = lel S1 23 f) → sI S p j = sI S1 p j) ∧ (sR m = sR m1 ∧ sL m = sL m1 ∧ ∀ p j, p ≠ 116 → sI m p j = sI m1 p j) ∧
  (∀ f, f < n → ∀ u, u < 4 → (bt (sI S (lel S1 23 f) 11) u = true ↔ sI m 116 (60 * u + f) = 1)) ∧ (∀ f, f < n → sI m1 103 f ≠ 0 → ∀ u, u < 4 → sI m 116 (60 * u + f) = 0) ∧ (∀ j, j < 240 → sI m 116 j = 0 ∨ sI m 116 j = 1) ∧ (∀ x, n ≤ x → x < 60 → ∀ u, u < 4 → sI m 116 (60 * u + x) = 0)
theorem h_line_L {n nt v : Nat} {S1 m1 : AS} (hb : LB n nt v S1 m1) : ∀ (k i fu fu' : Nat) (c : Int32) (S m : AS), i + k = n → LI n S1 m1 S m →
    H2 (f_K_tellOfEnded_L4 fu S (some 4) (Int32.ofNat v) c (Int32.ofNat i)) (f_M_line_L37 fu' m (some 57) (Int32.ofNat v) c (Int32.ofNat i)) (fun a b => a.1 = b.1 ∧ LI n S1 m1 a.2 b.2)
  | _, _, 0, _, _, _, _, _, _ => h2_l0
  | _, _, _ + 1, 0, _, _, _, _, _ => h2_m0
  | 0, i, fu + 1, fu' + 1, c, S, m, hk, h => by
    unfold f_K_tellOfEnded_L4 f_K_tellOfEnded_C4 f_M_line_L37 f_M_line_C37
    obtain ⟨h4, hmf, n60, nt2, v4, ⟨e1, e2, e3, e4⟩, -⟩ := hb
    have h' := h
    obtain ⟨⟨a1, a2, a3⟩, ⟨b1, b2, b3⟩, -⟩ := h
    have le : Int32.ofNat n ≤ Int32.ofNat i := (ole (by omega) (by omega)).mpr (by omega)
    refine l_of (st_gRe (v := some 23) (by rw [a1]; exact h4.1 13 23 rfl)) (l_of st_rv (l_of st_size ?_))
    rw [show sI S 23 2 = Int32.ofNat n from (a3 23 2 (by omega)).trans e1]
    exact l_of (st_T le) (m_of (st_gIe ((b3 57 46 (by omega)).trans e2)) (m_of (st_T le) (h2_ret ⟨rfl, h'⟩)))
  | k + 1, i, fu + 1, fu' + 1, c, S, m, hk, h => by
    unfold f_K_tellOfEnded_L4 f_K_tellOfEnded_C4 f_M_line_L37 f_M_line_C37
    have hb' := hb
    obtain ⟨h4, hmf, n60, nt2, v4, ⟨e1, e2, e3, e4⟩, e5, e6, e7⟩ := hb
    obtain ⟨⟨a1, a2, a3⟩, ⟨b1, b2, b3⟩, g1, g2, g3, g4⟩ := h
    have hmf' : MF m := MF_e hmf b1
    have nle : ¬ Int32.ofNat n ≤ Int32.ofNat i := fun q => by
      have := (ole (by omega) (by omega)).mp q
      omega
    have at' : sR S ((sR S 23 1).getD 0) i = some (lel S1 23 i) := by
      rw [a1]
      exact e5 i (by omega)
    have ix := ix60 v v4 i (by omega)
    have go : ∀ (S' : AS) (c' w b : Int32), (w = 0 ∨ w = 1) → c' = c + w → (b = 0 ∨ b = 1) → (sR S' = sR S ∧ sL S' = sL S ∧ ∀ p j, ¬ (p = lel S1 23 i ∧ j = 11) → sI S' p j = sI S p j) → (∀ u, u < 4 → (bt (sI S' (lel S1 23 i) 11) u = true ↔ if u = v then b = 1 else bt (sI S (lel S1 23 i) 11) u = true)) → (sI m1 103 i ≠ 0 → b = 0) →
        H2 (f_K_tellOfEnded_B48 (f_K_tellOfEnded_L4 fu) S' (some 4) (Int32.ofNat v) c' (Int32.ofNat i)) (f_M_line_B127 (f_M_line_L37 fu') m (some 57) (Int32.ofNat v) c (Int32.ofNat i) w (some 116) ((60 : Int32) * Int32.ofNat v + Int32.ofNat i) b) (fun a b => a.1 = b.1 ∧ LI n S1 m1 a.2 b.2) := fun S' c' w b hw hc hb01 ho ht hz => by
      unfold f_K_tellOfEnded_B48 f_M_line_B127 f_M_line_B139
      have nx : H2 (f_K_tellOfEnded_L4 fu S' (some 4) (Int32.ofNat v) c' (Int32.ofNat i + 1)) (f_M_line_L37 fu' (wI m 116 (60 * v + i) b) (some 57) (Int32.ofNat v) c' (Int32.ofNat i + 1)) (fun a b => a.1 = b.1 ∧ LI n S1 m1 a.2 b.2) := by
        rw [o1]
        refine h_line_L hb' k (i + 1) fu fu' c' S' _ (by omega) ⟨⟨ho.1.trans a1, ho.2.1.trans a2, fun p j q => ?_⟩, ⟨b1, b2, fun p j q => ?_⟩, fun f hf u hu => ?_, fun f hf q u hu => ?_, fun j hj => ?_, fun x q1 q2 u hu => ?_⟩
        · rw [ho.2.2 p j (fun z => q ⟨z.2, i, by omega, z.1⟩)]
          exact a3 p j q
        · rw [ti_sI_ne (fun z => q z.1)]
          exact b3 p j q
        · by_cases z : f = i
          · subst z
            rw [ht u hu]
            by_cases y : u = v
            · subst y
              rw [if_pos rfl, ti_sI_eq]
            · rw [if_neg y, ti_sI_ne (by omega)]
              exact g1 f hf u hu
          · rw [ho.2.2 _ _ (fun y => z (e6 f i hf (by omega) y.1)), ti_sI_ne (by omega)]
            exact g1 f hf u hu
        · by_cases z : u = v ∧ f = i
          · obtain ⟨rfl, rfl⟩ := z
            rw [ti_sI_eq]
            exact hz q
          · rw [ti_sI_ne (by omega)]
            exact g2 f hf q u hu
        · by_cases z : j = 60 * v + i
          · subst z
            rw [ti_sI_eq]
            exact hb01
          · rw [ti_sI_ne (by omega)]
            exact g3 j hj
        · rw [ti_sI_ne (by omega)]
          exact g4 x q1 q2 u hu
      refine l_of st_val (m_of (st_bZe ix) ?_)
      rcases hw with rfl | rfl
      · refine m_of (st_T rfl) (m_of st_val (m_of st_val ?_))
        rw [← hc]
        exact nx
      · refine m_of (st_F one0) (m_of st_val (m_of st_val ?_))
        rw [← hc]
        exact nx
    have idx := g3 (60 * v + i) (by omega)
    have old : H2 (f_K_tellOfEnded_B48 (f_K_tellOfEnded_L4 fu) S (some 4) (Int32.ofNat v) c (Int32.ofNat i)) (f_M_line_B90 (f_M_line_L37 fu') m (some 57) (Int32.ofNat v) c (Int32.ofNat i)) (fun a b => a.1 = b.1 ∧ LI n S1 m1 a.2 b.2) := by
      unfold f_M_line_B90 f_M_line_B91
      refine m_of (st_gRe (hmf' 69 116 rfl)) (m_of (st_gRe (hmf' 69 116 rfl)) (m_of (st_aIe (v := sI m 116 (60 * v + i)) ix rfl) ?_))
      rcases idx with q | q
      · refine m_of (st_T q) (m_of (st_T rfl) (go S c 0 0 (Or.inl rfl) (Int32.add_zero c).symm (Or.inl rfl) ⟨rfl, rfl, fun _ _ _ => rfl⟩ (fun u hu => ?_) (fun _ => rfl)))
        by_cases z : u = v
        · subst z
          rw [if_pos rfl, g1 i (by omega) u hu, q]
        · rw [if_neg z]
      · refine m_of (st_F (by rw [q]; decide)) ?_
        unfold f_M_line_B122
        refine go S c 0 1 (Or.inl rfl) (Int32.add_zero c).symm (Or.inr rfl) ⟨rfl, rfl, fun _ _ _ => rfl⟩ (fun u hu => ?_) (fun z => ?_)
        · by_cases z : u = v
          · subst z
            rw [if_pos rfl, g1 i (by omega) u hu, q]
          · rw [if_neg z]
        · have := g2 i (by omega) z v v4
          rw [this] at q
          exact absurd q (by decide)
    refine l_of (st_gRe (v := some 23) (by rw [a1]; exact h4.1 13 23 rfl)) (l_of st_rv (l_of st_size ?_))
    rw [show sI S 23 2 = Int32.ofNat n from (a3 23 2 (by omega)).trans e1]
    refine l_of (st_F nle) (l_of (st_gRe (v := some 23) (by rw [a1]; exact h4.1 13 23 rfl)) (l_of st_rv (l_of (st_get (oc (by omega)) at') (l_of st_cc (l_of (st_gIe (v := sI m1 103 i) ((a3 _ 6 (by omega)).trans (e7 i (by omega)).1)) ?_)))))
    refine m_of (st_gIe ((b3 57 46 (by omega)).trans e2)) (m_of (st_F nle) (m_of (st_gRe (hmf' 66 113 rfl)) (m_of (st_aIe (oc (by omega)) ((b3 113 v (by omega)).trans e4)) (m_of (st_T rfl) (m_of (st_gRe (hmf' 51 103 rfl)) (m_of (st_aIe (v := sI m1 103 i) (oc (by omega)) (b3 103 i (by omega))) ?_))))))
    by_cases c1 : sI m1 103 i = 0
    · refine l_of (st_T c1) (m_of (st_T c1) (m_of (st_gRe (hmf' 69 116 rfl)) (m_of (st_aIe (v := sI m 116 (60 * v + i)) ix rfl) ?_)))
      by_cases c2 : sI m 116 (60 * v + i) = 0
      · refine m_of (st_T c2) (m_of st_rv (m_p2 (p_hears hmf' ((b3 57 52 (by omega)).trans e3) nt2) (fun b m' p => ?_)))
        obtain ⟨e, p01, pb⟩ := p
        have e : m' = m := e
        rw [e]
        have pb : b = 1 ↔ _ := pb
        have p01 : b = 0 ∨ b = 1 := p01
        have pb2 : b = 1 ↔ bt (sI S (lel S1 23 i) 10) v = true := by
          rw [pb, a3 _ 10 (by omega), (e7 i (by omega)).2]
          constructor
          · rintro ⟨t, q1, q2, q3⟩
            exact ⟨t, q1, (b3 108 t (by omega)).symm.trans q2, (b3 105 t (by omega)).symm.trans q3⟩
          · rintro ⟨t, q1, q2, q3⟩
            exact ⟨t, q1, (b3 108 t (by omega)).trans q2, (b3 105 t (by omega)).trans q3⟩
        have nt : ¬ bt (sI S (lel S1 23 i) 11) v = true := fun q => by
          have := (g1 i (by omega) v v4).mp q
          rw [c2] at this
          exact absurd this (by decide)
        refine l_of st_rv (l_p2 (p_tell (by omega)) (fun w S' p => ?_))
        rcases p with ⟨p1, p2, p3, p4⟩ | ⟨p1, p2, p3⟩
        · have b1' := pb2.mpr p2
          have p1 : w = 1 := p1
          have p4 : S' = _ := p4
          rw [p1, p4, b1']
          refine l_of (st_F one0) (l_of st_val (m_of (st_F one0) ?_))
          unfold f_M_line_B91
          refine m_of (st_gRe (hmf' 69 116 rfl)) (m_of (st_gRe (hmf' 69 116 rfl)) (m_of (st_aIe (v := 0) ix c2) (m_of (st_T rfl) (m_of (st_F one0) ?_))))
          unfold f_M_line_B122
          refine go _ (c + 1) 1 1 (Or.inr rfl) rfl (Or.inr rfl) ⟨rfl, rfl, fun p j q => ti_sI_ne q⟩ (fun u hu => ?_) (fun z => absurd c1 z)
          rw [ti_sI_eq, bt_sh _ (by omega)]
          by_cases z : u = v
          · rw [if_pos z]
            exact ⟨fun _ => rfl, fun _ => Or.inr z⟩
          · rw [if_neg z]
            exact ⟨fun q => q.resolve_right z, Or.inl⟩
        · have b0 : b = 0 := p01.elim id (fun q => absurd ⟨pb2.mp q, nt⟩ p2)
          have p1 : w = 0 := p1
          have p3 : S' = S := p3
          rw [p1, p3, b0]
          exact l_of (st_T rfl) (m_of (st_T rfl) old)
      · refine m_of (st_F c2) (l_of st_rv (l_p2 (p_tell (by omega)) (fun w S' p => ?_)))
        rcases p with ⟨p1, p2, p3, p4⟩ | ⟨p1, p2, p3⟩
        · exact absurd ((g1 i (by omega) v v4).mpr (idx.resolve_left c2)) p3
        · have p1 : w = 0 := p1
          have p3 : S' = S := p3
          rw [p1, p3]
          exact l_of (st_T rfl) old
    · exact l_of (st_F c1) (m_of (st_F c1) old)
theorem p_line_dn {v i c : Int32} {m : AS} {n : Nat} (hv : v.toNatClampNeg = n) (h : sI m 113 n ≠ 0) (hmf : MF m) : ∀ fu, Hp (f_M_line_L37 fu m (some 57) v c i) (fun q => q = (c, m))
  | 0 => p_0
  | fu + 1 => by
    unfold f_M_line_L37 f_M_line_C37
    exact p_of st_gI (p_if (fun _ => p_ret rfl) (fun _ => p_of (st_gRe (hmf 66 113 rfl)) (p_of (st_aIe (v := sI m 113 n) hv rfl) (p_of (st_F h) (p_ret rfl)))))
def P_line (S m : AS) : Prop := cSrv S m ∧ cGod S m
theorem h_line_up (hT : TV T S) (hm : TI Tm m) (h : FR S m) {i : Nat} (i1 : i < 4) : H2 (f_K_line_B19 S (some 4) (Int32.ofNat i) (some (53 + i)) (some (53 + i)) 1) (f_M_line_B32 (wI m 57 82 0) (some 57) (Int32.ofNat i) (some 113) (Int32.ofNat i) 0) (fun x y => AN [eX] x.1 y.1 (sI y.2 57 82) ∧ P_line x.2 y.2) := by
  have b := FR_BB hT hm h
  have st := ST_of hT hm h
  have tV := fun u (hu : u < 4) => kt_S hT.1 h.PF hu
  have nV' : ∀ f u, f < nF m → u < 4 → lel S 23 f ≠ 53 + u := fun f u hf hu q => by
    have := tyF b hf
    rw [q, tV u hu] at this
    exact absurd this (by decide)
  have zf := zF b
  have zt := zT b
  have gd := h.God
  have hk := K4F_of hT.1
  have hmf := MF_of hm
  unfold f_K_line_B19 f_M_line_B32
  refine l_of st_pZ (l_of (st_gIe (v := 1) (ti_sI_eq _ _ _ _)) (l_of (st_F one0) (l_of st_rv (m_of (st_bZe (oc (by omega))) ?_))))
  obtain ⟨S1, eS⟩ : ∃ S1, S1 = wI S (53 + i) 1 1 := ⟨_, rfl⟩
  obtain ⟨m1, em⟩ : ∃ m1, m1 = wI (wI m 57 82 0) 113 i 0 := ⟨_, rfl⟩
  rw [← eS, ← em]
  have rS : sR S1 = sR S := by rw [eS, sR_wI]
  have rM : sR m1 = sR m := by rw [em, sR_wI, sR_wI]
  have oS : ∀ {p j : Nat}, ¬ (p = 53 + i ∧ j = 1) → sI S1 p j = sI S p j := fun q => by
    rw [eS]
    exact ti_sI_ne q
  have sS : sI S1 (53 + i) 1 = 1 := by rw [eS, ti_sI_eq]
  have lm : ∀ {p j : Nat}, ¬ (p = 57 ∧ j = 82) → ¬ (p = 113 ∧ j = i) → sI m1 p j = sI m p j := fun q1 q2 => by
    rw [em]
    exact (ti_sI_ne q2).trans (ti_sI_ne q1)
  have s82 : sI m1 57 82 = 0 := by
    rw [em, ti_sI_ne (by omega), ti_sI_eq]
  have s113 : sI m1 113 i = 0 := by rw [em, ti_sI_eq]
  have el : ∀ f, lel S1 23 f = lel S 23 f := fun f => by
    unfold lel
    rw [rS]
  have hLB : LB (nF m) (nT m) i S1 m1 := by
    refine ⟨by unfold K4F; rw [rS]; exact hk, MF_e hmf rM, zf.1, zt.1, i1, ⟨?_, ?_, ?_, s113⟩, fun f hf => ?_, fun f g hf hg q => ?_, fun f hf => ⟨?_, ?_⟩⟩
    · rw [oS (by omega), zf.2.2]
      exact zf.2.1
    · rw [lm (by omega) (by omega)]
      exact zf.2.1
    · rw [lm (by omega) (by omega)]
      exact zt.2.1
    · rw [rS, el]
      exact atF b hf
    · rw [el, el] at q
      exact ST_fi st hf hg q
    · rw [el, oS (by omega), lm (by omega) (by omega)]
      exact (gd.2 f hf).1
    · rw [el, oS (by omega), h.Aud f hf i i1]
      constructor
      · rintro ⟨t, q1, q2, q3⟩
        exact ⟨t, q1, (lm (by omega) (by omega)).trans q2, (lm (by omega) (by omega)).trans q3⟩
      · rintro ⟨t, q1, q2, q3⟩
        exact ⟨t, q1, (lm (by omega) (by omega)).symm.trans q2, (lm (by omega) (by omega)).symm.trans q3⟩
  have hLI : LI (nF m) S1 m1 S1 m1 := by
    refine ⟨⟨rfl, rfl, fun _ _ _ => rfl⟩, ⟨rfl, rfl, fun _ _ _ => rfl⟩, fun f hf u hu => ?_, fun f hf q u hu => ?_, fun j hj => ?_, fun x q1 q2 u hu => ?_⟩
    · rw [el, oS (by omega), lm (by omega) (by omega)]
      exact (gd.2 f hf).2.1 u hu
    · rw [lm (by omega) (by omega)] at q ⊢
      exact (gd.2 f hf).2.2 q u hu
    · rw [lm (by omega) (by omega)]
      obtain ⟨-, tt, -⟩ := md_at hm (j := 69) (p := 116) rfl rfl
      exact In01 (hm.t5 116 j 240 0 1 (by rw [tt]; rfl) hj)
    · rw [lm (by omega) (by omega)]
      exact gd.1 x q1 q2 u hu
  unfold f_K_tellOfEnded
  refine l_inl (h_line_L hLB (nF m) 0 kr_FU kr_FU 0 S1 m1 (Nat.zero_add _) hLI) (fun v S' bb p => ?_)
  obtain ⟨p1, ⟨a1, a2, a3⟩, ⟨b1, b2, b3⟩, g1, g2, g3, g4⟩ := p
  have p1 : v = bb.1 := p1
  have a1 : sR S' = sR S1 := a1
  have e : nF bb.2 = nF m := by
    unfold nF
    rw [b3 57 46 (by omega), lm (by omega) (by omega)]
  refine ⟨?_, fun u hu => ?_, fun x q1 q2 => g4 x (e ▸ q1) q2, fun f hf => ?_⟩
  · show AN [eX] (.inl v) bb.1 (sI bb.2 57 82)
    rw [p1]
    exact AN_v (by rw [b3 57 82 (by omega), s82])
  · show sI S' (53 + u) 1 = 0 ↔ sI bb.2 113 u ≠ 0
    rw [a3 _ 1 (by omega), b3 113 u (by omega)]
    by_cases z : u = i
    · subst z
      rw [sS, s113]
      exact ⟨fun q => absurd q (by decide), fun q => absurd rfl q⟩
    · rw [oS (by omega), lm (by omega) (by omega)]
      exact h.Srv u hu
  · have hf : f < nF m := e ▸ hf
    have el' : lel S' 23 f = lel S1 23 f := by
      unfold lel
      rw [a1]
    show sI S' (lel S' 23 f) 6 = sI bb.2 103 f ∧ (∀ v, v < 4 → (bt (sI S' (lel S' 23 f) 11) v = true ↔ sI bb.2 116 (60 * v + f) = 1)) ∧ (sI bb.2 103 f ≠ 0 → ∀ v, v < 4 → sI bb.2 116 (60 * v + f) = 0)
    rw [el', a3 _ 6 (by omega), b3 103 f (by omega)]
    refine ⟨?_, fun u hu => g1 f hf u hu, fun q u hu => g2 f hf q u hu⟩
    rw [el, oS (by omega), lm (by omega) (by omega)]
    exact (gd.2 f hf).1
theorem h_line_dn (hT : TV T S) (hm : TI Tm m) (h : FR S m) {i : Nat} (i1 : i < 4) : H2 (f_K_line_B19 S (some 4) (Int32.ofNat i) (some (53 + i)) (some (53 + i)) 0) (f_M_line_B32 (wI m 57 82 0) (some 57) (Int32.ofNat i) (some 113) (Int32.ofNat i) 1) (fun x y => AN [eX] x.1 y.1 (sI y.2 57 82) ∧ P_line x.2 y.2) := by
  have hmf := MF_of (TI_t hm 0)
  have gd := h.God
  unfold f_K_line_B19 f_M_line_B32
  refine l_of st_pZ (l_of (st_gIe (v := 0) (ti_sI_eq _ _ _ _)) (l_of (st_T rfl) (m_of (st_bZe (oc (by omega))) ?_)))
  refine m_hp (p_line_dn (m := wI (wI m 57 82 0) 113 i 1) (n := i) (oc (by omega)) (by rw [ti_sI_eq]; decide) (MF_e hmf rfl) kr_FU) (fun q p => ?_)
  cases p
  obtain ⟨S1, eS⟩ : ∃ S1, S1 = wI S (53 + i) 1 0 := ⟨_, rfl⟩
  obtain ⟨m1, em⟩ : ∃ m1, m1 = wI (wI m 57 82 0) 113 i 1 := ⟨_, rfl⟩
  rw [← eS, ← em]
  have rS : sR S1 = sR S := by rw [eS, sR_wI]
  have oS : ∀ {p j : Nat}, ¬ (p = 53 + i ∧ j = 1) → sI S1 p j = sI S p j := fun q => by
    rw [eS]
    exact ti_sI_ne q
  have sS : sI S1 (53 + i) 1 = 0 := by rw [eS, ti_sI_eq]
  have lm : ∀ {p j : Nat}, ¬ (p = 57 ∧ j = 82) → ¬ (p = 113 ∧ j = i) → sI m1 p j = sI m p j := fun q1 q2 => by
    rw [em]
    exact (ti_sI_ne q2).trans (ti_sI_ne q1)
  have s82 : sI m1 57 82 = 0 := by
    rw [em, ti_sI_ne (by omega), ti_sI_eq]
  have s113 : sI m1 113 i = 1 := by rw [em, ti_sI_eq]
  have el : ∀ f, lel S1 23 f = lel S 23 f := fun f => by
    unfold lel
    rw [rS]
  have e : nF m1 = nF m := by
    unfold nF
    rw [lm (by omega) (by omega)]
  have nV' : ∀ f u, f < nF m → u < 4 → lel S 23 f ≠ 53 + u := fun f u hf hu q => by
    have := tyF (FR_BB hT hm h) hf
    rw [q, kt_S hT.1 h.PF hu] at this
    exact absurd this (by decide)
  refine h2_ret ⟨AN_v s82, fun u hu => ?_, fun x q1 q2 u hu => ?_, fun f hf => ?_⟩
  · show sI S1 (53 + u) 1 = 0 ↔ sI m1 113 u ≠ 0
    by_cases z : u = i
    · subst z
      rw [sS, s113]
      exact ⟨fun _ => by decide, fun _ => rfl⟩
    · rw [oS (by omega), lm (by omega) (by omega)]
      exact h.Srv u hu
  · have q1 : nF m ≤ x := e ▸ q1
    show sI m1 116 (60 * u + x) = 0
    rw [lm (by omega) (by omega)]
    exact gd.1 x q1 q2 u hu
  · have hf : f < nF m := e ▸ hf
    obtain ⟨z1, z2, z3⟩ := gd.2 f hf
    show sI S1 (lel S1 23 f) 6 = sI m1 103 f ∧ (∀ v, v < 4 → (bt (sI S1 (lel S1 23 f) 11) v = true ↔ sI m1 116 (60 * v + f) = 1)) ∧ (sI m1 103 f ≠ 0 → ∀ v, v < 4 → sI m1 116 (60 * v + f) = 0)
    rw [el, oS (by omega), oS (by omega), lm (by omega) (by omega)]
    refine ⟨z1, fun u hu => ?_, fun q u hu => ?_⟩
    · rw [lm (by omega) (by omega)]
      exact z2 u hu
    · rw [lm (by omega) (by omega)]
      exact z3 q u hu
theorem h_line (hT : TV T S) (hm : TI Tm m) (h : FR S m) (a : Int32) : H2 (f_K_line S (some 4) a) (f_M_line m (some 57) a) (fun x y => AN [eX] x.1 y.1 (sI y.2 57 82) ∧ P_line x.2 y.2) := by
  have b := FR_BB hT hm h
  have hmf := MF_of (TI_t hm 0)
  have x1 := FR_X hT (TI_t hm 1) (FR_t hT hm h 1)
  unfold f_K_line f_M_line
  refine m_of (st_b2 (q_ser m a)) (m_of st_rv ?_)
  refine l_of st_rv (l_bx (fun v S' e => ?_) (fun v S' e => ?_))
  · rcases x_fV b a _ e with ⟨i, i1, rfl, e2⟩ | ⟨no, e2⟩
    · cases e2
      rw [if_pos ((fou_iff _).mpr ⟨i, i1, rfl⟩)]
      refine m_p2 p_may (fun v m' p => ?_)
      cases p
      refine m_of (st_F one0) (m_of (st_gRe (hmf 66 113 rfl)) (m_of (st_gRe (hmf 66 113 rfl)) (m_of (st_aIe (v := sI m 113 i) (oc (by omega)) (lv0 m (by omega) 0)) (l_of (st_gIe (v := sI S (53 + i) 1) rfl) ?_))))
      have up := h.Srv i i1
      by_cases c : sI S (53 + i) 1 = 0
      · exact l_of (st_T c) (m_of (st_F (up.mp c)) (h_line_up hT hm h i1))
      · have dn : sI m 113 i = 0 := Decidable.not_not.mp (fun q => c (up.mpr q))
        exact l_of (st_F c) (m_of (st_T dn) (h_line_dn hT hm h i1))
    · cases e2
  · rcases x_fV b a _ e with ⟨i, i1, rfl, e2⟩ | ⟨no, e2⟩
    · cases e2
    · cases e2
      rw [if_neg (fun q => no ((fou_iff _).mp q))]
      refine m_p2 p_may (fun v m' p => ?_)
      cases p
      exact m_of (st_T rfl) (h2_ret ⟨AN_e 0 rfl (ti_sI_eq _ _ _ _), x1.Srv, x1.God⟩)
end
