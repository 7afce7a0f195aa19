/-! ===== publish: the class's answer, its new draft ===== -/
def FL (S : AS) (k j : Nat) (S' : AS) : Prop := sN S' = sN S + 1 ∧ sR S' k j = some (sN S) ∧ (∀ p, p < sN S → sI S' p = sI S p ∧ sK S' p = sK S p) ∧ (∀ p i, p < sN S → ¬ (p = k ∧ i = j) → sR S' p i = sR S p i)
theorem x_one {β : Type} {S : AS} {k j : Nat} {F : AS → Option β} {Q : β → Prop} (hk : k < sN S) (hK : sK S k = 13) (h : ∀ S', FL S k j S' → Ho (F S') Q) : Ho ((nA S 40 (12 : Int32)).bind fun S2 => (pR S2 13 j (some k) (some (sN S))).bind F) Q := by
  rw [nA_s (12 : Int32) 12 tv12 (by decide), Option.bind_some, ti_pR (by rw [(ti_wN (by omega)).1]; exact hK) (pb_k (by rw [(ti_wN0 S 40 12 12).1]; decide)), Option.bind_some]
  refine h _ ⟨rfl, ti_sR_eq _ k j _, fun p hp => ?_, fun p i hp hn => ?_⟩
  · have e := ti_wN (S := S) (κ := 40) (l := 12) (s := 12) (k := p) (by omega)
    exact ⟨e.2.2.1, e.1⟩
  · have e := ti_wN (S := S) (κ := 40) (l := 12) (s := 12) (k := p) (by omega)
    rw [ti_sR_ne hn, e.2.2.2.1]
/-- what the class's publish leaves, when it may -/
def NEW (S S' : AS) : Prop := sI S' 17 2 = sI S 17 2 + 1 ∧ ∃ (f : Nat) (r : Nat → Nat), sR S' 4 5 = some f ∧ sI S' f 5 = 0 ∧ (∀ j : Nat, j < 5 → sR S' f j = some (r j)) ∧ (∀ i j : Nat, i < 5 → j < 5 → r i = r j → i = j)
theorem x_Flow {S : AS} {k : Nat} (hk : k < sN S) (hK : sK S k = 13) : Ho (f_Flow_init S (some k)) (fun S' => sN S ≤ sN S' ∧ (∀ p, p < sN S → sI S' p = sI S p ∧ sK S' p = sK S p) ∧ (∀ p i, p < sN S → p ≠ k → sR S' p i = sR S p i) ∧ ∃ r : Nat → Nat, (∀ j, j < 5 → sR S' k j = some (r j)) ∧ (∀ i j, i < 5 → j < 5 → r i = r j → i = j)) := by
  unfold f_Flow_init
  rw [Option.bind_some]
  refine x_one hk hK (fun S1 h1 => ?_)
  obtain ⟨a1, b1, c1, d1⟩ := h1
  refine x_one (by omega) ((c1 k (by omega)).2.trans hK) (fun S2 h2 => ?_)
  obtain ⟨a2, b2, c2, d2⟩ := h2
  refine x_one (by omega) ((c2 k (by omega)).2.trans ((c1 k (by omega)).2.trans hK)) (fun S3 h3 => ?_)
  obtain ⟨a3, b3, c3, d3⟩ := h3
  refine x_one (by omega) ((c3 k (by omega)).2.trans ((c2 k (by omega)).2.trans ((c1 k (by omega)).2.trans hK))) (fun S4 h4 => ?_)
  obtain ⟨a4, b4, c4, d4⟩ := h4
  refine x_one (by omega) ((c4 k (by omega)).2.trans ((c3 k (by omega)).2.trans ((c2 k (by omega)).2.trans ((c1 k (by omega)).2.trans hK)))) (fun S5 h5 => ?_)
  obtain ⟨a5, b5, c5, d5⟩ := h5
  refine r_some ⟨by omega, fun p hp => ⟨?_, ?_⟩, fun p i hp hn => ?_, fun j => sN S + j, fun j hj => ?_, fun i j _ _ e => by dsimp only at e; omega⟩
  · rw [(c5 p (by omega)).1, (c4 p (by omega)).1, (c3 p (by omega)).1, (c2 p (by omega)).1, (c1 p (by omega)).1]
  · rw [(c5 p (by omega)).2, (c4 p (by omega)).2, (c3 p (by omega)).2, (c2 p (by omega)).2, (c1 p (by omega)).2]
  · rw [d5 p i (by omega) (fun q => hn q.1), d4 p i (by omega) (fun q => hn q.1), d3 p i (by omega) (fun q => hn q.1), d2 p i (by omega) (fun q => hn q.1), d1 p i (by omega) (fun q => hn q.1)]
  · match j, hj with
    | 0, _ => rw [d5 k 0 (by omega) (fun q => absurd q.2 (by decide)), d4 k 0 (by omega) (fun q => absurd q.2 (by decide)), d3 k 0 (by omega) (fun q => absurd q.2 (by decide)), d2 k 0 (by omega) (fun q => absurd q.2 (by decide)), b1]; rfl
    | 1, _ => rw [d5 k 1 (by omega) (fun q => absurd q.2 (by decide)), d4 k 1 (by omega) (fun q => absurd q.2 (by decide)), d3 k 1 (by omega) (fun q => absurd q.2 (by decide)), b2, show sN S1 = sN S + 1 by omega]
    | 2, _ => rw [d5 k 2 (by omega) (fun q => absurd q.2 (by decide)), d4 k 2 (by omega) (fun q => absurd q.2 (by decide)), b3, show sN S2 = sN S + 2 by omega]
    | 3, _ => rw [d5 k 3 (by omega) (fun q => absurd q.2 (by decide)), b4, show sN S3 = sN S + 3 by omega]
    | 4, _ => rw [b5, show sN S4 = sN S + 4 by omega]
theorem x_B55 {T : Nat → Nat} {S : AS} (hT : TI T S) (hx : Tx T 1 (some 4)) (h8 : (sI S 17 2).toInt < 8) : Ho (f_K_publish_B55 S (some 4) 1) (fun q => q.1 = .inl (sI S 17 2) ∧ NEW S q.2) := by
  have g := Rlrf hT
  have K4 : sK S 4 = 22 := Tx.K hT hT.t9.2.2.2.2.1 (by decide)
  unfold f_K_publish_B55
  rw [rS1, bx_l]
  refine r_gR g.1 hx rfl rfl (fun v3 h2 => ?_)
  refine r_gR g.1 hx rfl rfl (fun v4 h3 => ?_)
  refine r_rv g.1 h2 rfl ?_
  refine r_b2 (ho_add (w' := kw_K43) 0 g h2 (by decide) h3 rfl h8 (by decide) (by decide +kernel)) (fun v7 S6 hh => ?_)
  obtain ⟨T5, g6, e7, e7s⟩ := hh
  have g6 : Rl T kw_K43 S 1 300 T5 S6 := g6
  have e7s : sI S6 17 2 = sI S 17 2 + 1 := e7s
  have h4 : T5 4 = 1 := g6.1.t9.2.2.2.2.1
  have n4 : 4 < sN S6 := (g6.1.t1 4 (by rw [h4]; decide)).1
  have n17 : 17 < sN S6 := (g6.1.t1 17 (by have := (g6.1.t6 0 (by decide)).1; rw [show lp 0 = 17 from rfl] at this; rw [this]; decide)).1
  have K46 : sK S6 4 = 22 := Tx.K g6.1 h4 (by decide)
  have r46 := g6.1.t2 4 6 20 (by rw [h4]; rfl)
  rw [Option.bind_some]
  have e13 : sK (nO S6 13) (sN S6) = 13 := (ti_wN0 S6 13 0 (kr_cN (13 - 10))).1
  have old : ∀ p, p < sN S6 → sI (nO S6 13) p = sI S6 p ∧ sK (nO S6 13) p = sK S6 p ∧ sR (nO S6 13) p = sR S6 p := fun p hp => by
    have e := ti_wN (S := S6) (κ := 13) (l := 0) (s := kr_cN (13 - 10)) (k := p) (by omega)
    exact ⟨e.2.2.1, e.1, e.2.2.2.1⟩
  have nw : sI (nO S6 13) (sN S6) = fun _ => 0 := (ti_wN0 S6 13 0 (kr_cN (13 - 10))).2.2.1
  have nn : sN (nO S6 13) = sN S6 + 1 := rfl
  generalize nO S6 13 = S8 at *
  refine r_bind (x_Flow (S := S8) (k := sN S6) (by omega) e13) (fun S9 h9 => ?_)
  obtain ⟨a1, a2, a3, r, a4, a5⟩ := h9
  have k9 : sK S9 4 = 22 := by rw [(a2 4 (by omega)).2, (old 4 n4).2.1, K46]
  rw [ti_pR k9 (pb_k (by rw [(a2 (sN S6) (by omega)).2, e13]; decide)), Option.bind_some]
  have k10 : sK (wR S9 4 5 (some (sN S6))) 4 = 22 := k9
  obtain ⟨d, hd, hd2, -⟩ := r46
  have hd17 : d = 17 := g6.1.t7 d 17 (by rw [hd2]; rfl)
  have k20 : sK S6 d = 10 := (Tx.K g6.1 hd2 (by decide)).trans rfl
  have nd : d < sN S6 := (g6.1.t1 d (by rw [hd2]; decide)).1
  have r10 : sR (wR S9 4 5 (some (sN S6))) 4 6 = some d := by
    rw [ti_sR_ne (by omega), a3 4 6 (by omega) (by omega), (old 4 n4).2.2]
    exact hd
  have k10d : sK (wR S9 4 5 (some (sN S6))) d = 10 := by
    show sK S9 d = 10
    rw [(a2 d (by omega)).2, (old d nd).2.1, k20]
  have new : NEW S (wR S9 4 5 (some (sN S6))) := by
    refine ⟨?_, sN S6, r, ti_sR_eq S9 4 5 _, ?_, fun j hj => ?_, a5⟩
    · show sI S9 17 2 = _
      rw [(a2 17 (by omega)).1, (old 17 n17).1]
      exact e7s
    · show sI S9 (sN S6) 5 = 0
      rw [(a2 (sN S6) (by omega)).1, nw]
    · rw [ti_sR_ne (by omega)]
      exact a4 j hj
  generalize wR S9 4 5 (some (sN S6)) = S10 at *
  rw [ti_gR k10, Option.bind_some, r10, ti_rv k10d, Option.bind_some]
  unfold f_AL_size
  rw [ti_gI k10d, Option.bind_some, b2_s, hd17, new.1, Int32.add_sub_cancel]
  exact r_some ⟨rfl, new⟩
def PK (S : AS) (n : Nat) : Prop := 0 < n ∧ (sI S 17 2).toInt < 8 ∧ nxin S 96 n ∧ ∃ ρ, rnk S 96 n ρ
theorem x_K_publish {T : Nat → Nat} {S : AS} {f n : Nat} {r : Nat → Nat} (hT : TI T S) (hx : Tx T 1 (some 4)) (h : DR T S f n r) (hsr : SR S) : Ho (f_K_publish S (some 4)) (fun q => (¬ PK S n ∧ q = (.inr "java/lang/IllegalStateException", wX S)) ∨ (PK S n ∧ q.1 = .inl (sI S 17 2) ∧ NEW S q.2)) := by
  obtain ⟨K4, Kf, Kr, -⟩ := DR_K hT h
  have hn := h.2.2.1
  have i1 := (gl2 n (by omega)).1
  have no : ∀ {S' : AS}, S' = S → ¬ PK S n → Ho (f_K_publish_B54 S' (some 4)) (fun q => (¬ PK S n ∧ q = (.inr "java/lang/IllegalStateException", wX S)) ∨ (PK S n ∧ q.1 = .inl (sI S 17 2) ∧ NEW S q.2)) := fun e hp => by
    rw [e]
    unfold f_K_publish_B54 f_K_publish_B55
    rw [rS0, bx_r]
    exact r_some (Or.inl ⟨hp, rfl⟩)
  unfold f_K_publish
  refine r_gR hT hx rfl rfl (fun v27 h1 => ?_)
  refine r_rv hT h1 rfl ?_
  refine r_size 0 hT h1 (by decide) (fun v30 e2 => ?_)
  have e2 : v30 = sI S 17 2 := e2
  refine r_if (fun c => ?_) (fun c => ?_)
  · have := Int32.le_iff_toInt_le.mp c
    rw [show (8 : Int32).toInt = 8 from by decide, e2] at this
    unfold f_K_publish_B17
    rw [rS0, bx_r]
    exact r_some (Or.inl ⟨fun q => by have := q.2.1; omega, rfl⟩)
  · have h8 := Int32.lt_iff_toInt_lt.mp (Int32.not_le.mp c)
    rw [show (8 : Int32).toInt = 8 from by decide, e2] at h8
    unfold f_K_publish_B17
    rw [rS1, bx_l, ti_gR K4, Option.bind_some, h.1, x_g Kf h.2.2.2.1, Option.bind_some]
    refine r_if (fun c2 => no rfl (fun q => ?_)) (fun c2 => ?_)
    · have := Int32.le_iff_toInt_le.mp c2
      rw [i1, show (0 : Int32).toInt = 0 from by decide] at this
      have := q.1
      omega
    · have n0 : 0 < n := by
        have := Int32.lt_iff_toInt_lt.mp (Int32.not_le.mp c2)
        rw [i1, show (0 : Int32).toInt = 0 from by decide] at this
        omega
      rw [Option.bind_some, ti_rv Kf, Option.bind_some]
      refine r_b2 (x_all hT h hsr) (fun v22 S21 p => ?_)
      obtain ⟨e, p⟩ := p
      have e : S21 = S := e
      rw [e]
      rcases p with ⟨p, hx1⟩ | ⟨p, hx1⟩
      · have p : v22 = 1 := p
        rw [p, if_neg (by decide : ¬ (1 : Int32) = 0), ti_gR K4, Option.bind_some, h.1, ti_rv Kf, Option.bind_some]
        refine r_b2 (x_loop hT h hsr hx1) (fun v26 S25 p2 => ?_)
        obtain ⟨e', p2⟩ := p2
        have e' : S25 = S := e'
        rw [e']
        rcases p2 with ⟨p2, hr⟩ | ⟨p2, hr⟩
        · have p2 : v26 = 0 := p2
          rw [p2, if_pos rfl]
          obtain ⟨q, hq, hq2⟩ := x_B55 hT hx h8
          exact ⟨q, hq, Or.inr ⟨⟨n0, h8, hx1, hr⟩, hq2⟩⟩
        · have p2 : v26 = 1 := p2
          rw [p2, if_neg (by decide : ¬ (1 : Int32) = 0)]
          exact no rfl (fun q => hr q.2.2.2)
      · have p : v22 = 0 := p
        rw [p, if_pos rfl]
        exact no rfl (fun q => hx1 q.2.2.1)
