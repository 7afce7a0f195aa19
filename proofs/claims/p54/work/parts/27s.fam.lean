/-! ===== families are never more than tokens ===== -/
def FT (S : AS) : Prop := (sI S 23 2).toInt ≤ (sI S 24 2).toInt
theorem sz_up {T : Nat → Nat} {S S' : AS} {q : Nat} {hi : Int} (hT : TI T S) (hq : q < 7) (hc : rf (20 + q) 2 = some (0, hi)) (h3 : hi ≤ 1000) (e : sI S' (lp q) 2 = sI S (lp q) 2 + 1) : (sI S' (lp q) 2).toInt = (sI S (lp q) 2).toInt + 1 := by
  rw [e]
  exact toInt_add1 (sizeIn hT hq hc) (by decide) (by omega)
theorem FT_fr {T T' : Nat → Nat} {w : List Nat} {S S' : AS} {c s : Nat} (h : FT S) (hR : Rl T w S c s T' S') (hw : ¬ 2402 ∈ w) : FT S' := by
  have h1 := Rlsize (q := 4) hR (by decide) hw
  have h2 := hR.2.2.2.2.2.2.2.1
  unfold FT at *
  rw [show sI S' 23 2 = sI S 23 2 from h1]
  omega
theorem tF_addToken {T : Nat → Nat} {S : AS} (hT : TI T S) {a0 : Option Nat} {a1 : Option Nat} (h_a0 : Tx T 1 a0) (h_a1 : Tx T 45 a1) (hfszlt5 : (sI S (lp 5) 2).toInt < 200) : Ho (f_K_addToken S a0 a1) (fun q => ∃ T', Rl T kw_K77 S 1 300 T' q ∧ (sI q 24 2).toInt = (sI S 24 2).toInt + 1) := by
  have g0 := Rlrf hT
  unfold f_K_addToken
  refine r_gR g0.1 h_a1 rfl rfl (fun v1 h1 => ?_)
  refine r_gR g0.1 h_a0 rfl rfl (fun v2 h2 => ?_)
  refine r_rv g0.1 h2 rfl ?_
  refine r_size 5 g0.1 h2 (by decide) (fun v5 e3 => ?_)
  refine r_pI (w' := kw_K75) g0 h1 rfl (by decide) (fun _ _ q => by cases q) rfl (by decide) (by decide +kernel) (by unfold phc; decide) (fun s5 g6 => ?_)
  refine r_gR g6.1 h_a1 rfl rfl (fun v7 h7 => ?_)
  refine r_gIe g6.1 h7 rfl (fun v8 b8 e9 => ?_)
  refine r_gIe g6.1 h_a1 rfl (fun v9 b10 e11 => ?_)
  refine r_pI (w' := kw_K76) g6 h7 rfl (by decide) (fun _ _ q => by cases q) rfl (by decide) (by decide +kernel) (by unfold phc; decide) (fun s12 g13 => ?_)
  refine r_gR g13.1 h_a0 rfl rfl (fun v11 h14 => ?_)
  refine r_rv g13.1 h14 rfl ?_
  refine r_b2 (ho_add (w' := kw_K77) 5 g13 h14 (by decide) h_a1 rfl (Int.lt_of_lt_of_le (sz1 5 g13 (by decide) (by decide +kernel) hfszlt5) (by decide)) (by decide) (by decide +kernel)) (fun v14 s15 h19 => ?_)
  obtain ⟨T16, g17, e18, e18s⟩ := h19
  have g20 : Rl T kw_K77 S 1 300 T16 s15 := g17
  have z1 := sz_up (q := 5) (hi := 200) g13.1 (by decide) rfl (by decide) e18s
  have z2 := Rlsize (q := 5) g13 (by decide) (by decide +kernel)
  refine r_some ⟨_, g20, ?_⟩
  rw [z2] at z1
  exact z1
theorem tF_addFirst {T : Nat → Nat} {S : AS} (hT : TI T S) {a0 : Option Nat} {a1 : Option Nat} (h_a0 : Tx T 1 a0) (h_a1 : Tx T 44 a1) (hfszlt5 : (sI S (lp 5) 2).toInt < 200) : Ho (f_K_addFirstHandToken S a0 a1) (fun q => ∃ T', Rl T kw_K77 S 2 320 T' q ∧ (sI q 24 2).toInt = (sI S 24 2).toInt + 1) := by
  have g0 := Rlrf hT
  unfold f_K_addFirstHandToken
  refine r_nO g0 (by decide) (fun s1 g2 r3 k4 => ?_)
  refine r_gIe g2.1 h_a1 rfl (fun v2 b5 e6 => ?_)
  refine r_gIe g2.1 h_a1 rfl (fun v3 b7 e8 => ?_)
  refine r_gIe g2.1 h_a1 rfl (fun v4 b9 e10 => ?_)
  refine r_gR g2.1 h_a0 rfl rfl (fun v5 h11 => ?_)
  refine r_gIe g2.1 h11 rfl (fun v6 b12 e13 => ?_)
  refine r_gIe g2.1 h_a0 rfl (fun v7 b14 e15 => ?_)
  refine r_bind (ho_Token g2 r3 h_a1) (fun s16 h20 => ?_)
  obtain ⟨T18, g17, m19⟩ := h20
  have g21 : Rl T [] S 1 20 T18 s16 := g17
  have u22 := Tx.up h_a0 m19.2.1
  refine r_rv g21.1 u22 rfl ?_
  refine r_bind (tF_addToken g21.1 u22 (⟨_, rfl, m19.1, by decide⟩ : Tx T18 45 (some (sN S))) (Int.lt_of_lt_of_le (sz1 5 g21 (by decide) (by decide +kernel) hfszlt5) (by decide))) (fun s25 h26 => ?_)
  obtain ⟨T27, h28, h28s⟩ := h26
  have g29 : Rl T kw_K77 S 2 320 T27 s25 := Rltrans g21 h28 (by decide +kernel)
  have z2 := Rlsize (q := 5) g21 (by decide) (by decide +kernel)
  refine r_some ⟨_, g29, ?_⟩
  rw [h28s]
  exact congrArg (fun z : Int32 => z.toInt + 1) z2
theorem tF_makeFamily {T : Nat → Nat} {S : AS} (hT : TI T S) {a0 : Option Nat} {a1 : Option Nat} (h_a0 : Tx T 1 a0) (h_a1 : Tx T 44 a1) (hfszlt4 : (sI S (lp 4) 2).toInt < 200) (hfszlt5 : (sI S (lp 5) 2).toInt < 200) : Ho (f_K_makeFamily S a0 a1) (fun q => ∃ T', Rl T kw_K82 S 3 620 T' q ∧ (sI q 23 2).toInt = (sI S 23 2).toInt + 1 ∧ (sI q 24 2).toInt = (sI S 24 2).toInt + 1) := by
  have g0 := Rlrf hT
  unfold f_K_makeFamily
  refine r_gR g0.1 h_a0 rfl rfl (fun v1 h1 => ?_)
  refine r_rv g0.1 h1 rfl ?_
  refine r_size 4 g0.1 h1 (by decide) (fun v4 e2 => ?_)
  refine r_pI (w' := kw_K78) g0 h_a1 rfl (by decide) (fun _ _ q => by cases q) rfl (by decide) (by decide +kernel) (by unfold phc; decide) (fun s4 g5 => ?_)
  refine r_pZ (w' := kw_K79) g5 h_a1 rfl (by decide) (In_w (by decide : In 1 1 (1 : Int32)) (by decide) (by decide)) (fun _ _ q => by cases q; exact (In_w (by decide : In 1 1 (1 : Int32)) (by decide) (by decide))) rfl (by decide) (by decide +kernel) (by unfold phc; decide) (fun s6 g7 => ?_)
  refine r_gR g7.1 h_a0 rfl rfl (fun v7 h8 => ?_)
  refine r_rv g7.1 h8 rfl ?_
  refine r_b2 (ho_add (w' := kw_K80) 4 g7 h8 (by decide) h_a1 rfl (Int.lt_of_lt_of_le (sz1 4 g7 (by decide) (by decide +kernel) hfszlt4) (by decide)) (by decide) (by decide +kernel)) (fun v10 s9 h13 => ?_)
  obtain ⟨T10, g11, e12, e12s⟩ := h13
  have g14 : Rl T kw_K80 S 1 300 T10 s9 := g11
  have z1 := sz_up (q := 4) (hi := 200) g7.1 (by decide) rfl (by decide) e12s
  have z2 := Rlsize (q := 4) g7 (by decide) (by decide +kernel)
  rw [z2] at z1
  have u15 := Tx.up h_a0 e12
  have u16 := Tx.up h_a1 e12
  refine r_gR g14.1 u15 rfl rfl (fun v11 h19 => ?_)
  refine r_gIe g14.1 u16 rfl (fun v12 b20 e21 => ?_)
  refine r_gIe g14.1 u15 rfl (fun v13 b22 e23 => ?_)
  refine r_rv g14.1 h19 rfl ?_
  refine r_bind (t_Audit_write g14.1 h19) (fun s24 h25 => ?_)
  have g26 : Rl T kw_K81 S 1 300 T10 s24 := Rltrans g14 h25 (by decide +kernel)
  have z3 := Rlsize (q := 4) h25 (by decide) (by decide +kernel)
  have z4 := Rlsize (q := 5) g26 (by decide) (by decide +kernel)
  refine r_rv g26.1 u15 rfl ?_
  refine r_bind (tF_addFirst g26.1 u15 u16 (Int.lt_of_lt_of_le (sz1 5 g26 (by decide) (by decide +kernel) hfszlt5) (by decide))) (fun s27 h28 => ?_)
  obtain ⟨T29, h30, h30s⟩ := h28
  have g31 : Rl T kw_K82 S 3 620 T29 s27 := Rltrans g26 h30 (by decide +kernel)
  have z5 := Rlsize (q := 4) h30 (by decide) (by decide +kernel)
  refine r_some ⟨_, g31, ?_, ?_⟩
  · have : sI s27 23 2 = sI s9 23 2 := z5.trans z3
    rw [this]
    exact z1
  · rw [h30s]
    exact congrArg (fun z : Int32 => z.toInt + 1) z4
theorem tF_redeem {T : Nat → Nat} {S : AS} (hT : TI T S) {a0 : Option Nat} {a1 : Int32} (h_a0 : Tx T 1 a0) (hF : FT S) : Ho (f_K_redeem S a0 a1) (fun q => PY T kw_K83 S 3 620 ["java/lang/IllegalStateException", "java/lang/IndexOutOfBoundsException"] (fun _ _ => True) q ∧ FT q.2) := by
  have g0 := Rlrf hT
  have w0 : Rl T kw_K83 S 3 620 T S := Rlweak g0 (by decide +kernel) (by decide) (by decide)
  have x0 : Rl T kw_K83 S 3 620 T (wX S) := Rlweak (RlwX g0) (by decide +kernel) (by decide) (by decide)
  have fx : FT (wX S) := hF
  have ret : ∀ v : Int32, Ho (some (Sum.inl v, S)) (fun q : (Int32 ⊕ String) × AS => PY T kw_K83 S 3 620 ["java/lang/IllegalStateException", "java/lang/IndexOutOfBoundsException"] (fun _ _ => True) q ∧ FT q.2) := fun v => r_some ⟨⟨_, w0, Or.inl ⟨_, rfl, trivial⟩⟩, hF⟩
  unfold f_K_redeem
  refine r_gR g0.1 h_a0 rfl rfl (fun v6 h1 => ?_)
  refine r_rv g0.1 h1 rfl ?_
  refine r_size 3 g0.1 h1 (by decide) (fun v9 e2 => ?_)
  have q3 : In 0 60 v9 := by rw [e2]; exact sizeIn (q := 3) g0.1 (by decide) rfl
  refine r_rI (fun p4 c5 => ?_) ⟨⟨_, x0, Or.inr ⟨_, rfl, by decide +kernel⟩⟩, fx⟩
  refine r_gR g0.1 h_a0 rfl rfl (fun v12 h8 => ?_)
  refine r_rv g0.1 h8 rfl ?_
  refine r_P (ho_get 3 g0.1 h8 (by decide) p4 (sz_lt2 c5 e2)) (fun v15 (h9 : Tx T 44 v15) => ?_)
  refine r_cc g0.1 h9 rfl ?_
  refine r_gIe g0.1 h9 rfl (fun v17 b10 e11 => ?_)
  refine r_if (fun c12 => ?_) (fun c12 => ?_)
  · refine r_gR g0.1 h9 rfl rfl (fun v18 h14 => ?_)
    refine r_gIe g0.1 h14 rfl (fun v19 b15 e16 => ?_)
    refine r_if (fun c18 => ret _) (fun c18 => ?_)
    refine r_gIe g0.1 h_a0 rfl (fun v20 b21 e22 => ?_)
    refine r_gIe g0.1 h9 rfl (fun v21 b23 e24 => ?_)
    refine r_if (fun c25 => ?_) (fun c25 => ret _)
    refine r_gR g0.1 h_a0 rfl rfl (fun v22 h26 => ?_)
    refine r_rv g0.1 h26 rfl ?_
    refine r_size 5 g0.1 h26 (by decide) (fun v25 e27 => ?_)
    refine r_if (fun c29 => ?_) (fun c29 => ?_)
    · unfold f_K_redeem_B81
      exact r_rS (fun c => absurd rfl c) ⟨⟨_, x0, Or.inr ⟨_, rfl, by decide +kernel⟩⟩, fx⟩
    · have z31 : (sI S (lp 5) 2).toInt < (200 : Int32).toInt := sz0 5 g0 (by decide) (by decide +kernel) e27 c29
      have z32 : (sI S (lp 5) 2).toInt < 200 := z31
      have z4 : (sI S (lp 4) 2).toInt < 200 := Int.lt_of_le_of_lt hF z32
      unfold f_K_redeem_B81
      refine r_rS (fun _ => ?_) ⟨⟨_, x0, Or.inr ⟨_, rfl, by decide +kernel⟩⟩, fx⟩
      refine r_rv g0.1 h_a0 rfl ?_
      refine r_bind (tF_makeFamily g0.1 h_a0 h9 z4 z32) (fun s2 h3 => ?_)
      obtain ⟨T4, h5, h5a, h5b⟩ := h3
      have u8 := Tx.up h9 h5.ty
      refine r_gIe h5.1 u8 rfl (fun v5 b9 e10 => ?_)
      refine r_some ⟨⟨_, Rlweak h5 (by decide +kernel) (by decide) (by decide), Or.inl ⟨_, rfl, trivial⟩⟩, ?_⟩
      show (sI s2 23 2).toInt ≤ (sI s2 24 2).toInt
      rw [h5a, h5b]
      have : (sI S 23 2).toInt ≤ (sI S 24 2).toInt := hF
      omega
  · refine r_rv g0.1 h_a0 rfl ?_
    refine r_X (t_K_endFamily g0.1 h_a0 h9) (fun z28 s34 g35 h33 => ?_) (fun e _ gg he => absurd he (by simp))
    exact r_some ⟨⟨_, Rlweak g35 (by decide +kernel) (by decide) (by decide), Or.inl ⟨_, rfl, trivial⟩⟩, FT_fr hF g35 (by decide +kernel)⟩
/-! ===== a long is written; the calls' wrappers ===== -/
theorem sJ_ne {S : AS} {k j a b : Nat} {v : Int64} (h : ¬ (a = k ∧ b = j)) : sJ (wJ S k j v) a b = sJ S a b := by
  show (if a = k ∧ b = j then v else sJ S a b) = _
  rw [if_neg h]
theorem RlwJ {T0 T : Nat → Nat} {w : List Nat} {S0 S : AS} {c s k j : Nat} {v : Int64} (h : Rl T0 w S0 c s T S) : Rl T0 (99999 :: w) S0 c s T (wJ S k j v) :=
  ⟨h.1, h.2.1, h.2.2.1, h.2.2.2.1, fun a b p q => h.fI a b p (fun z => q (List.mem_cons_of_mem _ z)), fun a b p q => h.fR a b p (fun z => q (List.mem_cons_of_mem _ z)), fun a b p q => absurd List.mem_cons_self q, h.2.2.2.2.2.2.2.1, h.2.2.2.2.2.2.2.2⟩
theorem r_bhX {α β : Type} {T : Nat → Nat} {w : List Nat} {S : AS} {c s : Nat} {es : List String} {x : Option ((α ⊕ String) × AS)} {G : String → AS → Option β} {F : α → AS → Option β} {P : α → Prop} {Q : β → Prop} (hc : Ho x (PX T w S c s es P)) (h : ∀ v S', Rl T w S c s T S' → P v → Ho (F v S') Q) (he : ∀ e S', Rl T w S c s T S' → e ∈ es → Ho (G e S') Q) : Ho (kr_bh x G F) Q := by
  obtain ⟨⟨v, S'⟩, rfl, h1, h2⟩ := hc
  rcases h2 with ⟨v', e1, e3⟩ | ⟨e, e1, e3⟩
  · cases e1
    exact h v' S' h1 e3
  · cases e1
    exact he e S' h1 e3
theorem r_bhY {α β : Type} {T : Nat → Nat} {w : List Nat} {S : AS} {c s : Nat} {es : List String} {x : Option ((α ⊕ String) × AS)} {G : String → AS → Option β} {F : α → AS → Option β} {P : α → (Nat → Nat) → Prop} {Q : β → Prop} (hc : Ho x (PY T w S c s es P)) (h : ∀ v T' S', Rl T w S c s T' S' → P v T' → Ho (F v S') Q) (he : ∀ e T' S', Rl T w S c s T' S' → e ∈ es → Ho (G e S') Q) : Ho (kr_bh x G F) Q := by
  obtain ⟨⟨v, S'⟩, rfl, T', h1, h2⟩ := hc
  rcases h2 with ⟨v', e1, e3⟩ | ⟨e, e1, e3⟩
  · cases e1
    exact h v' T' S' h1 e3
  · cases e1
    exact he e T' S' h1 e3
theorem r_bhT {α β : Type} {S : AS} {es : List String} {x : Option ((α ⊕ String) × AS)} {G : String → AS → Option β} {F : α → AS → Option β} {P : α → Prop} {Q : β → Prop} (hc : Ho x (PT S es P)) (h : ∀ v, P v → Ho (F v S) Q) (he : ∀ e, e ∈ es → Ho (G e (wX S)) Q) : Ho (kr_bh x G F) Q := by
  obtain ⟨⟨v, S'⟩, rfl, hp⟩ := hc
  rcases hp with ⟨v', e1, e2, e3⟩ | ⟨e, e1, e2, e3⟩
  · cases e1
    cases e2
    exact h v' e3
  · cases e1
    cases e2
    exact he e e3
/-- a run of a wrapper that ends somehow, its state kept by its list -/
def PW (T : Nat → Nat) (w : List Nat) (S : AS) (c s : Nat) (S' : AS) : Prop := ∃ T', Rl T (99999 :: w) S c s T' S'
theorem PW_of {T T' : Nat → Nat} {w : List Nat} {S S' : AS} {c s : Nat} (h : Rl T w S c s T' S') : PW T w S c s S' := ⟨T', Rlweak h (fun _ z => List.mem_cons_of_mem _ z) (Nat.le_refl _) (Nat.le_refl _)⟩
