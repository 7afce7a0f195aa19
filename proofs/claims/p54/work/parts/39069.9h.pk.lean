/-! ===== each call of the class, the reference's beside it (wip/gen/mkpk.py) ===== -/
theorem kk_T {α : Type} {T : Nat → Nat} {S : AS} {es : List String} {x : Option ((α ⊕ String) × AS)} {P : α → Prop} (hT : TI T S) (h : Ho x (PT S es P)) : Ho x (fun q => PW T [] S 10 700 q.2) := by
  obtain ⟨q, e, h⟩ := h
  refine ⟨q, e, ?_⟩
  rcases h with ⟨v, -, e2, -⟩ | ⟨v, -, e2, -⟩
  · rw [e2]
    exact PW_of (Rlweak (Rlrf hT) (fun _ z => z) (by decide) (by decide))
  · rw [e2]
    exact PW_of (Rlweak (RlwX (Rlrf hT)) (fun _ z => z) (by decide) (by decide))
theorem kk_X {α : Type} {T : Nat → Nat} {w : List Nat} {S : AS} {c s : Nat} {es : List String} {x : Option ((α ⊕ String) × AS)} {P : α → Prop} (h : Ho x (PX T w S c s es P)) (hc : c ≤ 10) (hs : s ≤ 700) : Ho x (fun q => PW T w S 10 700 q.2) := by
  obtain ⟨q, e, h, -⟩ := h
  exact ⟨q, e, PW_of (Rlweak h (fun _ z => z) hc hs)⟩
theorem kk_Y {α : Type} {T : Nat → Nat} {w : List Nat} {S : AS} {c s : Nat} {es : List String} {x : Option ((α ⊕ String) × AS)} {P : α → (Nat → Nat) → Prop} (h : Ho x (PY T w S c s es P)) (hc : c ≤ 10) (hs : s ≤ 700) : Ho x (fun q => PW T w S 10 700 q.2) := by
  obtain ⟨q, e, T', h, -⟩ := h
  exact ⟨q, e, PW_of (Rlweak h (fun _ z => z) hc hs)⟩
theorem kk_S {α : Type} {T : Nat → Nat} {S : AS} {x : Option (α × AS)} {P : α × AS → Prop} (hT : TI T S) (h : Ho x (fun q => q.2 = S ∧ P q)) : Ho x (fun q => PW T [] S 10 700 q.2) := by
  obtain ⟨q, e, h, -⟩ := h
  exact ⟨q, e, by
    show PW T [] S 10 700 q.2
    rw [h]
    exact PW_of (Rlweak (Rlrf hT) (fun _ z => z) (by decide) (by decide))⟩
theorem kk_R {α : Type} {T : Nat → Nat} {w : List Nat} {S : AS} {c s : Nat} {x : Option (α × AS)} {P : α × AS → Prop} (h : Ho x (fun q => Rl T w S c s T q.2 ∧ P q)) (hc : c ≤ 10) (hs : s ≤ 700) : Ho x (fun q => PW T w S 10 700 q.2) := by
  obtain ⟨q, e, h, -⟩ := h
  exact ⟨q, e, PW_of (Rlweak h (fun _ z => z) hc hs)⟩
/-- a call of the class and, beside it, the reference's: what is written, what holds again -/
def PKg (n : Nat) (T : Nat → Nat) (w wM : List Nat) (S S1 : AS) (T1 : Nat → Nat) (S2 : AS) : Prop := Rl T (99999 :: w) S 10 700 T1 S1 ∧ Rl T1 wM S1 1 0 T1 S2 ∧ GF S1 S2 ∧ IV (n + 1) T1 S2 ∧ RPF T1 S2
theorem pk_pass {n : Nat} {T : Nat → Nat} {S : AS} {a0 : Int32} (hI : IV n T S) (hn : n ≤ 600) (hr : RPF T S) : ∃ r S1 v S2 T1, f_K_pass S (some 4) a0 = some (r, S1) ∧ f_M_pass S1 (some 57) a0 = some (v, S2) ∧ PKg n T kw_K41 kw_M9 S S1 T1 S2 ∧ AN [eA, eS] r v (sI S2 57 82) := by
  have q1 : Tx T 1 (some 4) := ⟨4, rfl, hI.1.t9.2.2.2.2.1, by decide⟩
  have q57 : Tx T 100 (some 57) := ⟨57, rfl, hI.1.t9.1, by decide⟩
  obtain ⟨⟨r, S1⟩, e1, T1, g1⟩ : Ho (f_K_pass S (some 4) a0) (fun q => PW T kw_K41 S 10 700 q.2) := kk_X (t_K_pass hI.1 q1) (by decide) (by decide)
  have g1 : Rl T (99999 :: kw_K41) S 10 700 T1 S1 := g1
  have f1 : FT S1 := FT_fr hI.2.2.2.1 g1 (by decide +kernel)
  have i1 := IV_K hI g1 q57 (by decide +kernel)
  obtain ⟨⟨v, S2⟩, e2, g2, m2⟩ := mm_pass (a1 := a0) g1.1 (q57.up g1.ty) i1.1 (by have := i1.2; omega)
  have g2 : Rl T1 kw_M9 S1 1 0 T1 S2 := g2
  have iv : IV (n + 1) T1 S2 := IV_M hI g1 i1.2 f1 g2 m2 (by decide +kernel)
  obtain ⟨⟨f, m, rr, dr⟩, t1, h⟩ := hr
  have hT : TV T S := ⟨hI.1, t1⟩
  have t1' : T1 1 = 52 := (g1.ty 1 (by rw [t1]; decide)).trans t1
  have h1 := FR_K hT h g1 (by decide +kernel)
  obtain ⟨an, p⟩ := (h_pass hT g1.1 h1 a0) _ _ e1 e2
  have b := FR_BB hT hI.1 h
  have fk : FK T S S1 := (f_pass (BF_of hT.1) a0) _ e1
  have e3 : nC S2 = nC S1 := enC (FR_BB hT g1.1 h1) (Kp_of g2 (cs := [10039]) (by decide +kernel)) (by decide)
  have e4 : ∀ c, sI S2 98 c = sI S1 98 c := fun c => (Kp_of g2 (cs := [14500]) (by decide +kernel)).M g1.1 (j := 45) (p := 98) rfl (by decide) (by decide) c
  have f12 : FR S1 S2 := FA_x_pass hT g1.1 h1 (Kp_of g1 (by decide +kernel)) (Kp_of g2 (by decide +kernel)) (show cNW S1 S2 from p.1) (show cLiv S1 S2 from p.2.1) (show cGod S1 S2 from p.2.2.1) (show cKey S1 S2 from p.2.2.2.1) (show cAU S1 S2 from p.2.2.2.2) (Fre_of hT g1.1 h1 fk e3 e4)
  exact ⟨r, S1, v, S2, T1, e1, e2, ⟨g1, g2, g_f_M_pass _ _ _ (GF_rf S1) _ e2, iv, ⟨f, m, rr, DR_fr (DR_fr dr g1 (by decide +kernel)) g2 (by decide +kernel)⟩, t1', FR_M ⟨g1.1, t1'⟩ g2.1 f12 g2 (by decide +kernel)⟩, an⟩
theorem pk_factor {n : Nat} {T : Nat → Nat} {S : AS} {a0 a1 : Int32} (hI : IV n T S) (hn : n ≤ 600) (hr : RPF T S) : ∃ r S1 v S2 T1, f_K_factor S (some 4) a0 a1 = some (r, S1) ∧ f_M_factor S1 (some 57) a0 a1 = some (v, S2) ∧ PKg n T [] kw_M4 S S1 T1 S2 ∧ AN [eX, eA] r v (sI S2 57 82) := by
  have q1 : Tx T 1 (some 4) := ⟨4, rfl, hI.1.t9.2.2.2.2.1, by decide⟩
  have q57 : Tx T 100 (some 57) := ⟨57, rfl, hI.1.t9.1, by decide⟩
  obtain ⟨⟨r, S1⟩, e1, T1, g1⟩ : Ho (f_K_factor S (some 4) a0 a1) (fun q => PW T [] S 10 700 q.2) := kk_T hI.1 (t_K_factor hI.1 q1)
  have g1 : Rl T (99999 :: []) S 10 700 T1 S1 := g1
  have f1 : FT S1 := FT_fr hI.2.2.2.1 g1 (by decide +kernel)
  have i1 := IV_K hI g1 q57 (by decide +kernel)
  obtain ⟨⟨v, S2⟩, e2, g2, m2⟩ := mm_factor (a1 := a0) (a2 := a1) g1.1 (q57.up g1.ty) i1.1 (by have := i1.2; omega)
  have g2 : Rl T1 kw_M4 S1 1 0 T1 S2 := g2
  have iv : IV (n + 1) T1 S2 := IV_M hI g1 i1.2 f1 g2 m2 (by decide +kernel)
  obtain ⟨⟨f, m, rr, dr⟩, t1, h⟩ := hr
  have hT : TV T S := ⟨hI.1, t1⟩
  have t1' : T1 1 = 52 := (g1.ty 1 (by rw [t1]; decide)).trans t1
  have h1 := FR_K hT h g1 (by decide +kernel)
  obtain ⟨an, p⟩ := (h_factor hT g1.1 h1 a0 a1) _ _ e1 e2
  have f12 : FR S1 S2 := FA_x_factor hT g1.1 h1 (Kp_of g1 (by decide +kernel)) (Kp_of g2 (by decide +kernel)) 
  exact ⟨r, S1, v, S2, T1, e1, e2, ⟨g1, g2, g_f_M_factor _ _ _ _ (GF_rf S1) _ e2, iv, ⟨f, m, rr, DR_fr (DR_fr dr g1 (by decide +kernel)) g2 (by decide +kernel)⟩, t1', FR_M ⟨g1.1, t1'⟩ g2.1 f12 g2 (by decide +kernel)⟩, an⟩
theorem pk_state {n : Nat} {T : Nat → Nat} {S : AS} {a0 : Int32} (hI : IV n T S) (hn : n ≤ 600) (hr : RPF T S) : ∃ r S1 v S2 T1, f_K_state S (some 4) a0 = some (r, S1) ∧ f_M_state S1 (some 57) a0 = some (v, S2) ∧ PKg n T [] kw_M4 S S1 T1 S2 ∧ AN [eX] r v (sI S2 57 82) := by
  have q1 : Tx T 1 (some 4) := ⟨4, rfl, hI.1.t9.2.2.2.2.1, by decide⟩
  have q57 : Tx T 100 (some 57) := ⟨57, rfl, hI.1.t9.1, by decide⟩
  obtain ⟨⟨r, S1⟩, e1, T1, g1⟩ : Ho (f_K_state S (some 4) a0) (fun q => PW T [] S 10 700 q.2) := kk_T hI.1 (t_K_state hI.1 q1)
  have g1 : Rl T (99999 :: []) S 10 700 T1 S1 := g1
  have f1 : FT S1 := FT_fr hI.2.2.2.1 g1 (by decide +kernel)
  have i1 := IV_K hI g1 q57 (by decide +kernel)
  obtain ⟨⟨v, S2⟩, e2, g2, m2⟩ := mm_state (a1 := a0) g1.1 (q57.up g1.ty) i1.1 (by have := i1.2; omega)
  have g2 : Rl T1 kw_M4 S1 1 0 T1 S2 := g2
  have iv : IV (n + 1) T1 S2 := IV_M hI g1 i1.2 f1 g2 m2 (by decide +kernel)
  obtain ⟨⟨f, m, rr, dr⟩, t1, h⟩ := hr
  have hT : TV T S := ⟨hI.1, t1⟩
  have t1' : T1 1 = 52 := (g1.ty 1 (by rw [t1]; decide)).trans t1
  have h1 := FR_K hT h g1 (by decide +kernel)
  obtain ⟨an, p⟩ := (h_state hT g1.1 h1 a0) _ _ e1 e2
  have f12 : FR S1 S2 := FA_x_state hT g1.1 h1 (Kp_of g1 (by decide +kernel)) (Kp_of g2 (by decide +kernel)) 
  exact ⟨r, S1, v, S2, T1, e1, e2, ⟨g1, g2, g_f_M_state _ _ _ (GF_rf S1) _ e2, iv, ⟨f, m, rr, DR_fr (DR_fr dr g1 (by decide +kernel)) g2 (by decide +kernel)⟩, t1', FR_M ⟨g1.1, t1'⟩ g2.1 f12 g2 (by decide +kernel)⟩, an⟩
theorem pk_sessionOf {n : Nat} {T : Nat → Nat} {S : AS} {a0 : Int32} (hI : IV n T S) (hn : n ≤ 600) (hr : RPF T S) : ∃ r S1 v S2 T1, f_K_sessionOf S (some 4) a0 = some (r, S1) ∧ f_M_sessionOf S1 (some 57) a0 = some (v, S2) ∧ PKg n T [] kw_M4 S S1 T1 S2 ∧ AN [eX] r v (sI S2 57 82) := by
  have q1 : Tx T 1 (some 4) := ⟨4, rfl, hI.1.t9.2.2.2.2.1, by decide⟩
  have q57 : Tx T 100 (some 57) := ⟨57, rfl, hI.1.t9.1, by decide⟩
  obtain ⟨⟨r, S1⟩, e1, T1, g1⟩ : Ho (f_K_sessionOf S (some 4) a0) (fun q => PW T [] S 10 700 q.2) := kk_T hI.1 (t_K_sessionOf hI.1 q1)
  have g1 : Rl T (99999 :: []) S 10 700 T1 S1 := g1
  have f1 : FT S1 := FT_fr hI.2.2.2.1 g1 (by decide +kernel)
  have i1 := IV_K hI g1 q57 (by decide +kernel)
  obtain ⟨⟨v, S2⟩, e2, g2, m2⟩ := mm_sessionOf (a1 := a0) g1.1 (q57.up g1.ty) i1.1 (by have := i1.2; omega)
  have g2 : Rl T1 kw_M4 S1 1 0 T1 S2 := g2
  have iv : IV (n + 1) T1 S2 := IV_M hI g1 i1.2 f1 g2 m2 (by decide +kernel)
  obtain ⟨⟨f, m, rr, dr⟩, t1, h⟩ := hr
  have hT : TV T S := ⟨hI.1, t1⟩
  have t1' : T1 1 = 52 := (g1.ty 1 (by rw [t1]; decide)).trans t1
  have h1 := FR_K hT h g1 (by decide +kernel)
  obtain ⟨an, p⟩ := (h_sessionOf hT g1.1 h1 a0) _ _ e1 e2
  have f12 : FR S1 S2 := FA_x_sessionOf hT g1.1 h1 (Kp_of g1 (by decide +kernel)) (Kp_of g2 (by decide +kernel)) 
  exact ⟨r, S1, v, S2, T1, e1, e2, ⟨g1, g2, g_f_M_sessionOf _ _ _ (GF_rf S1) _ e2, iv, ⟨f, m, rr, DR_fr (DR_fr dr g1 (by decide +kernel)) g2 (by decide +kernel)⟩, t1', FR_M ⟨g1.1, t1'⟩ g2.1 f12 g2 (by decide +kernel)⟩, an⟩
theorem pk_isLive {n : Nat} {T : Nat → Nat} {S : AS} {a0 : Int32} (hI : IV n T S) (hn : n ≤ 600) (hr : RPF T S) : ∃ r S1 v S2 T1, f_K_isLive S (some 4) a0 = some (r, S1) ∧ f_M_isLive S1 (some 57) a0 = some (v, S2) ∧ PKg n T [] kw_M4 S S1 T1 S2 ∧ AN [eX] r v (sI S2 57 82) := by
  have q1 : Tx T 1 (some 4) := ⟨4, rfl, hI.1.t9.2.2.2.2.1, by decide⟩
  have q57 : Tx T 100 (some 57) := ⟨57, rfl, hI.1.t9.1, by decide⟩
  obtain ⟨⟨r, S1⟩, e1, T1, g1⟩ : Ho (f_K_isLive S (some 4) a0) (fun q => PW T [] S 10 700 q.2) := kk_T hI.1 (t_K_isLive hI.1 q1)
  have g1 : Rl T (99999 :: []) S 10 700 T1 S1 := g1
  have f1 : FT S1 := FT_fr hI.2.2.2.1 g1 (by decide +kernel)
  have i1 := IV_K hI g1 q57 (by decide +kernel)
  obtain ⟨⟨v, S2⟩, e2, g2, m2⟩ := mm_isLive (a1 := a0) g1.1 (q57.up g1.ty) i1.1 (by have := i1.2; omega)
  have g2 : Rl T1 kw_M4 S1 1 0 T1 S2 := g2
  have iv : IV (n + 1) T1 S2 := IV_M hI g1 i1.2 f1 g2 m2 (by decide +kernel)
  obtain ⟨⟨f, m, rr, dr⟩, t1, h⟩ := hr
  have hT : TV T S := ⟨hI.1, t1⟩
  have t1' : T1 1 = 52 := (g1.ty 1 (by rw [t1]; decide)).trans t1
  have h1 := FR_K hT h g1 (by decide +kernel)
  obtain ⟨an, p⟩ := (h_isLive hT g1.1 h1 a0) _ _ e1 e2
  have f12 : FR S1 S2 := FA_x_isLive hT g1.1 h1 (Kp_of g1 (by decide +kernel)) (Kp_of g2 (by decide +kernel)) 
  exact ⟨r, S1, v, S2, T1, e1, e2, ⟨g1, g2, g_f_M_isLive _ _ _ (GF_rf S1) _ e2, iv, ⟨f, m, rr, DR_fr (DR_fr dr g1 (by decide +kernel)) g2 (by decide +kernel)⟩, t1', FR_M ⟨g1.1, t1'⟩ g2.1 f12 g2 (by decide +kernel)⟩, an⟩
theorem pk_isGood {n : Nat} {T : Nat → Nat} {S : AS} {a0 : Int32} (hI : IV n T S) (hn : n ≤ 600) (hr : RPF T S) : ∃ r S1 v S2 T1, f_K_isGood S (some 4) a0 = some (r, S1) ∧ f_M_isGood S1 (some 57) a0 = some (v, S2) ∧ PKg n T [] kw_M4 S S1 T1 S2 ∧ AN [eX] r v (sI S2 57 82) := by
  have q1 : Tx T 1 (some 4) := ⟨4, rfl, hI.1.t9.2.2.2.2.1, by decide⟩
  have q57 : Tx T 100 (some 57) := ⟨57, rfl, hI.1.t9.1, by decide⟩
  obtain ⟨⟨r, S1⟩, e1, T1, g1⟩ : Ho (f_K_isGood S (some 4) a0) (fun q => PW T [] S 10 700 q.2) := kk_T hI.1 (t_K_isGood hI.1 q1)
  have g1 : Rl T (99999 :: []) S 10 700 T1 S1 := g1
  have f1 : FT S1 := FT_fr hI.2.2.2.1 g1 (by decide +kernel)
  have i1 := IV_K hI g1 q57 (by decide +kernel)
  obtain ⟨⟨v, S2⟩, e2, g2, m2⟩ := mm_isGood (a1 := a0) g1.1 (q57.up g1.ty) i1.1 (by have := i1.2; omega)
  have g2 : Rl T1 kw_M4 S1 1 0 T1 S2 := g2
  have iv : IV (n + 1) T1 S2 := IV_M hI g1 i1.2 f1 g2 m2 (by decide +kernel)
  obtain ⟨⟨f, m, rr, dr⟩, t1, h⟩ := hr
  have hT : TV T S := ⟨hI.1, t1⟩
  have t1' : T1 1 = 52 := (g1.ty 1 (by rw [t1]; decide)).trans t1
  have h1 := FR_K hT h g1 (by decide +kernel)
  obtain ⟨an, p⟩ := (h_isGood hT g1.1 h1 a0) _ _ e1 e2
  have f12 : FR S1 S2 := FA_x_isGood hT g1.1 h1 (Kp_of g1 (by decide +kernel)) (Kp_of g2 (by decide +kernel)) 
  exact ⟨r, S1, v, S2, T1, e1, e2, ⟨g1, g2, g_f_M_isGood _ _ _ (GF_rf S1) _ e2, iv, ⟨f, m, rr, DR_fr (DR_fr dr g1 (by decide +kernel)) g2 (by decide +kernel)⟩, t1', FR_M ⟨g1.1, t1'⟩ g2.1 f12 g2 (by decide +kernel)⟩, an⟩
theorem pk_tokenOf {n : Nat} {T : Nat → Nat} {S : AS} {a0 : Int32} (hI : IV n T S) (hn : n ≤ 600) (hr : RPF T S) : ∃ r S1 v S2 T1, f_K_tokenOf S (some 4) a0 = some (r, S1) ∧ f_M_tokenOf S1 (some 57) a0 = some (v, S2) ∧ PKg n T [] kw_M4 S S1 T1 S2 ∧ AN [eX] r v (sI S2 57 82) := by
  have q1 : Tx T 1 (some 4) := ⟨4, rfl, hI.1.t9.2.2.2.2.1, by decide⟩
  have q57 : Tx T 100 (some 57) := ⟨57, rfl, hI.1.t9.1, by decide⟩
  obtain ⟨⟨r, S1⟩, e1, T1, g1⟩ : Ho (f_K_tokenOf S (some 4) a0) (fun q => PW T [] S 10 700 q.2) := kk_T hI.1 (t_K_tokenOf hI.1 q1)
  have g1 : Rl T (99999 :: []) S 10 700 T1 S1 := g1
  have f1 : FT S1 := FT_fr hI.2.2.2.1 g1 (by decide +kernel)
  have i1 := IV_K hI g1 q57 (by decide +kernel)
  obtain ⟨⟨v, S2⟩, e2, g2, m2⟩ := mm_tokenOf (a1 := a0) g1.1 (q57.up g1.ty) i1.1 (by have := i1.2; omega)
  have g2 : Rl T1 kw_M4 S1 1 0 T1 S2 := g2
  have iv : IV (n + 1) T1 S2 := IV_M hI g1 i1.2 f1 g2 m2 (by decide +kernel)
  obtain ⟨⟨f, m, rr, dr⟩, t1, h⟩ := hr
  have hT : TV T S := ⟨hI.1, t1⟩
  have t1' : T1 1 = 52 := (g1.ty 1 (by rw [t1]; decide)).trans t1
  have h1 := FR_K hT h g1 (by decide +kernel)
  obtain ⟨an, p⟩ := (h_tokenOf hT g1.1 h1 a0) _ _ e1 e2
  have f12 : FR S1 S2 := FA_x_tokenOf hT g1.1 h1 (Kp_of g1 (by decide +kernel)) (Kp_of g2 (by decide +kernel)) 
  exact ⟨r, S1, v, S2, T1, e1, e2, ⟨g1, g2, g_f_M_tokenOf _ _ _ (GF_rf S1) _ e2, iv, ⟨f, m, rr, DR_fr (DR_fr dr g1 (by decide +kernel)) g2 (by decide +kernel)⟩, t1', FR_M ⟨g1.1, t1'⟩ g2.1 f12 g2 (by decide +kernel)⟩, an⟩
theorem pk_token {n : Nat} {T : Nat → Nat} {S : AS} {a0 : Int32} (hI : IV n T S) (hn : n ≤ 600) (hr : RPF T S) : ∃ r S1 v S2 T1, f_K_token S (some 4) a0 = some (r, S1) ∧ f_M_token S1 (some 57) a0 = some (v, S2) ∧ PKg n T [] kw_M4 S S1 T1 S2 ∧ AN [eX] r v (sI S2 57 82) := by
  have q1 : Tx T 1 (some 4) := ⟨4, rfl, hI.1.t9.2.2.2.2.1, by decide⟩
  have q57 : Tx T 100 (some 57) := ⟨57, rfl, hI.1.t9.1, by decide⟩
  obtain ⟨⟨r, S1⟩, e1, T1, g1⟩ : Ho (f_K_token S (some 4) a0) (fun q => PW T [] S 10 700 q.2) := kk_T hI.1 (t_K_token hI.1 q1)
  have g1 : Rl T (99999 :: []) S 10 700 T1 S1 := g1
  have f1 : FT S1 := FT_fr hI.2.2.2.1 g1 (by decide +kernel)
  have i1 := IV_K hI g1 q57 (by decide +kernel)
  obtain ⟨⟨v, S2⟩, e2, g2, m2⟩ := mm_token (a1 := a0) g1.1 (q57.up g1.ty) i1.1 (by have := i1.2; omega)
  have g2 : Rl T1 kw_M4 S1 1 0 T1 S2 := g2
  have iv : IV (n + 1) T1 S2 := IV_M hI g1 i1.2 f1 g2 m2 (by decide +kernel)
  obtain ⟨⟨f, m, rr, dr⟩, t1, h⟩ := hr
  have hT : TV T S := ⟨hI.1, t1⟩
  have t1' : T1 1 = 52 := (g1.ty 1 (by rw [t1]; decide)).trans t1
  have h1 := FR_K hT h g1 (by decide +kernel)
  obtain ⟨an, p⟩ := (h_token hT g1.1 h1 a0) _ _ e1 e2
  have f12 : FR S1 S2 := FA_x_token hT g1.1 h1 (Kp_of g1 (by decide +kernel)) (Kp_of g2 (by decide +kernel)) 
  exact ⟨r, S1, v, S2, T1, e1, e2, ⟨g1, g2, g_f_M_token _ _ _ (GF_rf S1) _ e2, iv, ⟨f, m, rr, DR_fr (DR_fr dr g1 (by decide +kernel)) g2 (by decide +kernel)⟩, t1', FR_M ⟨g1.1, t1'⟩ g2.1 f12 g2 (by decide +kernel)⟩, an⟩
theorem pk_enroll {n : Nat} {T : Nat → Nat} {S : AS} {a0 a1 : Int32} (hI : IV n T S) (hn : n ≤ 600) (hr : RPF T S) : ∃ r S1 v S2 T1, f_K_enroll S (some 4) a0 a1 = some (r, S1) ∧ f_M_enroll S1 (some 57) a0 a1 = some (v, S2) ∧ PKg n T kw_K11 kw_M13 S S1 T1 S2 ∧ AN [eX, eA] r v (sI S2 57 82) := by
  have q1 : Tx T 1 (some 4) := ⟨4, rfl, hI.1.t9.2.2.2.2.1, by decide⟩
  have q57 : Tx T 100 (some 57) := ⟨57, rfl, hI.1.t9.1, by decide⟩
  obtain ⟨⟨r, S1⟩, e1, T1, g1⟩ : Ho (f_K_enroll S (some 4) a0 a1) (fun q => PW T kw_K11 S 10 700 q.2) := kk_X (t_K_enroll hI.1 q1) (by decide) (by decide)
  have g1 : Rl T (99999 :: kw_K11) S 10 700 T1 S1 := g1
  have f1 : FT S1 := FT_fr hI.2.2.2.1 g1 (by decide +kernel)
  have i1 := IV_K hI g1 q57 (by decide +kernel)
  obtain ⟨⟨v, S2⟩, e2, g2, m2⟩ := mm_enroll (a1 := a0) (a2 := a1) g1.1 (q57.up g1.ty) i1.1 (by have := i1.2; omega)
  have g2 : Rl T1 kw_M13 S1 1 0 T1 S2 := g2
  have iv : IV (n + 1) T1 S2 := IV_M hI g1 i1.2 f1 g2 m2 (by decide +kernel)
  obtain ⟨⟨f, m, rr, dr⟩, t1, h⟩ := hr
  have hT : TV T S := ⟨hI.1, t1⟩
  have t1' : T1 1 = 52 := (g1.ty 1 (by rw [t1]; decide)).trans t1
  have h1 := FR_K hT h g1 (by decide +kernel)
  obtain ⟨an, p⟩ := (h_enroll hT g1.1 h1 a0 a1) _ _ e1 e2
  have f12 : FR S1 S2 := FA_x_enroll hT g1.1 h1 (Kp_of g1 (by decide +kernel)) (Kp_of g2 (by decide +kernel)) (show cFac S1 S2 from p)
  exact ⟨r, S1, v, S2, T1, e1, e2, ⟨g1, g2, g_f_M_enroll _ _ _ _ (GF_rf S1) _ e2, iv, ⟨f, m, rr, DR_fr (DR_fr dr g1 (by decide +kernel)) g2 (by decide +kernel)⟩, t1', FR_M ⟨g1.1, t1'⟩ g2.1 f12 g2 (by decide +kernel)⟩, an⟩
theorem pk_helper {n : Nat} {T : Nat → Nat} {S : AS} {a0 : Int32} (hI : IV n T S) (hn : n ≤ 600) (hr : RPF T S) : ∃ r S1 v S2 T1, f_K_helper S (some 4) a0 = some (r, S1) ∧ f_M_helper S1 (some 57) a0 = some (v, S2) ∧ PKg n T kw_K68 kw_M49 S S1 T1 S2 ∧ AN [eX] r v (sI S2 57 82) := by
  have q1 : Tx T 1 (some 4) := ⟨4, rfl, hI.1.t9.2.2.2.2.1, by decide⟩
  have q57 : Tx T 100 (some 57) := ⟨57, rfl, hI.1.t9.1, by decide⟩
  obtain ⟨⟨r, S1⟩, e1, T1, g1⟩ : Ho (f_K_helper S (some 4) a0) (fun q => PW T kw_K68 S 10 700 q.2) := kk_X (t_K_helper hI.1 q1) (by decide) (by decide)
  have g1 : Rl T (99999 :: kw_K68) S 10 700 T1 S1 := g1
  have f1 : FT S1 := FT_fr hI.2.2.2.1 g1 (by decide +kernel)
  have i1 := IV_K hI g1 q57 (by decide +kernel)
  obtain ⟨⟨v, S2⟩, e2, g2, m2⟩ := mm_helper (a1 := a0) g1.1 (q57.up g1.ty) i1.1 (by have := i1.2; omega)
  have g2 : Rl T1 kw_M49 S1 1 0 T1 S2 := g2
  have iv : IV (n + 1) T1 S2 := IV_M hI g1 i1.2 f1 g2 m2 (by decide +kernel)
  obtain ⟨⟨f, m, rr, dr⟩, t1, h⟩ := hr
  have hT : TV T S := ⟨hI.1, t1⟩
  have t1' : T1 1 = 52 := (g1.ty 1 (by rw [t1]; decide)).trans t1
  have h1 := FR_K hT h g1 (by decide +kernel)
  obtain ⟨an, p⟩ := (h_helper hT g1.1 h1 a0) _ _ e1 e2
  have f12 : FR S1 S2 := FA_x_helper hT g1.1 h1 (Kp_of g1 (by decide +kernel)) (Kp_of g2 (by decide +kernel)) (show cHlp S1 S2 from p)
  exact ⟨r, S1, v, S2, T1, e1, e2, ⟨g1, g2, g_f_M_helper _ _ _ (GF_rf S1) _ e2, iv, ⟨f, m, rr, DR_fr (DR_fr dr g1 (by decide +kernel)) g2 (by decide +kernel)⟩, t1', FR_M ⟨g1.1, t1'⟩ g2.1 f12 g2 (by decide +kernel)⟩, an⟩
theorem pk_need {n : Nat} {T : Nat → Nat} {S : AS} {a0 a1 : Int32} (hI : IV n T S) (hn : n ≤ 600) (hr : RPF T S) : ∃ r S1 v S2 T1, f_K_need S (some 4) a0 a1 = some (r, S1) ∧ f_M_need S1 (some 57) a0 a1 = some (v, S2) ∧ PKg n T kw_K73 kw_M53 S S1 T1 S2 ∧ AN [eX, eA] r v (sI S2 57 82) := by
  have q1 : Tx T 1 (some 4) := ⟨4, rfl, hI.1.t9.2.2.2.2.1, by decide⟩
  have q57 : Tx T 100 (some 57) := ⟨57, rfl, hI.1.t9.1, by decide⟩
  obtain ⟨⟨r, S1⟩, e1, T1, g1⟩ : Ho (f_K_need S (some 4) a0 a1) (fun q => PW T kw_K73 S 10 700 q.2) := kk_X (t_K_need hI.1 q1) (by decide) (by decide)
  have g1 : Rl T (99999 :: kw_K73) S 10 700 T1 S1 := g1
  have f1 : FT S1 := FT_fr hI.2.2.2.1 g1 (by decide +kernel)
  have i1 := IV_K hI g1 q57 (by decide +kernel)
  obtain ⟨⟨v, S2⟩, e2, g2, m2⟩ := mm_need (a1 := a0) (a2 := a1) g1.1 (q57.up g1.ty) i1.1 (by have := i1.2; omega)
  have g2 : Rl T1 kw_M53 S1 1 0 T1 S2 := g2
  have iv : IV (n + 1) T1 S2 := IV_M hI g1 i1.2 f1 g2 m2 (by decide +kernel)
  obtain ⟨⟨f, m, rr, dr⟩, t1, h⟩ := hr
  have hT : TV T S := ⟨hI.1, t1⟩
  have t1' : T1 1 = 52 := (g1.ty 1 (by rw [t1]; decide)).trans t1
  have h1 := FR_K hT h g1 (by decide +kernel)
  obtain ⟨an, p⟩ := (h_need hT g1.1 h1 a0 a1) _ _ e1 e2
  have f12 : FR S1 S2 := FA_x_need hT g1.1 h1 (Kp_of g1 (by decide +kernel)) (Kp_of g2 (by decide +kernel)) (show cNed S1 S2 from p)
  exact ⟨r, S1, v, S2, T1, e1, e2, ⟨g1, g2, g_f_M_need _ _ _ _ (GF_rf S1) _ e2, iv, ⟨f, m, rr, DR_fr (DR_fr dr g1 (by decide +kernel)) g2 (by decide +kernel)⟩, t1', FR_M ⟨g1.1, t1'⟩ g2.1 f12 g2 (by decide +kernel)⟩, an⟩
theorem pk_link {n : Nat} {T : Nat → Nat} {S : AS} {a0 a1 : Int32} (hI : IV n T S) (hn : n ≤ 600) (hr : RPF T S) : ∃ r S1 v S2 T1, f_K_link S (some 4) a0 a1 = some (r, S1) ∧ f_M_link S1 (some 57) a0 a1 = some (v, S2) ∧ PKg n T kw_K102 kw_M106 S S1 T1 S2 ∧ AN [eX, eS] r v (sI S2 57 82) := by
  have q1 : Tx T 1 (some 4) := ⟨4, rfl, hI.1.t9.2.2.2.2.1, by decide⟩
  have q57 : Tx T 100 (some 57) := ⟨57, rfl, hI.1.t9.1, by decide⟩
  obtain ⟨⟨r, S1⟩, e1, T1, g1⟩ : Ho (f_K_link S (some 4) a0 a1) (fun q => PW T kw_K102 S 10 700 q.2) := kk_X (t_K_link hI.1 q1) (by decide) (by decide)
  have g1 : Rl T (99999 :: kw_K102) S 10 700 T1 S1 := g1
  have f1 : FT S1 := FT_fr hI.2.2.2.1 g1 (by decide +kernel)
  have i1 := IV_K hI g1 q57 (by decide +kernel)
  obtain ⟨⟨v, S2⟩, e2, g2, m2⟩ := mm_link (a1 := a0) (a2 := a1) g1.1 (q57.up g1.ty) i1.1 (by have := i1.2; omega)
  have g2 : Rl T1 kw_M106 S1 1 0 T1 S2 := g2
  have iv : IV (n + 1) T1 S2 := IV_M hI g1 i1.2 f1 g2 m2 (by decide +kernel)
  obtain ⟨⟨f, m, rr, dr⟩, t1, h⟩ := hr
  have hT : TV T S := ⟨hI.1, t1⟩
  have t1' : T1 1 = 52 := (g1.ty 1 (by rw [t1]; decide)).trans t1
  have h1 := FR_K hT h g1 (by decide +kernel)
  obtain ⟨an, p⟩ := (h_link hT g1.1 h1 a0 a1) _ _ e1 e2
  have f12 : FR S1 S2 := FA_x_link hT g1.1 h1 (Kp_of g1 (by decide +kernel)) (Kp_of g2 (by decide +kernel)) (show cLnk S1 S2 from p)
  exact ⟨r, S1, v, S2, T1, e1, e2, ⟨g1, g2, g_f_M_link _ _ _ _ (GF_rf S1) _ e2, iv, ⟨f, m, rr, DR_fr (DR_fr dr g1 (by decide +kernel)) g2 (by decide +kernel)⟩, t1', FR_M ⟨g1.1, t1'⟩ g2.1 f12 g2 (by decide +kernel)⟩, an⟩
theorem pk_consent {n : Nat} {T : Nat → Nat} {S : AS} {a0 a1 a2 : Int32} (hI : IV n T S) (hn : n ≤ 600) (hr : RPF T S) : ∃ r S1 v S2 T1, f_K_consent S (some 4) a0 a1 a2 = some (r, S1) ∧ f_M_consent S1 (some 57) a0 a1 a2 = some (v, S2) ∧ PKg n T kw_K71 kw_M51 S S1 T1 S2 ∧ AN [eX, eA] r v (sI S2 57 82) := by
  have q1 : Tx T 1 (some 4) := ⟨4, rfl, hI.1.t9.2.2.2.2.1, by decide⟩
  have q57 : Tx T 100 (some 57) := ⟨57, rfl, hI.1.t9.1, by decide⟩
  obtain ⟨⟨r, S1⟩, e1, T1, g1⟩ : Ho (f_K_consent S (some 4) a0 a1 a2) (fun q => PW T kw_K71 S 10 700 q.2) := kk_X (t_K_consent hI.1 q1) (by decide) (by decide)
  have g1 : Rl T (99999 :: kw_K71) S 10 700 T1 S1 := g1
  have f1 : FT S1 := FT_fr hI.2.2.2.1 g1 (by decide +kernel)
  have i1 := IV_K hI g1 q57 (by decide +kernel)
  obtain ⟨⟨v, S2⟩, e2, g2, m2⟩ := mm_consent (a1 := a0) (a2 := a1) (a3 := a2) g1.1 (q57.up g1.ty) i1.1 (by have := i1.2; omega)
  have g2 : Rl T1 kw_M51 S1 1 0 T1 S2 := g2
  have iv : IV (n + 1) T1 S2 := IV_M hI g1 i1.2 f1 g2 m2 (by decide +kernel)
  obtain ⟨⟨f, m, rr, dr⟩, t1, h⟩ := hr
  have hT : TV T S := ⟨hI.1, t1⟩
  have t1' : T1 1 = 52 := (g1.ty 1 (by rw [t1]; decide)).trans t1
  have h1 := FR_K hT h g1 (by decide +kernel)
  obtain ⟨an, p⟩ := (h_consent hT g1.1 h1 a0 a1 a2) _ _ e1 e2
  have f12 : FR S1 S2 := FA_x_consent hT g1.1 h1 (Kp_of g1 (by decide +kernel)) (Kp_of g2 (by decide +kernel)) (show cCon S1 S2 from p)
  exact ⟨r, S1, v, S2, T1, e1, e2, ⟨g1, g2, g_f_M_consent _ _ _ _ _ (GF_rf S1) _ e2, iv, ⟨f, m, rr, DR_fr (DR_fr dr g1 (by decide +kernel)) g2 (by decide +kernel)⟩, t1', FR_M ⟨g1.1, t1'⟩ g2.1 f12 g2 (by decide +kernel)⟩, an⟩
theorem pk_signing {n : Nat} {T : Nat → Nat} {S : AS} (hI : IV n T S) (hn : n ≤ 600) (hr : RPF T S) : ∃ r S1 v S2 T1, f_K_signing S (some 4) = some (r, S1) ∧ f_M_signing S1 (some 57) = some (v, S2) ∧ PKg n T [] kw_M4 S S1 T1 S2 ∧ r = v := by
  have q1 : Tx T 1 (some 4) := ⟨4, rfl, hI.1.t9.2.2.2.2.1, by decide⟩
  have q57 : Tx T 100 (some 57) := ⟨57, rfl, hI.1.t9.1, by decide⟩
  obtain ⟨⟨r, S1⟩, e1, T1, g1⟩ : Ho (f_K_signing S (some 4)) (fun q => PW T [] S 10 700 q.2) := kk_S hI.1 (t_K_signing hI.1 q1)
  have g1 : Rl T (99999 :: []) S 10 700 T1 S1 := g1
  have f1 : FT S1 := FT_fr hI.2.2.2.1 g1 (by decide +kernel)
  have i1 := IV_K hI g1 q57 (by decide +kernel)
  obtain ⟨⟨v, S2⟩, e2, g2, m2⟩ := mm_signing  g1.1 (q57.up g1.ty) i1.1 (by have := i1.2; omega)
  have g2 : Rl T1 kw_M4 S1 1 0 T1 S2 := g2
  have iv : IV (n + 1) T1 S2 := IV_M hI g1 i1.2 f1 g2 m2 (by decide +kernel)
  obtain ⟨⟨f, m, rr, dr⟩, t1, h⟩ := hr
  have hT : TV T S := ⟨hI.1, t1⟩
  have t1' : T1 1 = 52 := (g1.ty 1 (by rw [t1]; decide)).trans t1
  have h1 := FR_K hT h g1 (by decide +kernel)
  obtain ⟨an, p⟩ := (h_signing hT g1.1 h1) _ _ e1 e2
  have f12 : FR S1 S2 := FA_x_signing hT g1.1 h1 (Kp_of g1 (by decide +kernel)) (Kp_of g2 (by decide +kernel)) 
  exact ⟨r, S1, v, S2, T1, e1, e2, ⟨g1, g2, g_f_M_signing _ _ (GF_rf S1) _ e2, iv, ⟨f, m, rr, DR_fr (DR_fr dr g1 (by decide +kernel)) g2 (by decide +kernel)⟩, t1', FR_M ⟨g1.1, t1'⟩ g2.1 f12 g2 (by decide +kernel)⟩, an⟩
theorem pk_sessions {n : Nat} {T : Nat → Nat} {S : AS} (hI : IV n T S) (hn : n ≤ 600) (hr : RPF T S) : ∃ r S1 v S2 T1, f_K_sessions S (some 4) = some (r, S1) ∧ f_M_sessions S1 (some 57) = some (v, S2) ∧ PKg n T [] kw_M4 S S1 T1 S2 ∧ r = v := by
  have q1 : Tx T 1 (some 4) := ⟨4, rfl, hI.1.t9.2.2.2.2.1, by decide⟩
  have q57 : Tx T 100 (some 57) := ⟨57, rfl, hI.1.t9.1, by decide⟩
  obtain ⟨⟨r, S1⟩, e1, T1, g1⟩ : Ho (f_K_sessions S (some 4)) (fun q => PW T [] S 10 700 q.2) := kk_S hI.1 (t_K_sessions hI.1 q1)
  have g1 : Rl T (99999 :: []) S 10 700 T1 S1 := g1
  have f1 : FT S1 := FT_fr hI.2.2.2.1 g1 (by decide +kernel)
  have i1 := IV_K hI g1 q57 (by decide +kernel)
  obtain ⟨⟨v, S2⟩, e2, g2, m2⟩ := mm_sessions  g1.1 (q57.up g1.ty) i1.1 (by have := i1.2; omega)
  have g2 : Rl T1 kw_M4 S1 1 0 T1 S2 := g2
  have iv : IV (n + 1) T1 S2 := IV_M hI g1 i1.2 f1 g2 m2 (by decide +kernel)
  obtain ⟨⟨f, m, rr, dr⟩, t1, h⟩ := hr
  have hT : TV T S := ⟨hI.1, t1⟩
  have t1' : T1 1 = 52 := (g1.ty 1 (by rw [t1]; decide)).trans t1
  have h1 := FR_K hT h g1 (by decide +kernel)
  obtain ⟨an, p⟩ := (h_sessions hT g1.1 h1) _ _ e1 e2
  have f12 : FR S1 S2 := FA_x_sessions hT g1.1 h1 (Kp_of g1 (by decide +kernel)) (Kp_of g2 (by decide +kernel)) 
  exact ⟨r, S1, v, S2, T1, e1, e2, ⟨g1, g2, g_f_M_sessions _ _ (GF_rf S1) _ e2, iv, ⟨f, m, rr, DR_fr (DR_fr dr g1 (by decide +kernel)) g2 (by decide +kernel)⟩, t1', FR_M ⟨g1.1, t1'⟩ g2.1 f12 g2 (by decide +kernel)⟩, an⟩
theorem pk_audits {n : Nat} {T : Nat → Nat} {S : AS} (hI : IV n T S) (hn : n ≤ 600) (hr : RPF T S) : ∃ r S1 v S2 T1, f_K_audits S (some 4) = some (r, S1) ∧ f_M_audits S1 (some 57) = some (v, S2) ∧ PKg n T [] kw_M4 S S1 T1 S2 ∧ r = v := by
  have q1 : Tx T 1 (some 4) := ⟨4, rfl, hI.1.t9.2.2.2.2.1, by decide⟩
  have q57 : Tx T 100 (some 57) := ⟨57, rfl, hI.1.t9.1, by decide⟩
  obtain ⟨⟨r, S1⟩, e1, T1, g1⟩ : Ho (f_K_audits S (some 4)) (fun q => PW T [] S 10 700 q.2) := kk_S hI.1 (t_K_audits hI.1 q1)
  have g1 : Rl T (99999 :: []) S 10 700 T1 S1 := g1
  have f1 : FT S1 := FT_fr hI.2.2.2.1 g1 (by decide +kernel)
  have i1 := IV_K hI g1 q57 (by decide +kernel)
  obtain ⟨⟨v, S2⟩, e2, g2, m2⟩ := mm_audits  g1.1 (q57.up g1.ty) i1.1 (by have := i1.2; omega)
  have g2 : Rl T1 kw_M4 S1 1 0 T1 S2 := g2
  have iv : IV (n + 1) T1 S2 := IV_M hI g1 i1.2 f1 g2 m2 (by decide +kernel)
  obtain ⟨⟨f, m, rr, dr⟩, t1, h⟩ := hr
  have hT : TV T S := ⟨hI.1, t1⟩
  have t1' : T1 1 = 52 := (g1.ty 1 (by rw [t1]; decide)).trans t1
  have h1 := FR_K hT h g1 (by decide +kernel)
  obtain ⟨an, p⟩ := (h_audits hT g1.1 h1 (Ph_77 g1.1 i1.2 hn)) _ _ e1 e2
  have f12 : FR S1 S2 := FA_x_audits hT g1.1 h1 (Kp_of g1 (by decide +kernel)) (Kp_of g2 (by decide +kernel)) 
  exact ⟨r, S1, v, S2, T1, e1, e2, ⟨g1, g2, g_f_M_audits _ _ (GF_rf S1) _ e2, iv, ⟨f, m, rr, DR_fr (DR_fr dr g1 (by decide +kernel)) g2 (by decide +kernel)⟩, t1', FR_M ⟨g1.1, t1'⟩ g2.1 f12 g2 (by decide +kernel)⟩, an⟩
theorem pk_isPublished {n : Nat} {T : Nat → Nat} {S : AS} {a0 : Int32} (hI : IV n T S) (hn : n ≤ 600) (hr : RPF T S) : ∃ r S1 v S2 T1, f_K_isPublished S (some 4) a0 = some (r, S1) ∧ f_M_isPublished S1 (some 57) a0 = some (v, S2) ∧ PKg n T [] kw_M4 S S1 T1 S2 ∧ AN [eX] r v (sI S2 57 82) := by
  have q1 : Tx T 1 (some 4) := ⟨4, rfl, hI.1.t9.2.2.2.2.1, by decide⟩
  have q57 : Tx T 100 (some 57) := ⟨57, rfl, hI.1.t9.1, by decide⟩
  obtain ⟨⟨r, S1⟩, e1, T1, g1⟩ : Ho (f_K_isPublished S (some 4) a0) (fun q => PW T [] S 10 700 q.2) := kk_T hI.1 (t_K_isPublished hI.1 q1)
  have g1 : Rl T (99999 :: []) S 10 700 T1 S1 := g1
  have f1 : FT S1 := FT_fr hI.2.2.2.1 g1 (by decide +kernel)
  have i1 := IV_K hI g1 q57 (by decide +kernel)
  obtain ⟨⟨v, S2⟩, e2, g2, m2⟩ := mm_isPublished (a1 := a0) g1.1 (q57.up g1.ty) i1.1 (by have := i1.2; omega)
  have g2 : Rl T1 kw_M4 S1 1 0 T1 S2 := g2
  have iv : IV (n + 1) T1 S2 := IV_M hI g1 i1.2 f1 g2 m2 (by decide +kernel)
  obtain ⟨⟨f, m, rr, dr⟩, t1, h⟩ := hr
  have hT : TV T S := ⟨hI.1, t1⟩
  have t1' : T1 1 = 52 := (g1.ty 1 (by rw [t1]; decide)).trans t1
  have h1 := FR_K hT h g1 (by decide +kernel)
  obtain ⟨an, p⟩ := (h_isPublished hT g1.1 h1 a0) _ _ e1 e2
  have f12 : FR S1 S2 := FA_x_isPublished hT g1.1 h1 (Kp_of g1 (by decide +kernel)) (Kp_of g2 (by decide +kernel)) 
  exact ⟨r, S1, v, S2, T1, e1, e2, ⟨g1, g2, g_f_M_isPublished _ _ _ (GF_rf S1) _ e2, iv, ⟨f, m, rr, DR_fr (DR_fr dr g1 (by decide +kernel)) g2 (by decide +kernel)⟩, t1', FR_M ⟨g1.1, t1'⟩ g2.1 f12 g2 (by decide +kernel)⟩, an⟩
theorem pk_turn {n : Nat} {T : Nat → Nat} {S : AS} (hI : IV n T S) (hn : n ≤ 600) (hr : RPF T S) : ∃ r S1 v S2 T1, f_K_turn S (some 4) = some (r, S1) ∧ f_M_turn S1 (some 57) = some (v, S2) ∧ PKg n T kw_K27 kw_M86 S S1 T1 S2 ∧ AN [eS] r v (sI S2 57 82) := by
  have q1 : Tx T 1 (some 4) := ⟨4, rfl, hI.1.t9.2.2.2.2.1, by decide⟩
  have q57 : Tx T 100 (some 57) := ⟨57, rfl, hI.1.t9.1, by decide⟩
  obtain ⟨⟨r, S1⟩, e1, T1, g1⟩ : Ho (f_K_turn S (some 4)) (fun q => PW T kw_K27 S 10 700 q.2) := kk_X (t_K_turn hI.1 q1) (by decide) (by decide)
  have g1 : Rl T (99999 :: kw_K27) S 10 700 T1 S1 := g1
  have f1 : FT S1 := FT_fr hI.2.2.2.1 g1 (by decide +kernel)
  have i1 := IV_K hI g1 q57 (by decide +kernel)
  obtain ⟨⟨v, S2⟩, e2, g2, m2⟩ := mm_turn  g1.1 (q57.up g1.ty) i1.1 (by have := i1.2; omega)
  have g2 : Rl T1 kw_M86 S1 1 0 T1 S2 := g2
  have iv : IV (n + 1) T1 S2 := IV_M hI g1 i1.2 f1 g2 m2 (by decide +kernel)
  obtain ⟨⟨f, m, rr, dr⟩, t1, h⟩ := hr
  have hT : TV T S := ⟨hI.1, t1⟩
  have t1' : T1 1 = 52 := (g1.ty 1 (by rw [t1]; decide)).trans t1
  have h1 := FR_K hT h g1 (by decide +kernel)
  obtain ⟨an, p⟩ := (h_turn hT g1.1 h1) _ _ e1 e2
  have f12 : FR S1 S2 := FA_x_turn hT g1.1 h1 (Kp_of g1 (by decide +kernel)) (Kp_of g2 (by decide +kernel)) (show cKey S1 S2 from p)
  exact ⟨r, S1, v, S2, T1, e1, e2, ⟨g1, g2, g_f_M_turn _ _ (GF_rf S1) _ e2, iv, ⟨f, m, rr, DR_fr (DR_fr dr g1 (by decide +kernel)) g2 (by decide +kernel)⟩, t1', FR_M ⟨g1.1, t1'⟩ g2.1 f12 g2 (by decide +kernel)⟩, an⟩
theorem pk_emergency {n : Nat} {T : Nat → Nat} {S : AS} (hI : IV n T S) (hn : n ≤ 600) (hr : RPF T S) : ∃ r S1 v S2 T1, f_K_emergency S (some 4) = some (r, S1) ∧ f_M_emergency S1 (some 57) = some (v, S2) ∧ PKg n T kw_K89 kw_M91 S S1 T1 S2 ∧ AN [eS] r v (sI S2 57 82) := by
  have q1 : Tx T 1 (some 4) := ⟨4, rfl, hI.1.t9.2.2.2.2.1, by decide⟩
  have q57 : Tx T 100 (some 57) := ⟨57, rfl, hI.1.t9.1, by decide⟩
  obtain ⟨⟨r, S1⟩, e1, T1, g1⟩ : Ho (f_K_emergency S (some 4)) (fun q => PW T kw_K89 S 10 700 q.2) := kk_X (t_K_emergency hI.1 q1) (by decide) (by decide)
  have g1 : Rl T (99999 :: kw_K89) S 10 700 T1 S1 := g1
  have f1 : FT S1 := FT_fr hI.2.2.2.1 g1 (by decide +kernel)
  have i1 := IV_K hI g1 q57 (by decide +kernel)
  obtain ⟨⟨v, S2⟩, e2, g2, m2⟩ := mm_emergency  g1.1 (q57.up g1.ty) i1.1 (by have := i1.2; omega)
  have g2 : Rl T1 kw_M91 S1 1 0 T1 S2 := g2
  have iv : IV (n + 1) T1 S2 := IV_M hI g1 i1.2 f1 g2 m2 (by decide +kernel)
  obtain ⟨⟨f, m, rr, dr⟩, t1, h⟩ := hr
  have hT : TV T S := ⟨hI.1, t1⟩
  have t1' : T1 1 = 52 := (g1.ty 1 (by rw [t1]; decide)).trans t1
  have h1 := FR_K hT h g1 (by decide +kernel)
  obtain ⟨an, p⟩ := (h_emergency hT g1.1 h1) _ _ e1 e2
  have f12 : FR S1 S2 := FA_x_emergency hT g1.1 h1 (Kp_of g1 (by decide +kernel)) (Kp_of g2 (by decide +kernel)) (show cKey S1 S2 from p.1) (show cAU S1 S2 from p.2)
  exact ⟨r, S1, v, S2, T1, e1, e2, ⟨g1, g2, g_f_M_emergency _ _ (GF_rf S1) _ e2, iv, ⟨f, m, rr, DR_fr (DR_fr dr g1 (by decide +kernel)) g2 (by decide +kernel)⟩, t1', FR_M ⟨g1.1, t1'⟩ g2.1 f12 g2 (by decide +kernel)⟩, an⟩
theorem pk_lag {n : Nat} {T : Nat → Nat} {S : AS} {a0 : Int32} (hI : IV n T S) (hn : n ≤ 600) (hr : RPF T S) : ∃ r S1 v S2 T1, f_K_lag S (some 4) a0 = some (r, S1) ∧ f_M_lag S1 (some 57) a0 = some (v, S2) ∧ PKg n T [] kw_M4 S S1 T1 S2 ∧ AN [eX] r v (sI S2 57 82) := by
  have q1 : Tx T 1 (some 4) := ⟨4, rfl, hI.1.t9.2.2.2.2.1, by decide⟩
  have q57 : Tx T 100 (some 57) := ⟨57, rfl, hI.1.t9.1, by decide⟩
  obtain ⟨⟨r, S1⟩, e1, T1, g1⟩ : Ho (f_K_lag S (some 4) a0) (fun q => PW T [] S 10 700 q.2) := kk_T hI.1 (t_K_lag hI.1 q1)
  have g1 : Rl T (99999 :: []) S 10 700 T1 S1 := g1
  have f1 : FT S1 := FT_fr hI.2.2.2.1 g1 (by decide +kernel)
  have i1 := IV_K hI g1 q57 (by decide +kernel)
  obtain ⟨⟨v, S2⟩, e2, g2, m2⟩ := mm_lag (a1 := a0) g1.1 (q57.up g1.ty) i1.1 (by have := i1.2; omega)
  have g2 : Rl T1 kw_M4 S1 1 0 T1 S2 := g2
  have iv : IV (n + 1) T1 S2 := IV_M hI g1 i1.2 f1 g2 m2 (by decide +kernel)
  obtain ⟨⟨f, m, rr, dr⟩, t1, h⟩ := hr
  have hT : TV T S := ⟨hI.1, t1⟩
  have t1' : T1 1 = 52 := (g1.ty 1 (by rw [t1]; decide)).trans t1
  have h1 := FR_K hT h g1 (by decide +kernel)
  obtain ⟨an, p⟩ := (h_lag hT g1.1 h1 a0) _ _ e1 e2
  have f12 : FR S1 S2 := FA_x_lag hT g1.1 h1 (Kp_of g1 (by decide +kernel)) (Kp_of g2 (by decide +kernel)) 
  exact ⟨r, S1, v, S2, T1, e1, e2, ⟨g1, g2, g_f_M_lag _ _ _ (GF_rf S1) _ e2, iv, ⟨f, m, rr, DR_fr (DR_fr dr g1 (by decide +kernel)) g2 (by decide +kernel)⟩, t1', FR_M ⟨g1.1, t1'⟩ g2.1 f12 g2 (by decide +kernel)⟩, an⟩
theorem pk_points {n : Nat} {T : Nat → Nat} {S : AS} {a0 a1 a2 : Int32} (hI : IV n T S) (hn : n ≤ 600) (hr : RPF T S) : ∃ r S1 v S2 T1, f_K_points S (some 4) a0 a1 a2 = some (r, S1) ∧ f_M_points S1 (some 57) a0 a1 a2 = some (v, S2) ∧ PKg n T kw_K47 kw_M25 S S1 T1 S2 ∧ AN [eA] r v (sI S2 57 82) := by
  have q1 : Tx T 1 (some 4) := ⟨4, rfl, hI.1.t9.2.2.2.2.1, by decide⟩
  have q57 : Tx T 100 (some 57) := ⟨57, rfl, hI.1.t9.1, by decide⟩
  obtain ⟨⟨r, S1⟩, e1, T1, g1⟩ : Ho (f_K_points S (some 4) a0 a1 a2) (fun q => PW T kw_K47 S 10 700 q.2) := kk_X (t_K_points hI.1 q1) (by decide) (by decide)
  have g1 : Rl T (99999 :: kw_K47) S 10 700 T1 S1 := g1
  have f1 : FT S1 := FT_fr hI.2.2.2.1 g1 (by decide +kernel)
  have i1 := IV_K hI g1 q57 (by decide +kernel)
  obtain ⟨⟨v, S2⟩, e2, g2, m2⟩ := mm_points (a1 := a0) (a2 := a1) (a3 := a2) g1.1 (q57.up g1.ty) i1.1 (by have := i1.2; omega)
  have g2 : Rl T1 kw_M25 S1 1 0 T1 S2 := g2
  have iv : IV (n + 1) T1 S2 := IV_M hI g1 i1.2 f1 g2 m2 (by decide +kernel)
  obtain ⟨⟨f, m, rr, dr⟩, t1, h⟩ := hr
  have hT : TV T S := ⟨hI.1, t1⟩
  have t1' : T1 1 = 52 := (g1.ty 1 (by rw [t1]; decide)).trans t1
  have h1 := FR_K hT h g1 (by decide +kernel)
  obtain ⟨an, p⟩ := (h_points hT g1.1 h1 a0 a1 a2) _ _ e1 e2
  have f12 : FR S1 S2 := FA_x_points hT g1.1 h1 (Kp_of g1 (by decide +kernel)) (Kp_of g2 (by decide +kernel)) (show cPts S1 S2 from p)
  exact ⟨r, S1, v, S2, T1, e1, e2, ⟨g1, g2, g_f_M_points _ _ _ _ _ (GF_rf S1) _ e2, iv, ⟨f, m, rr, DR_fr (DR_fr dr g1 (by decide +kernel)) g2 (by decide +kernel)⟩, t1', FR_M ⟨g1.1, t1'⟩ g2.1 f12 g2 (by decide +kernel)⟩, an⟩
theorem pk_line {n : Nat} {T : Nat → Nat} {S : AS} {a0 : Int32} (hI : IV n T S) (hn : n ≤ 600) (hr : RPF T S) : ∃ r S1 v S2 T1, f_K_line S (some 4) a0 = some (r, S1) ∧ f_M_line S1 (some 57) a0 = some (v, S2) ∧ PKg n T kw_K91 kw_M93 S S1 T1 S2 ∧ AN [eX] r v (sI S2 57 82) := by
  have q1 : Tx T 1 (some 4) := ⟨4, rfl, hI.1.t9.2.2.2.2.1, by decide⟩
  have q57 : Tx T 100 (some 57) := ⟨57, rfl, hI.1.t9.1, by decide⟩
  obtain ⟨⟨r, S1⟩, e1, T1, g1⟩ : Ho (f_K_line S (some 4) a0) (fun q => PW T kw_K91 S 10 700 q.2) := kk_X (t_K_line hI.1 q1) (by decide) (by decide)
  have g1 : Rl T (99999 :: kw_K91) S 10 700 T1 S1 := g1
  have f1 : FT S1 := FT_fr hI.2.2.2.1 g1 (by decide +kernel)
  have i1 := IV_K hI g1 q57 (by decide +kernel)
  obtain ⟨⟨v, S2⟩, e2, g2, m2⟩ := mm_line (a1 := a0) g1.1 (q57.up g1.ty) i1.1 (by have := i1.2; omega)
  have g2 : Rl T1 kw_M93 S1 1 0 T1 S2 := g2
  have iv : IV (n + 1) T1 S2 := IV_M hI g1 i1.2 f1 g2 m2 (by decide +kernel)
  obtain ⟨⟨f, m, rr, dr⟩, t1, h⟩ := hr
  have hT : TV T S := ⟨hI.1, t1⟩
  have t1' : T1 1 = 52 := (g1.ty 1 (by rw [t1]; decide)).trans t1
  have h1 := FR_K hT h g1 (by decide +kernel)
  obtain ⟨an, p⟩ := (h_line hT g1.1 h1 a0) _ _ e1 e2
  have b := FR_BB hT hI.1 h
  have fk : FK T S S1 := (f_line (BF_of hT.1) b a0) _ e1
  have e3 : nC S2 = nC S1 := enC (FR_BB hT g1.1 h1) (Kp_of g2 (cs := [10039]) (by decide +kernel)) (by decide)
  have e4 : ∀ c, sI S2 98 c = sI S1 98 c := fun c => (Kp_of g2 (cs := [14500]) (by decide +kernel)).M g1.1 (j := 45) (p := 98) rfl (by decide) (by decide) c
  have f12 : FR S1 S2 := FA_x_line hT g1.1 h1 (Kp_of g1 (by decide +kernel)) (Kp_of g2 (by decide +kernel)) (show cSrv S1 S2 from p.1) (show cGod S1 S2 from p.2) (Fre_of hT g1.1 h1 fk e3 e4)
  exact ⟨r, S1, v, S2, T1, e1, e2, ⟨g1, g2, g_f_M_line _ _ _ (GF_rf S1) _ e2, iv, ⟨f, m, rr, DR_fr (DR_fr dr g1 (by decide +kernel)) g2 (by decide +kernel)⟩, t1', FR_M ⟨g1.1, t1'⟩ g2.1 f12 g2 (by decide +kernel)⟩, an⟩
theorem pk_check {n : Nat} {T : Nat → Nat} {S : AS} {a0 a1 a2 : Int32} (hI : IV n T S) (hn : n ≤ 600) (hr : RPF T S) : ∃ r S1 v S2 T1, f_K_check S (some 4) a0 a1 a2 = some (r, S1) ∧ f_M_check S1 (some 57) a0 a1 a2 = some (v, S2) ∧ PKg n T kw_K93 kw_M95 S S1 T1 S2 ∧ AN [eX, eA] r v (sI S2 57 82) := by
  have q1 : Tx T 1 (some 4) := ⟨4, rfl, hI.1.t9.2.2.2.2.1, by decide⟩
  have q57 : Tx T 100 (some 57) := ⟨57, rfl, hI.1.t9.1, by decide⟩
  obtain ⟨⟨r, S1⟩, e1, T1, g1⟩ : Ho (f_K_check S (some 4) a0 a1 a2) (fun q => PW T kw_K93 S 10 700 q.2) := kk_X (t_K_check hI.1 q1) (by decide) (by decide)
  have g1 : Rl T (99999 :: kw_K93) S 10 700 T1 S1 := g1
  have f1 : FT S1 := FT_fr hI.2.2.2.1 g1 (by decide +kernel)
  have i1 := IV_K hI g1 q57 (by decide +kernel)
  obtain ⟨⟨v, S2⟩, e2, g2, m2⟩ := mm_check (a1 := a0) (a2 := a1) (a3 := a2) g1.1 (q57.up g1.ty) i1.1 (by have := i1.2; omega)
  have g2 : Rl T1 kw_M95 S1 1 0 T1 S2 := g2
  have iv : IV (n + 1) T1 S2 := IV_M hI g1 i1.2 f1 g2 m2 (by decide +kernel)
  obtain ⟨⟨f, m, rr, dr⟩, t1, h⟩ := hr
  have hT : TV T S := ⟨hI.1, t1⟩
  have t1' : T1 1 = 52 := (g1.ty 1 (by rw [t1]; decide)).trans t1
  have h1 := FR_K hT h g1 (by decide +kernel)
  obtain ⟨an, p⟩ := (h_check hT g1.1 h1 a0 a1 a2) _ _ e1 e2
  have f12 : FR S1 S2 := FA_x_check hT g1.1 h1 (Kp_of g1 (by decide +kernel)) (Kp_of g2 (by decide +kernel)) (show cChe S1 S2 from p)
  exact ⟨r, S1, v, S2, T1, e1, e2, ⟨g1, g2, g_f_M_check _ _ _ _ _ (GF_rf S1) _ e2, iv, ⟨f, m, rr, DR_fr (DR_fr dr g1 (by decide +kernel)) g2 (by decide +kernel)⟩, t1', FR_M ⟨g1.1, t1'⟩ g2.1 f12 g2 (by decide +kernel)⟩, an⟩
theorem pk_level {n : Nat} {T : Nat → Nat} {S : AS} {a0 : Int32} (hI : IV n T S) (hn : n ≤ 600) (hr : RPF T S) : ∃ r S1 v S2 T1, f_K_level S (some 4) a0 = some (r, S1) ∧ f_M_level S1 (some 57) a0 = some (v, S2) ∧ PKg n T [] kw_M4 S S1 T1 S2 ∧ AN [eX] r v (sI S2 57 82) := by
  have q1 : Tx T 1 (some 4) := ⟨4, rfl, hI.1.t9.2.2.2.2.1, by decide⟩
  have q57 : Tx T 100 (some 57) := ⟨57, rfl, hI.1.t9.1, by decide⟩
  obtain ⟨⟨r, S1⟩, e1, T1, g1⟩ : Ho (f_K_level S (some 4) a0) (fun q => PW T [] S 10 700 q.2) := kk_T hI.1 (t_K_level hI.1 q1)
  have g1 : Rl T (99999 :: []) S 10 700 T1 S1 := g1
  have f1 : FT S1 := FT_fr hI.2.2.2.1 g1 (by decide +kernel)
  have i1 := IV_K hI g1 q57 (by decide +kernel)
  obtain ⟨⟨v, S2⟩, e2, g2, m2⟩ := mm_level (a1 := a0) g1.1 (q57.up g1.ty) i1.1 (by have := i1.2; omega)
  have g2 : Rl T1 kw_M4 S1 1 0 T1 S2 := g2
  have iv : IV (n + 1) T1 S2 := IV_M hI g1 i1.2 f1 g2 m2 (by decide +kernel)
  obtain ⟨⟨f, m, rr, dr⟩, t1, h⟩ := hr
  have hT : TV T S := ⟨hI.1, t1⟩
  have t1' : T1 1 = 52 := (g1.ty 1 (by rw [t1]; decide)).trans t1
  have h1 := FR_K hT h g1 (by decide +kernel)
  obtain ⟨an, p⟩ := (h_level hT g1.1 h1 a0) _ _ e1 e2
  have f12 : FR S1 S2 := FA_x_level hT g1.1 h1 (Kp_of g1 (by decide +kernel)) (Kp_of g2 (by decide +kernel)) 
  exact ⟨r, S1, v, S2, T1, e1, e2, ⟨g1, g2, g_f_M_level _ _ _ (GF_rf S1) _ e2, iv, ⟨f, m, rr, DR_fr (DR_fr dr g1 (by decide +kernel)) g2 (by decide +kernel)⟩, t1', FR_M ⟨g1.1, t1'⟩ g2.1 f12 g2 (by decide +kernel)⟩, an⟩
theorem pk_asked {n : Nat} {T : Nat → Nat} {S : AS} {a0 : Int32} (hI : IV n T S) (hn : n ≤ 600) (hr : RPF T S) : ∃ r S1 v S2 T1, f_K_asked S (some 4) a0 = some (r, S1) ∧ f_M_asked S1 (some 57) a0 = some (v, S2) ∧ PKg n T [] [10082] S S1 T1 S2 ∧ AN [eX] r v (sI S2 57 82) := by
  have q1 : Tx T 1 (some 4) := ⟨4, rfl, hI.1.t9.2.2.2.2.1, by decide⟩
  have q57 : Tx T 100 (some 57) := ⟨57, rfl, hI.1.t9.1, by decide⟩
  obtain ⟨⟨r, S1⟩, e1, T1, g1⟩ : Ho (f_K_asked S (some 4) a0) (fun q => PW T [] S 10 700 q.2) := kk_T hI.1 (t_K_asked hI.1 q1)
  have g1 : Rl T (99999 :: []) S 10 700 T1 S1 := g1
  have f1 : FT S1 := FT_fr hI.2.2.2.1 g1 (by decide +kernel)
  have i1 := IV_K hI g1 q57 (by decide +kernel)
  obtain ⟨⟨v, S2⟩, e2, g2, m2⟩ := mm_asked (a1 := a0) g1.1 (q57.up g1.ty) i1.1 (by have := i1.2; omega)
  have g2 : Rl T1 [10082] S1 1 0 T1 S2 := g2
  have iv : IV (n + 1) T1 S2 := IV_M hI g1 i1.2 f1 g2 m2 (by decide +kernel)
  obtain ⟨⟨f, m, rr, dr⟩, t1, h⟩ := hr
  have hT : TV T S := ⟨hI.1, t1⟩
  have t1' : T1 1 = 52 := (g1.ty 1 (by rw [t1]; decide)).trans t1
  have h1 := FR_K hT h g1 (by decide +kernel)
  obtain ⟨an, p⟩ := (h_asked hT g1.1 i1.1 h1 a0) _ _ e1 e2
  have f12 : FR S1 S2 := FA_x_asked hT g1.1 h1 (Kp_of g1 (by decide +kernel)) (Kp_of g2 (by decide +kernel)) 
  exact ⟨r, S1, v, S2, T1, e1, e2, ⟨g1, g2, g_f_M_asked _ _ _ (GF_rf S1) _ e2, iv, ⟨f, m, rr, DR_fr (DR_fr dr g1 (by decide +kernel)) g2 (by decide +kernel)⟩, t1', FR_M ⟨g1.1, t1'⟩ g2.1 f12 g2 (by decide +kernel)⟩, an⟩
theorem pk_risk {n : Nat} {T : Nat → Nat} {S : AS} {a0 : Int32} (hI : IV n T S) (hn : n ≤ 600) (hr : RPF T S) : ∃ r S1 v S2 T1, f_K_risk S (some 4) a0 = some (r, S1) ∧ f_M_risk S1 (some 57) a0 = some (v, S2) ∧ PKg n T [] kw_M4 S S1 T1 S2 ∧ AN [eX] r v (sI S2 57 82) := by
  have q1 : Tx T 1 (some 4) := ⟨4, rfl, hI.1.t9.2.2.2.2.1, by decide⟩
  have q57 : Tx T 100 (some 57) := ⟨57, rfl, hI.1.t9.1, by decide⟩
  obtain ⟨⟨r, S1⟩, e1, T1, g1⟩ : Ho (f_K_risk S (some 4) a0) (fun q => PW T [] S 10 700 q.2) := kk_T hI.1 (t_K_risk hI.1 q1)
  have g1 : Rl T (99999 :: []) S 10 700 T1 S1 := g1
  have f1 : FT S1 := FT_fr hI.2.2.2.1 g1 (by decide +kernel)
  have i1 := IV_K hI g1 q57 (by decide +kernel)
  obtain ⟨⟨v, S2⟩, e2, g2, m2⟩ := mm_risk (a1 := a0) g1.1 (q57.up g1.ty) i1.1 (by have := i1.2; omega)
  have g2 : Rl T1 kw_M4 S1 1 0 T1 S2 := g2
  have iv : IV (n + 1) T1 S2 := IV_M hI g1 i1.2 f1 g2 m2 (by decide +kernel)
  obtain ⟨⟨f, m, rr, dr⟩, t1, h⟩ := hr
  have hT : TV T S := ⟨hI.1, t1⟩
  have t1' : T1 1 = 52 := (g1.ty 1 (by rw [t1]; decide)).trans t1
  have h1 := FR_K hT h g1 (by decide +kernel)
  obtain ⟨an, p⟩ := (h_risk hT g1.1 h1 a0) _ _ e1 e2
  have f12 : FR S1 S2 := FA_x_risk hT g1.1 h1 (Kp_of g1 (by decide +kernel)) (Kp_of g2 (by decide +kernel)) 
  exact ⟨r, S1, v, S2, T1, e1, e2, ⟨g1, g2, g_f_M_risk _ _ _ (GF_rf S1) _ e2, iv, ⟨f, m, rr, DR_fr (DR_fr dr g1 (by decide +kernel)) g2 (by decide +kernel)⟩, t1', FR_M ⟨g1.1, t1'⟩ g2.1 f12 g2 (by decide +kernel)⟩, an⟩
theorem pk_trialRisk {n : Nat} {T : Nat → Nat} {S : AS} {a0 : Int32} (hI : IV n T S) (hn : n ≤ 600) (hr : RPF T S) : ∃ r S1 v S2 T1, f_K_trialRisk S (some 4) a0 = some (r, S1) ∧ f_M_trialRisk S1 (some 57) a0 = some (v, S2) ∧ PKg n T [] kw_M4 S S1 T1 S2 ∧ AN [eX] r v (sI S2 57 82) := by
  have q1 : Tx T 1 (some 4) := ⟨4, rfl, hI.1.t9.2.2.2.2.1, by decide⟩
  have q57 : Tx T 100 (some 57) := ⟨57, rfl, hI.1.t9.1, by decide⟩
  obtain ⟨⟨r, S1⟩, e1, T1, g1⟩ : Ho (f_K_trialRisk S (some 4) a0) (fun q => PW T [] S 10 700 q.2) := kk_T hI.1 (t_K_trialRisk hI.1 q1)
  have g1 : Rl T (99999 :: []) S 10 700 T1 S1 := g1
  have f1 : FT S1 := FT_fr hI.2.2.2.1 g1 (by decide +kernel)
  have i1 := IV_K hI g1 q57 (by decide +kernel)
  obtain ⟨⟨v, S2⟩, e2, g2, m2⟩ := mm_trialRisk (a1 := a0) g1.1 (q57.up g1.ty) i1.1 (by have := i1.2; omega)
  have g2 : Rl T1 kw_M4 S1 1 0 T1 S2 := g2
  have iv : IV (n + 1) T1 S2 := IV_M hI g1 i1.2 f1 g2 m2 (by decide +kernel)
  obtain ⟨⟨f, m, rr, dr⟩, t1, h⟩ := hr
  have hT : TV T S := ⟨hI.1, t1⟩
  have t1' : T1 1 = 52 := (g1.ty 1 (by rw [t1]; decide)).trans t1
  have h1 := FR_K hT h g1 (by decide +kernel)
  obtain ⟨an, p⟩ := (h_trialRisk hT g1.1 h1 a0) _ _ e1 e2
  have f12 : FR S1 S2 := FA_x_trialRisk hT g1.1 h1 (Kp_of g1 (by decide +kernel)) (Kp_of g2 (by decide +kernel)) 
  exact ⟨r, S1, v, S2, T1, e1, e2, ⟨g1, g2, g_f_M_trialRisk _ _ _ (GF_rf S1) _ e2, iv, ⟨f, m, rr, DR_fr (DR_fr dr g1 (by decide +kernel)) g2 (by decide +kernel)⟩, t1', FR_M ⟨g1.1, t1'⟩ g2.1 f12 g2 (by decide +kernel)⟩, an⟩
theorem pk_isLiveByAudit {n : Nat} {T : Nat → Nat} {S : AS} {a0 : Int32} (hI : IV n T S) (hn : n ≤ 600) (hr : RPF T S) : ∃ r S1 v S2 T1, f_K_isLiveByAudit S (some 4) a0 = some (r, S1) ∧ f_M_isLiveByAudit S1 (some 57) a0 = some (v, S2) ∧ PKg n T [] kw_M4 S S1 T1 S2 ∧ AN [eX] r v (sI S2 57 82) := by
  have q1 : Tx T 1 (some 4) := ⟨4, rfl, hI.1.t9.2.2.2.2.1, by decide⟩
  have q57 : Tx T 100 (some 57) := ⟨57, rfl, hI.1.t9.1, by decide⟩
  obtain ⟨⟨r, S1⟩, e1, T1, g1⟩ : Ho (f_K_isLiveByAudit S (some 4) a0) (fun q => PW T [] S 10 700 q.2) := kk_T hI.1 (t_K_isLiveByAudit hI.1 q1)
  have g1 : Rl T (99999 :: []) S 10 700 T1 S1 := g1
  have f1 : FT S1 := FT_fr hI.2.2.2.1 g1 (by decide +kernel)
  have i1 := IV_K hI g1 q57 (by decide +kernel)
  obtain ⟨⟨v, S2⟩, e2, g2, m2⟩ := mm_isLiveByAudit (a1 := a0) g1.1 (q57.up g1.ty) i1.1 (by have := i1.2; omega)
  have g2 : Rl T1 kw_M4 S1 1 0 T1 S2 := g2
  have iv : IV (n + 1) T1 S2 := IV_M hI g1 i1.2 f1 g2 m2 (by decide +kernel)
  obtain ⟨⟨f, m, rr, dr⟩, t1, h⟩ := hr
  have hT : TV T S := ⟨hI.1, t1⟩
  have t1' : T1 1 = 52 := (g1.ty 1 (by rw [t1]; decide)).trans t1
  have h1 := FR_K hT h g1 (by decide +kernel)
  obtain ⟨an, p⟩ := (h_isLiveByAudit hT g1.1 h1 (Ph_77 g1.1 i1.2 hn) a0) _ _ e1 e2
  have f12 : FR S1 S2 := FA_x_isLiveByAudit hT g1.1 h1 (Kp_of g1 (by decide +kernel)) (Kp_of g2 (by decide +kernel)) 
  exact ⟨r, S1, v, S2, T1, e1, e2, ⟨g1, g2, g_f_M_isLiveByAudit _ _ _ (GF_rf S1) _ e2, iv, ⟨f, m, rr, DR_fr (DR_fr dr g1 (by decide +kernel)) g2 (by decide +kernel)⟩, t1', FR_M ⟨g1.1, t1'⟩ g2.1 f12 g2 (by decide +kernel)⟩, an⟩
theorem pk_signOut {n : Nat} {T : Nat → Nat} {S : AS} {a0 : Int32} (hI : IV n T S) (hn : n ≤ 600) (hr : RPF T S) : ∃ r S1 v S2 T1, f_K_signOut S (some 4) a0 = some (r, S1) ∧ f_M_signOut S1 (some 57) a0 = some (v, S2) ∧ PKg n T kw_K38 kw_M48 S S1 T1 S2 ∧ AN [eX, eS] r v (sI S2 57 82) := by
  have q1 : Tx T 1 (some 4) := ⟨4, rfl, hI.1.t9.2.2.2.2.1, by decide⟩
  have q57 : Tx T 100 (some 57) := ⟨57, rfl, hI.1.t9.1, by decide⟩
  obtain ⟨⟨r, S1⟩, e1, T1, g1⟩ : Ho (f_K_signOut S (some 4) a0) (fun q => PW T kw_K38 S 10 700 q.2) := kk_X (t_K_signOut hI.1 q1) (by decide) (by decide)
  have g1 : Rl T (99999 :: kw_K38) S 10 700 T1 S1 := g1
  have f1 : FT S1 := FT_fr hI.2.2.2.1 g1 (by decide +kernel)
  have i1 := IV_K hI g1 q57 (by decide +kernel)
  obtain ⟨⟨v, S2⟩, e2, g2, m2⟩ := mm_signOut (a1 := a0) g1.1 (q57.up g1.ty) i1.1 (by have := i1.2; omega)
  have g2 : Rl T1 kw_M48 S1 1 0 T1 S2 := g2
  have iv : IV (n + 1) T1 S2 := IV_M hI g1 i1.2 f1 g2 m2 (by decide +kernel)
  obtain ⟨⟨f, m, rr, dr⟩, t1, h⟩ := hr
  have hT : TV T S := ⟨hI.1, t1⟩
  have t1' : T1 1 = 52 := (g1.ty 1 (by rw [t1]; decide)).trans t1
  have h1 := FR_K hT h g1 (by decide +kernel)
  obtain ⟨an, p⟩ := (h_signOut hT g1.1 h1 a0) _ _ e1 e2
  have b := FR_BB hT hI.1 h
  have fk : FK T S S1 := (f_signOut (BF_of hT.1) a0) _ e1
  have e3 : nC S2 = nC S1 := enC (FR_BB hT g1.1 h1) (Kp_of g2 (cs := [10039]) (by decide +kernel)) (by decide)
  have e4 : ∀ c, sI S2 98 c = sI S1 98 c := fun c => (Kp_of g2 (cs := [14500]) (by decide +kernel)).M g1.1 (j := 45) (p := 98) rfl (by decide) (by decide) c
  have f12 : FR S1 S2 := FA_x_signOut hT g1.1 h1 (Kp_of g1 (by decide +kernel)) (Kp_of g2 (by decide +kernel)) (show cLiv S1 S2 from p.1) (show cGod S1 S2 from p.2.1) (show cAU S1 S2 from p.2.2) (Fre_of hT g1.1 h1 fk e3 e4)
  exact ⟨r, S1, v, S2, T1, e1, e2, ⟨g1, g2, g_f_M_signOut _ _ _ (GF_rf S1) _ e2, iv, ⟨f, m, rr, DR_fr (DR_fr dr g1 (by decide +kernel)) g2 (by decide +kernel)⟩, t1', FR_M ⟨g1.1, t1'⟩ g2.1 f12 g2 (by decide +kernel)⟩, an⟩
theorem pk_stop {n : Nat} {T : Nat → Nat} {S : AS} {a0 a1 : Int32} (hI : IV n T S) (hn : n ≤ 600) (hr : RPF T S) : ∃ r S1 v S2 T1, f_K_stop S (some 4) a0 a1 = some (r, S1) ∧ f_M_stop S1 (some 57) a0 a1 = some (v, S2) ∧ PKg n T kw_K97 kw_M102 S S1 T1 S2 ∧ AN [eX, eS] r v (sI S2 57 82) := by
  have q1 : Tx T 1 (some 4) := ⟨4, rfl, hI.1.t9.2.2.2.2.1, by decide⟩
  have q57 : Tx T 100 (some 57) := ⟨57, rfl, hI.1.t9.1, by decide⟩
  obtain ⟨⟨r, S1⟩, e1, T1, g1⟩ : Ho (f_K_stop S (some 4) a0 a1) (fun q => PW T kw_K97 S 10 700 q.2) := kk_X (t_K_stop hI.1 q1) (by decide) (by decide)
  have g1 : Rl T (99999 :: kw_K97) S 10 700 T1 S1 := g1
  have f1 : FT S1 := FT_fr hI.2.2.2.1 g1 (by decide +kernel)
  have i1 := IV_K hI g1 q57 (by decide +kernel)
  obtain ⟨⟨v, S2⟩, e2, g2, m2⟩ := mm_stop (a1 := a0) (a2 := a1) g1.1 (q57.up g1.ty) i1.1 (by have := i1.2; omega)
  have g2 : Rl T1 kw_M102 S1 1 0 T1 S2 := g2
  have iv : IV (n + 1) T1 S2 := IV_M hI g1 i1.2 f1 g2 m2 (by decide +kernel)
  obtain ⟨⟨f, m, rr, dr⟩, t1, h⟩ := hr
  have hT : TV T S := ⟨hI.1, t1⟩
  have t1' : T1 1 = 52 := (g1.ty 1 (by rw [t1]; decide)).trans t1
  have h1 := FR_K hT h g1 (by decide +kernel)
  obtain ⟨an, p⟩ := (h_stop hT g1.1 h1 a0 a1) _ _ e1 e2
  have f12 : FR S1 S2 := FA_x_stop hT g1.1 h1 (Kp_of g1 (by decide +kernel)) (Kp_of g2 (by decide +kernel)) (show cRec S1 S2 from p)
  exact ⟨r, S1, v, S2, T1, e1, e2, ⟨g1, g2, g_f_M_stop _ _ _ _ (GF_rf S1) _ e2, iv, ⟨f, m, rr, DR_fr (DR_fr dr g1 (by decide +kernel)) g2 (by decide +kernel)⟩, t1', FR_M ⟨g1.1, t1'⟩ g2.1 f12 g2 (by decide +kernel)⟩, an⟩
theorem pk_vouch {n : Nat} {T : Nat → Nat} {S : AS} {a0 a1 : Int32} (hI : IV n T S) (hn : n ≤ 600) (hr : RPF T S) : ∃ r S1 v S2 T1, f_K_vouch S (some 4) a0 a1 = some (r, S1) ∧ f_M_vouch S1 (some 57) a0 a1 = some (v, S2) ∧ PKg n T kw_K96 kw_M101 S S1 T1 S2 ∧ AN [eX, eS] r v (sI S2 57 82) := by
  have q1 : Tx T 1 (some 4) := ⟨4, rfl, hI.1.t9.2.2.2.2.1, by decide⟩
  have q57 : Tx T 100 (some 57) := ⟨57, rfl, hI.1.t9.1, by decide⟩
  obtain ⟨⟨r, S1⟩, e1, T1, g1⟩ : Ho (f_K_vouch S (some 4) a0 a1) (fun q => PW T kw_K96 S 10 700 q.2) := kk_X (t_K_vouch hI.1 q1) (by decide) (by decide)
  have g1 : Rl T (99999 :: kw_K96) S 10 700 T1 S1 := g1
  have f1 : FT S1 := FT_fr hI.2.2.2.1 g1 (by decide +kernel)
  have i1 := IV_K hI g1 q57 (by decide +kernel)
  obtain ⟨⟨v, S2⟩, e2, g2, m2⟩ := mm_vouch (a1 := a0) (a2 := a1) g1.1 (q57.up g1.ty) i1.1 (by have := i1.2; omega)
  have g2 : Rl T1 kw_M101 S1 1 0 T1 S2 := g2
  have iv : IV (n + 1) T1 S2 := IV_M hI g1 i1.2 f1 g2 m2 (by decide +kernel)
  obtain ⟨⟨f, m, rr, dr⟩, t1, h⟩ := hr
  have hT : TV T S := ⟨hI.1, t1⟩
  have t1' : T1 1 = 52 := (g1.ty 1 (by rw [t1]; decide)).trans t1
  have h1 := FR_K hT h g1 (by decide +kernel)
  obtain ⟨an, p⟩ := (h_vouch hT g1.1 h1 a0 a1) _ _ e1 e2
  have f12 : FR S1 S2 := FA_x_vouch hT g1.1 h1 (Kp_of g1 (by decide +kernel)) (Kp_of g2 (by decide +kernel)) (show cRec S1 S2 from p)
  exact ⟨r, S1, v, S2, T1, e1, e2, ⟨g1, g2, g_f_M_vouch _ _ _ _ (GF_rf S1) _ e2, iv, ⟨f, m, rr, DR_fr (DR_fr dr g1 (by decide +kernel)) g2 (by decide +kernel)⟩, t1', FR_M ⟨g1.1, t1'⟩ g2.1 f12 g2 (by decide +kernel)⟩, an⟩
theorem pk_recover {n : Nat} {T : Nat → Nat} {S : AS} {a0 : Int32} (hI : IV n T S) (hn : n ≤ 600) (hr : RPF T S) : ∃ r S1 v S2 T1, f_K_recover S (some 4) a0 = some (r, S1) ∧ f_M_recover S1 (some 57) a0 = some (v, S2) ∧ PKg n T kw_K94 kw_M99 S S1 T1 S2 ∧ AN [eX, eS] r v (sI S2 57 82) := by
  have q1 : Tx T 1 (some 4) := ⟨4, rfl, hI.1.t9.2.2.2.2.1, by decide⟩
  have q57 : Tx T 100 (some 57) := ⟨57, rfl, hI.1.t9.1, by decide⟩
  obtain ⟨⟨r, S1⟩, e1, T1, g1⟩ : Ho (f_K_recover S (some 4) a0) (fun q => PW T kw_K94 S 10 700 q.2) := kk_Y (t_K_recover hI.1 q1) (by decide) (by decide)
  have g1 : Rl T (99999 :: kw_K94) S 10 700 T1 S1 := g1
  have f1 : FT S1 := FT_fr hI.2.2.2.1 g1 (by decide +kernel)
  have i1 := IV_K hI g1 q57 (by decide +kernel)
  obtain ⟨⟨v, S2⟩, e2, g2, m2⟩ := mm_recover (a1 := a0) g1.1 (q57.up g1.ty) i1.1 (by have := i1.2; omega)
  have g2 : Rl T1 kw_M99 S1 1 0 T1 S2 := g2
  have iv : IV (n + 1) T1 S2 := IV_M hI g1 i1.2 f1 g2 m2 (by decide +kernel)
  obtain ⟨⟨f, m, rr, dr⟩, t1, h⟩ := hr
  have hT : TV T S := ⟨hI.1, t1⟩
  have t1' : T1 1 = 52 := (g1.ty 1 (by rw [t1]; decide)).trans t1
  have h1 := FR_K hT h g1 (by decide +kernel)
  obtain ⟨an, p⟩ := (h_recover hT g1.1 h1 a0) _ _ e1 e2
  have f12 : FR S1 S2 := FA_x_recover hT g1.1 h1 (Kp_of g1 (by decide +kernel)) (Kp_of g2 (by decide +kernel)) (show cRec S1 S2 from p)
  exact ⟨r, S1, v, S2, T1, e1, e2, ⟨g1, g2, g_f_M_recover _ _ _ (GF_rf S1) _ e2, iv, ⟨f, m, rr, DR_fr (DR_fr dr g1 (by decide +kernel)) g2 (by decide +kernel)⟩, t1', FR_M ⟨g1.1, t1'⟩ g2.1 f12 g2 (by decide +kernel)⟩, an⟩
theorem pk_withdraw {n : Nat} {T : Nat → Nat} {S : AS} {a0 a1 : Int32} (hI : IV n T S) (hn : n ≤ 600) (hr : RPF T S) : ∃ r S1 v S2 T1, f_K_withdraw S (some 4) a0 a1 = some (r, S1) ∧ f_M_withdraw S1 (some 57) a0 a1 = some (v, S2) ∧ PKg n T kw_K72 kw_M52 S S1 T1 S2 ∧ AN [eX] r v (sI S2 57 82) := by
  have q1 : Tx T 1 (some 4) := ⟨4, rfl, hI.1.t9.2.2.2.2.1, by decide⟩
  have q57 : Tx T 100 (some 57) := ⟨57, rfl, hI.1.t9.1, by decide⟩
  obtain ⟨⟨r, S1⟩, e1, T1, g1⟩ : Ho (f_K_withdraw S (some 4) a0 a1) (fun q => PW T kw_K72 S 10 700 q.2) := kk_X (t_K_withdraw hI.1 q1) (by decide) (by decide)
  have g1 : Rl T (99999 :: kw_K72) S 10 700 T1 S1 := g1
  have f1 : FT S1 := FT_fr hI.2.2.2.1 g1 (by decide +kernel)
  have i1 := IV_K hI g1 q57 (by decide +kernel)
  obtain ⟨⟨v, S2⟩, e2, g2, m2⟩ := mm_withdraw (a1 := a0) (a2 := a1) g1.1 (q57.up g1.ty) i1.1 (by have := i1.2; omega)
  have g2 : Rl T1 kw_M52 S1 1 0 T1 S2 := g2
  have iv : IV (n + 1) T1 S2 := IV_M hI g1 i1.2 f1 g2 m2 (by decide +kernel)
  obtain ⟨⟨f, m, rr, dr⟩, t1, h⟩ := hr
  have hT : TV T S := ⟨hI.1, t1⟩
  have t1' : T1 1 = 52 := (g1.ty 1 (by rw [t1]; decide)).trans t1
  have h1 := FR_K hT h g1 (by decide +kernel)
  obtain ⟨an, p⟩ := (h_withdraw hT g1.1 h1 a0 a1) _ _ e1 e2
  have b := FR_BB hT hI.1 h
  have fk : FK T S S1 := (f_withdraw (BF_of hT.1) b a0 a1) _ e1
  have e3 : nC S2 = nC S1 := enC (FR_BB hT g1.1 h1) (Kp_of g2 (cs := [10039]) (by decide +kernel)) (by decide)
  have e4 : ∀ c, sI S2 98 c = sI S1 98 c := fun c => (Kp_of g2 (cs := [14500]) (by decide +kernel)).M g1.1 (j := 45) (p := 98) rfl (by decide) (by decide) c
  have f12 : FR S1 S2 := FA_x_withdraw hT g1.1 h1 (Kp_of g1 (by decide +kernel)) (Kp_of g2 (by decide +kernel)) (show cCon S1 S2 from p.1) (show cLiv S1 S2 from p.2.1) (show cGod S1 S2 from p.2.2.1) (show cAU S1 S2 from p.2.2.2) (Fre_of hT g1.1 h1 fk e3 e4)
  exact ⟨r, S1, v, S2, T1, e1, e2, ⟨g1, g2, g_f_M_withdraw _ _ _ _ (GF_rf S1) _ e2, iv, ⟨f, m, rr, DR_fr (DR_fr dr g1 (by decide +kernel)) g2 (by decide +kernel)⟩, t1', FR_M ⟨g1.1, t1'⟩ g2.1 f12 g2 (by decide +kernel)⟩, an⟩
theorem pk_stepUp {n : Nat} {T : Nat → Nat} {S : AS} {a0 a1 a2 a3 : Int32} (hI : IV n T S) (hn : n ≤ 600) (hr : RPF T S) : ∃ r S1 v S2 T1, f_K_stepUp S (some 4) a0 a1 a2 a3 = some (r, S1) ∧ f_M_stepUp S1 (some 57) a0 a1 a2 a3 = some (v, S2) ∧ PKg n T kw_K67 kw_M47 S S1 T1 S2 ∧ AN [eX, eA, eS] r v (sI S2 57 82) := by
  have q1 : Tx T 1 (some 4) := ⟨4, rfl, hI.1.t9.2.2.2.2.1, by decide⟩
  have q57 : Tx T 100 (some 57) := ⟨57, rfl, hI.1.t9.1, by decide⟩
  obtain ⟨⟨r, S1⟩, e1, T1, g1⟩ : Ho (f_K_stepUp S (some 4) a0 a1 a2 a3) (fun q => PW T kw_K67 S 10 700 q.2) := kk_X (t_K_stepUp hI.1 q1) (by decide) (by decide)
  have g1 : Rl T (99999 :: kw_K67) S 10 700 T1 S1 := g1
  have f1 : FT S1 := FT_fr hI.2.2.2.1 g1 (by decide +kernel)
  have i1 := IV_K hI g1 q57 (by decide +kernel)
  obtain ⟨⟨v, S2⟩, e2, g2, m2⟩ := mm_stepUp (a1 := a0) (a2 := a1) (a3 := a2) (a4 := a3) g1.1 (q57.up g1.ty) i1.1 (by have := i1.2; omega)
  have g2 : Rl T1 kw_M47 S1 1 0 T1 S2 := g2
  have iv : IV (n + 1) T1 S2 := IV_M hI g1 i1.2 f1 g2 m2 (by decide +kernel)
  obtain ⟨⟨f, m, rr, dr⟩, t1, h⟩ := hr
  have hT : TV T S := ⟨hI.1, t1⟩
  have t1' : T1 1 = 52 := (g1.ty 1 (by rw [t1]; decide)).trans t1
  have h1 := FR_K hT h g1 (by decide +kernel)
  obtain ⟨an, p⟩ := (h_stepUp hT g1.1 h1 a0 a1 a2 a3) _ _ e1 e2
  have f12 : FR S1 S2 := FA_x_stepUp hT g1.1 h1 (Kp_of g1 (by decide +kernel)) (Kp_of g2 (by decide +kernel)) (show cFac S1 S2 from p.1) (show cWrg S1 S2 from p.2.1) (show cAsh S1 S2 from p.2.2.1) (show cUsd S1 S2 from p.2.2.2.1) (show cSsh S1 S2 from p.2.2.2.2.1) (show cAU S1 S2 from p.2.2.2.2.2)
  exact ⟨r, S1, v, S2, T1, e1, e2, ⟨g1, g2, g_f_M_stepUp _ _ _ _ _ _ (GF_rf S1) _ e2, iv, ⟨f, m, rr, DR_fr (DR_fr dr g1 (by decide +kernel)) g2 (by decide +kernel)⟩, t1', FR_M ⟨g1.1, t1'⟩ g2.1 f12 g2 (by decide +kernel)⟩, an⟩
theorem pk_act {n : Nat} {T : Nat → Nat} {S : AS} {a0 a1 : Int32} (hI : IV n T S) (hn : n ≤ 600) (hr : RPF T S) : ∃ r S1 v S2 T1, f_K_act S (some 4) a0 a1 = some (r, S1) ∧ f_M_act S1 (some 57) a0 a1 = some (v, S2) ∧ PKg n T kw_K50 kw_M50 S S1 T1 S2 ∧ AN [eX, eS] r v (sI S2 57 82) := by
  have q1 : Tx T 1 (some 4) := ⟨4, rfl, hI.1.t9.2.2.2.2.1, by decide⟩
  have q57 : Tx T 100 (some 57) := ⟨57, rfl, hI.1.t9.1, by decide⟩
  obtain ⟨⟨r, S1⟩, e1, T1, g1⟩ : Ho (f_K_act S (some 4) a0 a1) (fun q => PW T kw_K50 S 10 700 q.2) := kk_Y (t_K_act hI.1 q1) (by decide) (by decide)
  have g1 : Rl T (99999 :: kw_K50) S 10 700 T1 S1 := g1
  have f1 : FT S1 := FT_fr hI.2.2.2.1 g1 (by decide +kernel)
  have i1 := IV_K hI g1 q57 (by decide +kernel)
  obtain ⟨⟨v, S2⟩, e2, g2, m2⟩ := mm_act (a1 := a0) (a2 := a1) g1.1 (q57.up g1.ty) i1.1 (by have := i1.2; omega)
  have g2 : Rl T1 kw_M50 S1 1 0 T1 S2 := g2
  have iv : IV (n + 1) T1 S2 := IV_M hI g1 i1.2 f1 g2 m2 (by decide +kernel)
  obtain ⟨⟨f, m, rr, dr⟩, t1, h⟩ := hr
  have hT : TV T S := ⟨hI.1, t1⟩
  have t1' : T1 1 = 52 := (g1.ty 1 (by rw [t1]; decide)).trans t1
  have h1 := FR_K hT h g1 (by decide +kernel)
  obtain ⟨an, p⟩ := (h_act hT g1.1 h1 a0 a1) _ _ e1 e2
  have f12 : FR S1 S2 := FA_x_act hT g1.1 h1 (Kp_of g1 (by decide +kernel)) (Kp_of g2 (by decide +kernel)) (show cAsh S1 S2 from p.1) (show cSes S1 S2 from p.2.1) (show cUsd S1 S2 from p.2.2.1) (show cLiv S1 S2 from p.2.2.2.1) (show cSsh S1 S2 from p.2.2.2.2.1) (show cMin S1 S2 from p.2.2.2.2.2.1) (show cCod S1 S2 from p.2.2.2.2.2.2.1) (show cAU S1 S2 from p.2.2.2.2.2.2.2)
  exact ⟨r, S1, v, S2, T1, e1, e2, ⟨g1, g2, g_f_M_act _ _ _ _ (GF_rf S1) _ e2, iv, ⟨f, m, rr, DR_fr (DR_fr dr g1 (by decide +kernel)) g2 (by decide +kernel)⟩, t1', FR_M ⟨g1.1, t1'⟩ g2.1 f12 g2 (by decide +kernel)⟩, an⟩
theorem pk_foreign {n : Nat} {T : Nat → Nat} {S : AS} {a0 : Int32} (hI : IV n T S) (hn : n ≤ 600) (hr : RPF T S) : ∃ r S1 v S2 T1, f_K_foreign S (some 4) a0 = some (r, S1) ∧ f_M_foreign S1 (some 57) a0 = some (v, S2) ∧ PKg n T kw_K50 kw_M50 S S1 T1 S2 ∧ AN [eX, eS] r v (sI S2 57 82) := by
  have q1 : Tx T 1 (some 4) := ⟨4, rfl, hI.1.t9.2.2.2.2.1, by decide⟩
  have q57 : Tx T 100 (some 57) := ⟨57, rfl, hI.1.t9.1, by decide⟩
  obtain ⟨⟨r, S1⟩, e1, T1, g1⟩ : Ho (f_K_foreign S (some 4) a0) (fun q => PW T kw_K50 S 10 700 q.2) := kk_Y (t_K_foreign hI.1 q1) (by decide) (by decide)
  have g1 : Rl T (99999 :: kw_K50) S 10 700 T1 S1 := g1
  have f1 : FT S1 := FT_fr hI.2.2.2.1 g1 (by decide +kernel)
  have i1 := IV_K hI g1 q57 (by decide +kernel)
  obtain ⟨⟨v, S2⟩, e2, g2, m2⟩ := mm_foreign (a1 := a0) g1.1 (q57.up g1.ty) i1.1 (by have := i1.2; omega)
  have g2 : Rl T1 kw_M50 S1 1 0 T1 S2 := g2
  have iv : IV (n + 1) T1 S2 := IV_M hI g1 i1.2 f1 g2 m2 (by decide +kernel)
  obtain ⟨⟨f, m, rr, dr⟩, t1, h⟩ := hr
  have hT : TV T S := ⟨hI.1, t1⟩
  have t1' : T1 1 = 52 := (g1.ty 1 (by rw [t1]; decide)).trans t1
  have h1 := FR_K hT h g1 (by decide +kernel)
  obtain ⟨an, p⟩ := (h_foreign hT g1.1 h1 a0) _ _ e1 e2
  have f12 : FR S1 S2 := FA_x_foreign hT g1.1 h1 (Kp_of g1 (by decide +kernel)) (Kp_of g2 (by decide +kernel)) (show cAsh S1 S2 from p.1) (show cSes S1 S2 from p.2.1) (show cUsd S1 S2 from p.2.2.1) (show cLiv S1 S2 from p.2.2.2.1) (show cSsh S1 S2 from p.2.2.2.2.1) (show cMin S1 S2 from p.2.2.2.2.2.1) (show cCod S1 S2 from p.2.2.2.2.2.2.1) (show cAU S1 S2 from p.2.2.2.2.2.2.2)
  exact ⟨r, S1, v, S2, T1, e1, e2, ⟨g1, g2, g_f_M_foreign _ _ _ (GF_rf S1) _ e2, iv, ⟨f, m, rr, DR_fr (DR_fr dr g1 (by decide +kernel)) g2 (by decide +kernel)⟩, t1', FR_M ⟨g1.1, t1'⟩ g2.1 f12 g2 (by decide +kernel)⟩, an⟩
theorem pk_authorize {n : Nat} {T : Nat → Nat} {S : AS} {a0 a1 a2 a3 : Int32} (hI : IV n T S) (hn : n ≤ 600) (hr : RPF T S) : ∃ r S1 v S2 T1, f_K_authorize S (some 4) a0 a1 a2 a3 = some (r, S1) ∧ f_M_authorize S1 (some 57) a0 a1 a2 a3 = some (v, S2) ∧ PKg n T kw_K74 kw_M60 S S1 T1 S2 ∧ AN [eX, eA, eS] r v (sI S2 57 82) := by
  have q1 : Tx T 1 (some 4) := ⟨4, rfl, hI.1.t9.2.2.2.2.1, by decide⟩
  have q57 : Tx T 100 (some 57) := ⟨57, rfl, hI.1.t9.1, by decide⟩
  obtain ⟨⟨r, S1⟩, e1, T1, g1⟩ : Ho (f_K_authorize S (some 4) a0 a1 a2 a3) (fun q => PW T kw_K74 S 10 700 q.2) := kk_Y (t_K_authorize hI.1 q1) (by decide) (by decide)
  have g1 : Rl T (99999 :: kw_K74) S 10 700 T1 S1 := g1
  have f1 : FT S1 := FT_fr hI.2.2.2.1 g1 (by decide +kernel)
  have i1 := IV_K hI g1 q57 (by decide +kernel)
  obtain ⟨⟨v, S2⟩, e2, g2, m2⟩ := mm_authorize (a1 := a0) (a2 := a1) (a3 := a2) (a4 := a3) g1.1 (q57.up g1.ty) i1.1 (by have := i1.2; omega)
  have g2 : Rl T1 kw_M60 S1 1 0 T1 S2 := g2
  have iv : IV (n + 1) T1 S2 := IV_M hI g1 i1.2 f1 g2 m2 (by decide +kernel)
  obtain ⟨⟨f, m, rr, dr⟩, t1, h⟩ := hr
  have hT : TV T S := ⟨hI.1, t1⟩
  have t1' : T1 1 = 52 := (g1.ty 1 (by rw [t1]; decide)).trans t1
  have h1 := FR_K hT h g1 (by decide +kernel)
  obtain ⟨an, p⟩ := (h_authorize hT g1.1 h1 a0 a1 a2 a3) _ _ e1 e2
  have f12 : FR S1 S2 := FA_x_authorize hT g1.1 h1 (Kp_of g1 (by decide +kernel)) (Kp_of g2 (by decide +kernel)) (show cUsd S1 S2 from p.1) (show cCod S1 S2 from p.2.1) (show cFre S1 S2 from p.2.2.1) (show cFam S1 S2 from p.2.2.2)
  exact ⟨r, S1, v, S2, T1, e1, e2, ⟨g1, g2, g_f_M_authorize _ _ _ _ _ _ (GF_rf S1) _ e2, iv, ⟨f, m, rr, DR_fr (DR_fr dr g1 (by decide +kernel)) g2 (by decide +kernel)⟩, t1', FR_M ⟨g1.1, t1'⟩ g2.1 f12 g2 (by decide +kernel)⟩, an⟩
theorem pk_exchange {n : Nat} {T : Nat → Nat} {S : AS} {a0 a1 a2 : Int32} (hI : IV n T S) (hn : n ≤ 600) (hr : RPF T S) : ∃ r S1 v S2 T1, f_K_exchange S (some 4) a0 a1 a2 = some (r, S1) ∧ f_M_exchange S1 (some 57) a0 a1 a2 = some (v, S2) ∧ PKg n T kw_K77 kw_M83 S S1 T1 S2 ∧ AN [eX, eA, eS] r v (sI S2 57 82) := by
  have q1 : Tx T 1 (some 4) := ⟨4, rfl, hI.1.t9.2.2.2.2.1, by decide⟩
  have q57 : Tx T 100 (some 57) := ⟨57, rfl, hI.1.t9.1, by decide⟩
  obtain ⟨⟨r, S1⟩, e1, T1, g1⟩ : Ho (f_K_exchange S (some 4) a0 a1 a2) (fun q => PW T kw_K77 S 10 700 q.2) := kk_Y (t_K_exchange hI.1 q1) (by decide) (by decide)
  have g1 : Rl T (99999 :: kw_K77) S 10 700 T1 S1 := g1
  have f1 : FT S1 := FT_fr hI.2.2.2.1 g1 (by decide +kernel)
  have i1 := IV_K hI g1 q57 (by decide +kernel)
  obtain ⟨⟨v, S2⟩, e2, g2, m2⟩ := mm_exchange (a1 := a0) (a2 := a1) (a3 := a2) g1.1 (q57.up g1.ty) i1.1 (by have := i1.2; omega)
  have g2 : Rl T1 kw_M83 S1 1 0 T1 S2 := g2
  have iv : IV (n + 1) T1 S2 := IV_M hI g1 i1.2 f1 g2 m2 (by decide +kernel)
  obtain ⟨⟨f, m, rr, dr⟩, t1, h⟩ := hr
  have hT : TV T S := ⟨hI.1, t1⟩
  have t1' : T1 1 = 52 := (g1.ty 1 (by rw [t1]; decide)).trans t1
  have h1 := FR_K hT h g1 (by decide +kernel)
  obtain ⟨an, p⟩ := (h_exchange hT g1.1 h1 a0 a1 a2) _ _ e1 e2
  have f12 : FR S1 S2 := FA_x_exchange hT g1.1 h1 (Kp_of g1 (by decide +kernel)) (Kp_of g2 (by decide +kernel)) (show cFre S1 S2 from p.1) (show cNum S1 S2 from p.2.1) (show cTok S1 S2 from p.2.2.1) (show cAud S1 S2 from p.2.2.2)
  exact ⟨r, S1, v, S2, T1, e1, e2, ⟨g1, g2, g_f_M_exchange _ _ _ _ _ (GF_rf S1) _ e2, iv, ⟨f, m, rr, DR_fr (DR_fr dr g1 (by decide +kernel)) g2 (by decide +kernel)⟩, t1', FR_M ⟨g1.1, t1'⟩ g2.1 f12 g2 (by decide +kernel)⟩, an⟩
theorem pk_refresh {n : Nat} {T : Nat → Nat} {S : AS} {a0 a1 : Int32} (hI : IV n T S) (hn : n ≤ 600) (hr : RPF T S) : ∃ r S1 v S2 T1, f_K_refresh S (some 4) a0 a1 = some (r, S1) ∧ f_M_refresh S1 (some 57) a0 a1 = some (v, S2) ∧ PKg n T kw_K88 kw_M82 S S1 T1 S2 ∧ AN [eX, eA, eS] r v (sI S2 57 82) := by
  have q1 : Tx T 1 (some 4) := ⟨4, rfl, hI.1.t9.2.2.2.2.1, by decide⟩
  have q57 : Tx T 100 (some 57) := ⟨57, rfl, hI.1.t9.1, by decide⟩
  obtain ⟨⟨r, S1⟩, e1, T1, g1⟩ : Ho (f_K_refresh S (some 4) a0 a1) (fun q => PW T kw_K88 S 10 700 q.2) := kk_Y (t_K_refresh hI.1 q1) (by decide) (by decide)
  have g1 : Rl T (99999 :: kw_K88) S 10 700 T1 S1 := g1
  have f1 : FT S1 := FT_fr hI.2.2.2.1 g1 (by decide +kernel)
  have i1 := IV_K hI g1 q57 (by decide +kernel)
  obtain ⟨⟨v, S2⟩, e2, g2, m2⟩ := mm_refresh (a1 := a0) (a2 := a1) g1.1 (q57.up g1.ty) i1.1 (by have := i1.2; omega)
  have g2 : Rl T1 kw_M82 S1 1 0 T1 S2 := g2
  have iv : IV (n + 1) T1 S2 := IV_M hI g1 i1.2 f1 g2 m2 (by decide +kernel)
  obtain ⟨⟨f, m, rr, dr⟩, t1, h⟩ := hr
  have hT : TV T S := ⟨hI.1, t1⟩
  have t1' : T1 1 = 52 := (g1.ty 1 (by rw [t1]; decide)).trans t1
  have h1 := FR_K hT h g1 (by decide +kernel)
  obtain ⟨an, p⟩ := (h_refresh hT g1.1 h1 a0 a1) _ _ e1 e2
  have f12 : FR S1 S2 := FA_x_refresh hT g1.1 h1 (Kp_of g1 (by decide +kernel)) (Kp_of g2 (by decide +kernel)) (show cUsd S1 S2 from p.1) (show cFre S1 S2 from p.2.1) (show cNum S1 S2 from p.2.2.1) (show cGod S1 S2 from p.2.2.2.1) (show cTok S1 S2 from p.2.2.2.2.1) (show cAud S1 S2 from p.2.2.2.2.2.1) (show cAU S1 S2 from p.2.2.2.2.2.2)
  exact ⟨r, S1, v, S2, T1, e1, e2, ⟨g1, g2, g_f_M_refresh _ _ _ _ (GF_rf S1) _ e2, iv, ⟨f, m, rr, DR_fr (DR_fr dr g1 (by decide +kernel)) g2 (by decide +kernel)⟩, t1', FR_M ⟨g1.1, t1'⟩ g2.1 f12 g2 (by decide +kernel)⟩, an⟩
theorem pk_redeem {n : Nat} {T : Nat → Nat} {S : AS} {a0 : Int32} (hI : IV n T S) (hn : n ≤ 600) (hr : RPF T S) : ∃ r S1 v S2 T1, f_K_redeem S (some 4) a0 = some (r, S1) ∧ f_M_redeem S1 (some 57) a0 = some (v, S2) ∧ PKg n T kw_K83 kw_M77 S S1 T1 S2 ∧ AN [eX, eS] r v (sI S2 57 82) := by
  have q1 : Tx T 1 (some 4) := ⟨4, rfl, hI.1.t9.2.2.2.2.1, by decide⟩
  have q57 : Tx T 100 (some 57) := ⟨57, rfl, hI.1.t9.1, by decide⟩
  obtain ⟨⟨r, S1⟩, e1, ⟨T1, g0, -⟩, f1⟩ := tF_redeem (a1 := a0) hI.1 q1 hI.2.2.2.1
  have g1 : Rl T (99999 :: kw_K83) S 10 700 T1 S1 := Rlweak g0 (fun _ z => List.mem_cons_of_mem _ z) (by decide) (by decide)
  have f1 : FT S1 := f1
  have i1 := IV_K hI g1 q57 (by decide +kernel)
  obtain ⟨⟨v, S2⟩, e2, g2, m2⟩ := mm_redeem (a1 := a0) g1.1 (q57.up g1.ty) i1.1 (by have := i1.2; omega)
  have g2 : Rl T1 kw_M77 S1 1 0 T1 S2 := g2
  have iv : IV (n + 1) T1 S2 := IV_M hI g1 i1.2 f1 g2 m2 (by decide +kernel)
  obtain ⟨⟨f, m, rr, dr⟩, t1, h⟩ := hr
  have hT : TV T S := ⟨hI.1, t1⟩
  have t1' : T1 1 = 52 := (g1.ty 1 (by rw [t1]; decide)).trans t1
  have h1 := FR_K hT h g1 (by decide +kernel)
  obtain ⟨an, p⟩ := (h_redeem hT g1.1 h1 a0) _ _ e1 e2
  have f12 : FR S1 S2 := FA_x_redeem hT g1.1 h1 (Kp_of g1 (by decide +kernel)) (Kp_of g2 (by decide +kernel)) (show cCod S1 S2 from p.1) (show cFre S1 S2 from p.2.1) (show cFam S1 S2 from p.2.2.1) (show cNum S1 S2 from p.2.2.2.1) (show cGod S1 S2 from p.2.2.2.2.1) (show cTok S1 S2 from p.2.2.2.2.2.1) (show cAud S1 S2 from p.2.2.2.2.2.2.1) (show cAU S1 S2 from p.2.2.2.2.2.2.2)
  exact ⟨r, S1, v, S2, T1, e1, e2, ⟨g1, g2, g_f_M_redeem _ _ _ (GF_rf S1) _ e2, iv, ⟨f, m, rr, DR_fr (DR_fr dr g1 (by decide +kernel)) g2 (by decide +kernel)⟩, t1', FR_M ⟨g1.1, t1'⟩ g2.1 f12 g2 (by decide +kernel)⟩, an⟩
theorem pk_begin {n : Nat} {T : Nat → Nat} {S : AS} {a0 a1 a2 : Int32} (hI : IV n T S) (hn : n ≤ 600) (hr : RPF T S) : ∃ r S1 v S2 T1, f_K_begin S (some 4) a0 a1 a2 = some (r, S1) ∧ f_M_begin S1 (some 57) a0 a1 a2 = some (v, S2) ∧ PKg n T kw_K57 kw_bg S S1 T1 S2 ∧ AN [eX, eS] r v (sI S2 57 82) := by
  have q1 : Tx T 1 (some 4) := ⟨4, rfl, hI.1.t9.2.2.2.2.1, by decide⟩
  have q57 : Tx T 100 (some 57) := ⟨57, rfl, hI.1.t9.1, by decide⟩
  obtain ⟨⟨r, S1⟩, e1, T1, g1⟩ : Ho (f_K_begin S (some 4) a0 a1 a2) (fun q => PW T kw_K57 S 10 700 q.2) := kk_Y (t_K_begin hI.1 q1) (by decide) (by decide)
  have g1 : Rl T (99999 :: kw_K57) S 10 700 T1 S1 := g1
  have f1 : FT S1 := FT_fr hI.2.2.2.1 g1 (by decide +kernel)
  have i1 := IV_K hI g1 q57 (by decide +kernel)
  obtain ⟨⟨v, S2⟩, e2, g2, m2⟩ := mm_begin (a1 := a0) (a2 := a1) (a3 := a2) g1.1 (q57.up g1.ty) i1.1 (by have := i1.2; omega)
  have g2 : Rl T1 kw_bg S1 1 0 T1 S2 := g2
  have iv : IV (n + 1) T1 S2 := IV_M hI g1 i1.2 f1 g2 m2 (by decide +kernel)
  obtain ⟨⟨f, m, rr, dr⟩, t1, h⟩ := hr
  have hT : TV T S := ⟨hI.1, t1⟩
  have t1' : T1 1 = 52 := (g1.ty 1 (by rw [t1]; decide)).trans t1
  have h1 := FR_K hT h g1 (by decide +kernel)
  obtain ⟨an, p⟩ := (h_begin hT g1.1 i1.1 h1 a0 a1 a2) _ _ e1 e2
  have f12 : FR S1 S2 := FA_x_begin hT g1.1 h1 (Kp_of g1 (by decide +kernel)) (Kp_of g2 (by decide +kernel)) (show cKn S1 S2 from p.1) (show cAtt S1 S2 from p.2.1) (show cAst S1 S2 from p.2.2.1) (show cAsh S1 S2 from p.2.2.2.1) (show cSes S1 S2 from p.2.2.2.2.1) (show cUsd S1 S2 from p.2.2.2.2.2.1) (show cLiv S1 S2 from p.2.2.2.2.2.2.1) (show cSsh S1 S2 from p.2.2.2.2.2.2.2.1) (show cMin S1 S2 from p.2.2.2.2.2.2.2.2.1) (show cCod S1 S2 from p.2.2.2.2.2.2.2.2.2.1) (show cAU S1 S2 from p.2.2.2.2.2.2.2.2.2.2)
  exact ⟨r, S1, v, S2, T1, e1, e2, ⟨g1, g2, g_f_M_begin _ _ _ _ _ (GF_rf S1) _ e2, iv, ⟨f, m, rr, DR_fr (DR_fr dr g1 (by decide +kernel)) g2 (by decide +kernel)⟩, t1', FR_M ⟨g1.1, t1'⟩ g2.1 f12 g2 (by decide +kernel)⟩, an⟩
theorem pk_weakest {n : Nat} {T : Nat → Nat} {S : AS} {a0 : Int32} (hI : IV n T S) (hn : n ≤ 600) (hr : RPF T S) : ∃ r S1 v S2 T1, f_K_weakest S (some 4) a0 = some (r, S1) ∧ f_M_weakest S1 (some 57) a0 = some (v, S2) ∧ PKg n T kw_K14 kw_M22 S S1 T1 S2 ∧ AN [eX] r v (sI S2 57 82) := by
  have q1 : Tx T 1 (some 4) := ⟨4, rfl, hI.1.t9.2.2.2.2.1, by decide⟩
  have q57 : Tx T 100 (some 57) := ⟨57, rfl, hI.1.t9.1, by decide⟩
  obtain ⟨⟨r, S1⟩, e1, T1, g1⟩ : Ho (f_K_weakest S (some 4) a0) (fun q => PW T kw_K14 S 10 700 q.2) := kk_Y (t_K_weakest hI.1 q1) (by decide) (by decide)
  have g1 : Rl T (99999 :: kw_K14) S 10 700 T1 S1 := g1
  have f1 : FT S1 := FT_fr hI.2.2.2.1 g1 (by decide +kernel)
  have i1 := IV_K hI g1 q57 (by decide +kernel)
  obtain ⟨⟨v, S2⟩, e2, g2, m2⟩ := mm_weakest (a1 := a0) g1.1 (q57.up g1.ty) i1.1 (by have := i1.2; omega)
  have g2 : Rl T1 kw_M22 S1 1 0 T1 S2 := g2
  have iv : IV (n + 1) T1 S2 := IV_M hI g1 i1.2 f1 g2 m2 (by decide +kernel)
  obtain ⟨⟨f, m, rr, dr⟩, t1, h⟩ := hr
  have hT : TV T S := ⟨hI.1, t1⟩
  have t1' : T1 1 = 52 := (g1.ty 1 (by rw [t1]; decide)).trans t1
  have h1 := FR_K hT h g1 (by decide +kernel)
  obtain ⟨an, p⟩ := (h_weakest hT g1.1 i1.1 h1 a0) _ _ e1 e2
  have f12 : FR S1 S2 := FA_x_weakest hT g1.1 h1 (Kp_of g1 (by decide +kernel)) (Kp_of g2 (by decide +kernel)) 
  exact ⟨r, S1, v, S2, T1, e1, e2, ⟨g1, g2, g_f_M_weakest _ _ _ (GF_rf S1) _ e2, iv, ⟨f, m, rr, DR_fr (DR_fr dr g1 (by decide +kernel)) g2 (by decide +kernel)⟩, t1', FR_M ⟨g1.1, t1'⟩ g2.1 f12 g2 (by decide +kernel)⟩, an⟩
theorem pk_answer {n : Nat} {T : Nat → Nat} {S : AS} {a0 a1 a2 : Int32} (hI : IV n T S) (hn : n ≤ 600) (hr : RPF T S) : ∃ r S1 v S2 T1, f_K_answer S (some 4) a0 a1 a2 = some (r, S1) ∧ f_M_answer S1 (some 57) a0 a1 a2 = some (v, S2) ∧ PKg n T kw_K63 kw_an S S1 T1 S2 ∧ AN [eX, eA, eS] r v (sI S2 57 82) := by
  have q1 : Tx T 1 (some 4) := ⟨4, rfl, hI.1.t9.2.2.2.2.1, by decide⟩
  have q57 : Tx T 100 (some 57) := ⟨57, rfl, hI.1.t9.1, by decide⟩
  obtain ⟨⟨r, S1⟩, e1, T1, g1⟩ : Ho (f_K_answer S (some 4) a0 a1 a2) (fun q => PW T kw_K63 S 10 700 q.2) := kk_Y (t_K_answer hI.1 q1) (by decide) (by decide)
  have g1 : Rl T (99999 :: kw_K63) S 10 700 T1 S1 := g1
  have f1 : FT S1 := FT_fr hI.2.2.2.1 g1 (by decide +kernel)
  have i1 := IV_K hI g1 q57 (by decide +kernel)
  obtain ⟨⟨v, S2⟩, e2, g2, m2⟩ := mm_answer (a1 := a0) (a2 := a1) (a3 := a2) g1.1 (q57.up g1.ty) i1.1 (by have := i1.2; omega)
  have g2 : Rl T1 kw_an S1 1 0 T1 S2 := g2
  have iv : IV (n + 1) T1 S2 := IV_M hI g1 i1.2 f1 g2 m2 (by decide +kernel)
  obtain ⟨⟨f, m, rr, dr⟩, t1, h⟩ := hr
  have hT : TV T S := ⟨hI.1, t1⟩
  have t1' : T1 1 = 52 := (g1.ty 1 (by rw [t1]; decide)).trans t1
  have h1 := FR_K hT h g1 (by decide +kernel)
  obtain ⟨an, p⟩ := (h_answer hT g1.1 i1.1 (by have := i1.2; omega) h1 a0 a1 a2) _ _ e1 e2
  have f12 : FR S1 S2 := FA_x_answer hT g1.1 h1 (Kp_of g1 (by decide +kernel)) (Kp_of g2 (by decide +kernel)) (show cFac S1 S2 from p.1) (show cWrg S1 S2 from p.2.1) (show cKn S1 S2 from p.2.2.1) (show cAst S1 S2 from p.2.2.2.1) (show cAsh S1 S2 from p.2.2.2.2.1) (show cSes S1 S2 from p.2.2.2.2.2.1) (show cUsd S1 S2 from p.2.2.2.2.2.2.1) (show cLiv S1 S2 from p.2.2.2.2.2.2.2.1) (show cSsh S1 S2 from p.2.2.2.2.2.2.2.2.1) (show cMin S1 S2 from p.2.2.2.2.2.2.2.2.2.1) (show cCod S1 S2 from p.2.2.2.2.2.2.2.2.2.2.1) (show cAU S1 S2 from p.2.2.2.2.2.2.2.2.2.2.2)
  exact ⟨r, S1, v, S2, T1, e1, e2, ⟨g1, g2, g_f_M_answer _ _ _ _ _ (GF_rf S1) _ e2, iv, ⟨f, m, rr, DR_fr (DR_fr dr g1 (by decide +kernel)) g2 (by decide +kernel)⟩, t1', FR_M ⟨g1.1, t1'⟩ g2.1 f12 g2 (by decide +kernel)⟩, an⟩
