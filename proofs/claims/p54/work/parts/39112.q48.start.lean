/-! ===== the law's start ===== -/
theorem p_begin0 {m : AS} (h9 : sI m 57 9 = 0) : Hp (f_M_begin m (some 57) (0 : Int32) (0 : Int32) (0 : Int32)) (fun q => q.2 = wI m 57 82 2) := by
  unfold f_M_begin
  refine p_of (st_b2 (q_six m _)) ?_
  rw [if_pos (c := (0 : Int32) ≤ 0 ∧ (0 : Int32) ≤ 5) (by decide)]
  refine p_of (st_F one0) (p_of (st_b2 (q_six m _)) ?_)
  rw [if_pos (c := (0 : Int32) ≤ 0 ∧ (0 : Int32) ≤ 5) (by decide)]
  refine p_of (st_F one0) (p_of (st_b2 (q_six m _)) ?_)
  rw [if_pos (c := (0 : Int32) ≤ 0 ∧ (0 : Int32) ≤ 5) (by decide)]
  refine p_of (st_F one0) ?_
  unfold f_M_begin_B26
  refine p_of (st_F one0) (p_of (st_gIe h9) (p_of (st_T (by decide)) ?_))
  unfold f_M_begin_B65 f_M_begin_B66
  refine p_of st_rv (p_b2 p_mayB (fun v m' q => ?_))
  rw [if_neg one0, if_pos rfl] at q
  obtain ⟨q1, q2⟩ := Prod.mk.inj q
  rw [q1, q2]
  exact p_of (st_T rfl) (p_ret rfl)
def SI (n r : Nat) (S : AS) : Prop := ∃ T, IV n T S ∧ RPF T S ∧ TL T ∧ sC S ≤ 200 + 20 * r ∧ sS S ≤ 12000 + 1000 * r
theorem SI.lr {n r : Nat} {S : AS} (h : SI n r S) : LR S := by
  obtain ⟨T, iv, -, tl, -⟩ := h
  exact TL_LR iv.1 tl
theorem SI_LF {n r : Nat} {S S' : AS} (h : SI n r S) (l : LF S S') : SI n r S' := by
  obtain ⟨T, iv, rp, tl, c1, c2⟩ := h
  exact ⟨T, LF_IV iv tl l, LF_RPF iv.1 tl rp l, tl, by rw [l.2.2.2.2.2.1]; exact c1, by rw [l.2.2.2.2.2.2.1]; exact c2⟩
theorem PK_SI {n r : Nat} {T T1 : Nat → Nat} {w wM : List Nat} {S S1 S2 : AS} (iv : IV n T S) (tl : TL T) (c1 : sC S ≤ 200 + 20 * r) (c2 : sS S ≤ 12000 + 1000 * r) (g : PKg n T w wM S S1 T1 S2) (h1 : (99999 :: w).all (fun z => !lw.contains z) = true) (h2 : wM.all (fun z => !lw.contains z) = true) (h3 : ∀ z ∈ w, z < 10000 ∨ 50000 ≤ z) : SI (n + 1) (r + 1) S2 ∧ LK S S2 ∧ GK S S1 ∧ MF S1 := by
  obtain ⟨tl1, r2, r1⟩ := PK_rows tl iv g h1 h2 h3
  obtain ⟨g1, g2, -, iv2, rp2⟩ := g
  have a := g1.2.2.2.1
  have b := g2.2.2.2.1
  exact ⟨⟨T1, iv2, rp2, tl1, by have := a.1; have := b.1; omega, by have := a.2.1; have := b.2.1; omega⟩, r2, K_gh iv.1 g1 h3, MF_of g1.1⟩
theorem z_TL : TL kr_T0 := by
  unfold TL
  decide +kernel
theorem z_SI : SI 0 0 kr_Z := ⟨kr_T0, z_IV, z_RPF, z_TL, by have := kr_zc.1; omega, by have := kr_zc.2; omega⟩
/-- the law's rows when its loop begins, the steps and what sessions were shown aside -/
def A1 : AS := wI (wI (wI (wI (wI (wI kr_Z 127 5 1) 127 10 7) 139 1 1) 139 5 1) 139 9 1) 139 13 1
theorem a127 : ∀ j, j < 14 → sI A1 127 j = if j = 5 then 1 else if j = 10 then 7 else 0 := by decide +kernel
theorem a129 : ∀ j, j < 36 → sI A1 129 j = 0 := by decide +kernel
theorem a138 : ∀ j, j < 20 → sI A1 138 j = 0 := by decide +kernel
theorem a139 : ∀ s, s < 4 → sI A1 139 (4 * s) = 0 ∧ sI A1 139 (4 * s + 1) = 1 ∧ sI A1 139 (4 * s + 2) = 0 ∧ sI A1 139 (4 * s + 3) = 0 := by decide +kernel
theorem a140 : ∀ j, j < 20 → sI A1 140 j = 0 := by decide +kernel
theorem z57 : sI kr_Z 57 0 = 0 ∧ sI kr_Z 57 30 = 0 ∧ sI kr_Z 57 39 = 0 ∧ sI kr_Z 57 46 = 0 ∧ sI kr_Z 57 52 = 0 ∧ sI kr_Z 57 19 = 0 ∧ sI kr_Z 57 60 = 1 ∧ sI kr_Z 57 61 = 0 ∧ sI kr_Z 57 62 = -1 ∧ sI kr_Z 57 77 = 0 ∧ sI kr_Z 57 81 = 7 ∧ sI kr_Z 57 9 = 0 := by decide +kernel
theorem z58 : ∀ j, j < 9 → sI kr_Z 58 j = 0 ∧ sI kr_Z 59 j = 0 ∧ sI kr_Z 61 j = -1000 := by decide +kernel
theorem z60 : ∀ j, j < 3 → sI kr_Z 60 j = 0 ∧ sI kr_Z 64 j = 0 ∧ sI kr_Z 65 j = 0 := by decide +kernel
theorem z62 : ∀ j, j < 18 → sI kr_Z 62 j = 0 ∧ sI kr_Z 63 j = 0 := by decide +kernel
theorem z91 : ∀ j, j < 28 → (j < 12 ∨ 24 ≤ j) → sI kr_Z 91 j = 0 := by decide +kernel
theorem z113 : ∀ j, j < 4 → sI kr_Z 92 j = 0 ∧ sI kr_Z 113 j = 0 ∧ sI kr_Z 114 j = 1 ∧ sI kr_Z 115 j = 0 := by decide +kernel
theorem z111 : ∀ j, j < 10 → sI kr_Z 111 j = 0 ∧ sI kr_Z 112 j = -1 := by decide +kernel
theorem z116 : ∀ s, s < 4 → ∀ f, f < 10 → sI kr_Z 116 (60 * s + f) = 0 := by decide +kernel
theorem z73 : sI kr_Z 73 0 = 2 ∧ sI kr_Z 73 1 = 1 ∧ sI kr_Z 73 2 = 1 := by decide +kernel
theorem z66 : sI kr_Z 66 8 = 0 := by decide +kernel
theorem bt0z : ∀ j, j < 32 → ¬ bt 0 j = true := by decide +kernel
/-- the reference's places as they began, its steps aside -/
def GZ (S : AS) : Prop := ∀ k j, 57 ≤ k → k < 126 → ¬ (k = 57 ∧ (100 ≤ j ∨ j = 82 ∨ j = 9)) → ¬ (66 ≤ k ∧ k ≤ 71) → sI S k j = sI kr_Z k j
theorem z_LW {S : AS} (h1 : ∀ k j, 127 ≤ k → k < 141 → k ≠ 128 → k ≠ 134 → sI S k j = sI A1 k j) (h2 : GZ S) (flo : lFlo S S) : LW 0 0 0 0 1 0 S S := by
  have s127 : ∀ j, j < 14 → sI S 127 j = if j = 5 then 1 else if j = 10 then 7 else 0 := fun j hj => (h1 127 j (by omega) (by omega) (by omega) (by omega)).trans (a127 j hj)
  have g57 : ∀ j, j < 100 → j ≠ 82 → j ≠ 9 → sI S 57 j = sI kr_Z 57 j := fun j a b c => h2 57 j (by omega) (by omega) (by omega) (by omega)
  have gE : ∀ k j, 58 ≤ k → k < 126 → ¬ (66 ≤ k ∧ k ≤ 71) → sI S k j = sI kr_Z k j := fun k j a b c => h2 k j (by omega) (by omega) (by omega) (by omega)
  obtain ⟨w0, w30, w39, w46, w52, w19, w60, w61, w62, w77, w81, -⟩ := z57
  have e0 : sI S 57 0 = 0 := (g57 0 (by omega) (by omega) (by omega)).trans w0
  refine ⟨⟨⟨s127 1 (by decide), (g57 30 (by omega) (by omega) (by omega)).trans w30, by decide⟩, ⟨s127 2 (by decide), (g57 39 (by omega) (by omega) (by omega)).trans w39, by decide⟩, ⟨s127 3 (by decide), (g57 46 (by omega) (by omega) (by omega)).trans w46, by decide⟩, ⟨s127 4 (by decide), (g57 52 (by omega) (by omega) (by omega)).trans w52, by decide⟩, ⟨s127 5 (by decide), (g57 60 (by omega) (by omega) (by omega)).trans w60, by decide⟩, ⟨s127 11 (by decide), (g57 19 (by omega) (by omega) (by omega)).trans w19, by decide⟩⟩, ⟨⟨(s127 0 (by decide)).trans e0.symm, by rw [e0]; decide, by rw [e0]; decide⟩, ⟨(s127 9 (by decide)).trans ((g57 77 (by omega) (by omega) (by omega)).trans w77).symm, (s127 10 (by decide)).trans ((g57 81 (by omega) (by omega) (by omega)).trans w81).symm⟩, ⟨⟨0, by decide, s127 6 (by decide), (g57 61 (by omega) (by omega) (by omega)).trans w61⟩, Or.inl ⟨s127 7 (by decide), (g57 62 (by omega) (by omega) (by omega)).trans w62⟩⟩, fun p hp => ?_⟩, flo, ⟨fun p hp => ?_, fun p hp k hk => ?_, fun p hp d hd => ?_⟩, ⟨fun i hi => absurd hi (Nat.not_lt_zero _), fun i hi => absurd hi (Nat.not_lt_zero _), fun i hi => absurd hi (Nat.not_lt_zero _)⟩, ⟨fun i hi => absurd hi (Nat.not_lt_zero _), fun i hi => absurd hi (Nat.not_lt_zero _), fun i hi => absurd hi (Nat.not_lt_zero _), fun i hi => absurd hi (Nat.not_lt_zero _)⟩,
    ⟨fun i hi => absurd hi (Nat.not_lt_zero _), fun i hi => absurd hi (Nat.not_lt_zero _), fun i hi => absurd hi (Nat.not_lt_zero _), fun i hi => absurd hi (Nat.not_lt_zero _), fun i hi => absurd hi (Nat.not_lt_zero _)⟩, fun i hi => absurd hi (Nat.not_lt_zero _), fun i hi => ?_, ⟨fun s hs => ?_, fun s hs => ⟨fun f hf => ?_, fun f _ hf => ?_, fun f hf => absurd hf (Nat.not_lt_zero _)⟩⟩, fun c hc => ?_⟩
  · have e13 : sI S 127 13 = 0 := s127 13 (by decide)
    obtain ⟨-, b1, b2⟩ := z60 p hp
    rw [e13, gE 65 p (by omega) (by omega) (by omega), gE 64 p (by omega) (by omega) (by omega), b1, b2]
    exact ⟨⟨fun q => absurd q (bt0z p (by omega)), fun q => absurd q (by decide)⟩, Or.inl rfl, rfl⟩
  · have n : ∀ j, j < 36 → sI S 129 j = 0 := fun j hj => (h1 129 j (by omega) (by omega) (by omega) (by omega)).trans (a129 j hj)
    refine ⟨fun f hf => ⟨⟨0, by decide, n _ (by omega), (gE 58 _ (by omega) (by omega) (by omega)).trans (z58 _ (by omega)).1⟩, (n _ (by omega)).trans ((gE 59 _ (by omega) (by omega) (by omega)).trans (z58 _ (by omega)).2.1).symm⟩, (n _ (by omega)).trans ((gE 60 _ (by omega) (by omega) (by omega)).trans (z60 p hp).1).symm⟩
  · exact Or.inl ⟨(h1 129 _ (by omega) (by omega) (by omega) (by omega)).trans (a129 _ (by omega)), (gE 61 _ (by omega) (by omega) (by omega)).trans (z58 _ (by omega)).2.2⟩
  · obtain ⟨b1, b2⟩ := z62 (6 * p + d) (by omega)
    rw [h1 129 _ (by omega) (by omega) (by omega) (by omega), h1 129 _ (by omega) (by omega) (by omega) (by omega), a129 _ (by omega), a129 _ (by omega), gE 62 _ (by omega) (by omega) (by omega), gE 63 _ (by omega) (by omega) (by omega), b1, b2]
    exact ⟨⟨⟨fun q => absurd q (bt0z d (by omega)), fun q => absurd q (by decide)⟩, Or.inl rfl⟩, ⟨fun q => absurd q (bt0z d (by omega)), fun q => absurd q (by decide)⟩, Or.inl rfl⟩
  · obtain ⟨b1, b2⟩ := z111 i hi
    rw [h1 138 _ (by omega) (by omega) (by omega) (by omega), h1 138 _ (by omega) (by omega) (by omega) (by omega), a138 _ (by omega), a138 _ (by omega), gE 111 _ (by omega) (by omega) (by omega), gE 112 _ (by omega) (by omega) (by omega), b1, b2]
    exact ⟨⟨rfl, Or.inl rfl⟩, Or.inl ⟨rfl, rfl⟩⟩
  · obtain ⟨b1, b2, b3, b4⟩ := a139 s hs
    obtain ⟨-, c1, c2, c3⟩ := z113 s hs
    rw [h1 139 _ (by omega) (by omega) (by omega) (by omega), h1 139 _ (by omega) (by omega) (by omega) (by omega), h1 139 _ (by omega) (by omega) (by omega) (by omega), b1, b2, b3, gE 113 _ (by omega) (by omega) (by omega), gE 114 _ (by omega) (by omega) (by omega), gE 115 _ (by omega) (by omega) (by omega), c1, c2, c3]
    exact ⟨⟨rfl, Or.inl rfl⟩, rfl, rfl, by decide, by decide⟩
  · rw [h1 139 _ (by omega) (by omega) (by omega) (by omega), (a139 s hs).2.2.2, gE 116 _ (by omega) (by omega) (by omega), z116 s hs f hf]
    exact ⟨⟨fun q => absurd q (bt0z f (by omega)), fun q => absurd q (by decide)⟩, Or.inl rfl⟩
  · rw [gE 116 _ (by omega) (by omega) (by omega), z116 s hs f hf]
  · have n : ∀ j, j < 20 → sI S 140 j = 0 := fun j hj => (h1 140 j (by omega) (by omega) (by omega) (by omega)).trans (a140 j hj)
    exact ⟨fun p hp => ⟨0, by decide, n _ (by omega), (gE 91 _ (by omega) (by omega) (by omega)).trans (z91 _ (by omega) (by omega))⟩, ⟨0, by decide, n _ (by omega), (gE 91 _ (by omega) (by omega) (by omega)).trans (z91 _ (by omega) (by omega))⟩, ⟨0, by decide, n _ (by omega), (gE 92 _ (by omega) (by omega) (by omega)).trans (z113 c hc).1⟩⟩
/-- one step of the law's flow -/
def FK7 (kd a b y z : Int32) : Prop := OKS kd a b y z ∧ (∃ k f : Nat, k < 7 ∧ f < 7 ∧ (k = 0 ∨ k = 3 → f < 3) ∧ kd = Int32.ofNat k ∧ a = Int32.ofNat f ∧ (k = 0 → 1 ≤ b.toInt ∧ b.toInt ≤ 3)) ∧ qnx y ∧ qnx z
/-- the row's cells of one step -/
def RW7 (S : AS) (k : Nat) (kd a b y z : Int32) : Prop := sI S 128 (5 * k) = kd ∧ sI S 128 (5 * k + 1) = a ∧ sI S 128 (5 * k + 2) = b ∧ sI S 128 (5 * k + 3) = y ∧ sI S 128 (5 * k + 4) = z
/-- all seven: each one good, and tests run into no circle -/
def FL7 (S : AS) : Prop := (∀ k, k < 7 → FK7 (sI S 128 (5 * k)) (sI S 128 (5 * k + 1)) (sI S 128 (5 * k + 2)) (sI S 128 (5 * k + 3)) (sI S 128 (5 * k + 4))) ∧ ∃ ρ : Nat → Nat, (∀ k, ρ k ≤ 12) ∧ ∀ k, k < 7 → In 1 4 (sI S 128 (5 * k)) → ∀ t : Nat, ((sI S 128 (5 * k + 3)).toInt = (t : Int) ∨ (sI S 128 (5 * k + 4)).toInt = (t : Int)) → In 1 4 (sI S 128 (5 * t)) → ρ t < ρ k
theorem o_steps {α : Type} {S : AS} {k : Nat} {a1 kd a b y z : Int32} {F : AS → Option α} {Q : α → Prop} (r : Rw S 128 35) (hk : k < 7) (ha : a1 = Int32.ofNat k) (g : ∀ U, LF S U → (∀ q j, ¬ (q = 128 ∧ 5 * k ≤ j ∧ j < 5 * k + 5) → sI U q j = sI S q j) → RW7 U k kd a b y z → Ho (F U) Q) : Ho ((f_W_steps S (some 128) a1 kd a b y z).bind F) Q := by
  subst ha
  have e : f_W_steps S (some 128) (Int32.ofNat k) kd a b y z = some (wI (wI (wI (wI (wI S 128 (5 * k) kd) 128 (5 * k + 1) a) 128 (5 * k + 2) b) 128 (5 * k + 3) y) 128 (5 * k + 4) z) := by
    unfold f_W_steps
    rw [Rw_bI (i := (5 : Int32) * Int32.ofNat k) r (n := 5 * k) (wmul 5 k) (by omega), Option.bind_some, Rw_bI (i := (5 : Int32) * Int32.ofNat k + (1 : Int32)) r.w (n := 5 * k + 1) (wix 5 k 1) (by omega), Option.bind_some, Rw_bI (i := (5 : Int32) * Int32.ofNat k + (2 : Int32)) r.w.w (n := 5 * k + 2) (wix 5 k 2) (by omega), Option.bind_some, Rw_bI (i := (5 : Int32) * Int32.ofNat k + (3 : Int32)) r.w.w.w (n := 5 * k + 3) (wix 5 k 3) (by omega), Option.bind_some, Rw_bI (i := (5 : Int32) * Int32.ofNat k + (4 : Int32)) r.w.w.w.w (n := 5 * k + 4) (wix 5 k 4) (by omega), Option.bind_some]
  refine o_bd e (g _ (LF_w (LF_w (LF_w (LF_w (LF_w (LF_rf S) (by decide)) (by decide)) (by decide)) (by decide)) (by decide)) (fun q j h => ?_) ⟨?_, ?_, ?_, ?_, ?_⟩)
  · rw [ti_sI_ne (by omega), ti_sI_ne (by omega), ti_sI_ne (by omega), ti_sI_ne (by omega), ti_sI_ne (by omega)]
  · rw [ti_sI_ne (by omega), ti_sI_ne (by omega), ti_sI_ne (by omega), ti_sI_ne (by omega), ti_sI_eq]
  · rw [ti_sI_ne (by omega), ti_sI_ne (by omega), ti_sI_ne (by omega), ti_sI_eq]
  · rw [ti_sI_ne (by omega), ti_sI_ne (by omega), ti_sI_eq]
  · rw [ti_sI_ne (by omega), ti_sI_eq]
  · rw [ti_sI_eq]
theorem RW7_fr {S U : AS} {k k' : Nat} {kd a b y z : Int32} (h : RW7 S k kd a b y z) (ne : k ≠ k') (o : ∀ q j, ¬ (q = 128 ∧ 5 * k' ≤ j ∧ j < 5 * k' + 5) → sI U q j = sI S q j) : RW7 U k kd a b y z := by
  obtain ⟨h1, h2, h3, h4, h5⟩ := h
  exact ⟨(o 128 _ (by omega)).trans h1, (o 128 _ (by omega)).trans h2, (o 128 _ (by omega)).trans h3, (o 128 _ (by omega)).trans h4, (o 128 _ (by omega)).trans h5⟩
theorem fk_0 : FK7 3 2 0 1 2 := ⟨by unfold OKS In; decide +kernel, ⟨3, 2, by decide, by decide, by decide, rfl, rfl, fun h => absurd h (by decide)⟩, Or.inr ⟨1, by decide, rfl⟩, Or.inr ⟨2, by decide, rfl⟩⟩
theorem fk_1o : ∀ w, w < 2 → OKS 0 2 (1 + Int32.ofNat w) 4 2 ∧ 1 ≤ (1 + Int32.ofNat w).toInt ∧ (1 + Int32.ofNat w).toInt ≤ 3 := by unfold OKS In; decide +kernel
theorem fk_1 {w : Nat} (h : w < 2) : FK7 0 2 (1 + Int32.ofNat w) 4 2 := ⟨(fk_1o w h).1, ⟨0, 2, by decide, by decide, by decide, rfl, rfl, fun _ => (fk_1o w h).2⟩, Or.inr ⟨4, by decide, rfl⟩, Or.inr ⟨2, by decide, rfl⟩⟩
theorem fk_2o : ∀ w, w < 3 → OKS 0 0 (1 + Int32.ofNat w) 3 (-1) ∧ 1 ≤ (1 + Int32.ofNat w).toInt ∧ (1 + Int32.ofNat w).toInt ≤ 3 := by unfold OKS In; decide +kernel
theorem fk_2 {w : Nat} (h : w < 3) : FK7 0 0 (1 + Int32.ofNat w) 3 (-1) := ⟨(fk_2o w h).1, ⟨0, 0, by decide, by decide, by decide, rfl, rfl, fun _ => (fk_2o w h).2⟩, Or.inr ⟨3, by decide, rfl⟩, Or.inl rfl⟩
theorem fk_3a : FK7 1 0 0 5 4 := ⟨by unfold OKS In; decide +kernel, ⟨1, 0, by decide, by decide, by decide, rfl, rfl, fun h => absurd h (by decide)⟩, Or.inr ⟨5, by decide, rfl⟩, Or.inr ⟨4, by decide, rfl⟩⟩
theorem fk_3o : ∀ w, w < 6 → OKS 2 (Int32.ofNat w) 0 5 4 := by unfold OKS In; decide +kernel
theorem fk_3b {w : Nat} (h : w < 6) : FK7 2 (Int32.ofNat w) 0 5 4 := ⟨fk_3o w h, ⟨2, w, by decide, by omega, fun q => by omega, rfl, rfl, fun h => absurd h (by decide)⟩, Or.inr ⟨5, by decide, rfl⟩, Or.inr ⟨4, by decide, rfl⟩⟩
theorem fk_4o : ∀ w, w < 5 → OKS 4 (Int32.ofNat w) 0 6 5 := by unfold OKS In; decide +kernel
theorem fk_4 {w : Nat} (h : w < 5) : FK7 4 (Int32.ofNat w) 0 6 5 := ⟨fk_4o w h, ⟨4, w, by decide, by omega, fun q => by omega, rfl, rfl, fun h => absurd h (by decide)⟩, Or.inr ⟨6, by decide, rfl⟩, Or.inr ⟨5, by decide, rfl⟩⟩
theorem fk_5a : FK7 0 1 1 6 1 := ⟨by unfold OKS In; decide +kernel, ⟨0, 1, by decide, by decide, by decide, rfl, rfl, fun _ => by decide⟩, Or.inr ⟨6, by decide, rfl⟩, Or.inr ⟨1, by decide, rfl⟩⟩
theorem fk_5b : FK7 0 1 1 6 (-1) := ⟨by unfold OKS In; decide +kernel, ⟨0, 1, by decide, by decide, by decide, rfl, rfl, fun _ => by decide⟩, Or.inr ⟨6, by decide, rfl⟩, Or.inl rfl⟩
theorem fk_6 : FK7 5 0 0 0 0 := ⟨by unfold OKS In; decide +kernel, ⟨5, 0, by decide, by decide, by decide, rfl, rfl, fun h => absurd h (by decide)⟩, Or.inr ⟨0, by decide, rfl⟩, Or.inr ⟨0, by decide, rfl⟩⟩
theorem FL7_of {S : AS} {b1 b2 k3 a3 a4 z5 : Int32} (h0 : RW7 S 0 3 2 0 1 2) (h1 : RW7 S 1 0 2 b1 4 2) (h2 : RW7 S 2 0 0 b2 3 (-1)) (h3 : RW7 S 3 k3 a3 0 5 4) (h4 : RW7 S 4 4 a4 0 6 5) (h5 : RW7 S 5 0 1 1 6 z5) (h6 : RW7 S 6 5 0 0 0 0) (f1 : FK7 0 2 b1 4 2) (f2 : FK7 0 0 b2 3 (-1)) (f3 : FK7 k3 a3 0 5 4) (f4 : FK7 4 a4 0 6 5) (f5 : FK7 0 1 1 6 z5) : FL7 S := by
  have all : ∀ k, k < 7 → ∃ kd a b y z, RW7 S k kd a b y z ∧ FK7 kd a b y z := fun k hk => by
    match k, hk with
    | 0, _ => exact ⟨_, _, _, _, _, h0, fk_0⟩
    | 1, _ => exact ⟨_, _, _, _, _, h1, f1⟩
    | 2, _ => exact ⟨_, _, _, _, _, h2, f2⟩
    | 3, _ => exact ⟨_, _, _, _, _, h3, f3⟩
    | 4, _ => exact ⟨_, _, _, _, _, h4, f4⟩
    | 5, _ => exact ⟨_, _, _, _, _, h5, f5⟩
    | 6, _ => exact ⟨_, _, _, _, _, h6, fk_6⟩
  refine ⟨fun k hk => ?_, fun k => if k = 3 then 1 else 0, fun k => by by_cases c : k = 3 <;> simp [c], fun k hk te t ht te' => ?_⟩
  · obtain ⟨kd, a, b, y, z, ⟨e1, e2, e3, e4, e5⟩, f⟩ := all k hk
    rw [e1, e2, e3, e4, e5]
    exact f
  · have i1 : (1 : Int32).toInt = 1 := by decide
    have i2 : (2 : Int32).toInt = 2 := by decide
    have i4 : (4 : Int32).toInt = 4 := by decide
    have i5 : (5 : Int32).toInt = 5 := by decide
    have i6 : (6 : Int32).toInt = 6 := by decide
    have no : ∀ {v : Int32}, In 1 4 v → v = 0 ∨ v = 5 → False := fun h e => by
      rcases e with e | e
      · rw [e] at h
        exact absurd h (by unfold In; decide)
      · rw [e] at h
        exact absurd h (by unfold In; decide)
    match k, hk, te, ht with
    | 0, _, te, ht =>
      rw [h0.2.2.2.1, h0.2.2.2.2, i1, i2] at ht
      have : t = 1 ∨ t = 2 := by omega
      rcases this with rfl | rfl
      · exact (no te' (Or.inl h1.1)).elim
      · exact (no te' (Or.inl h2.1)).elim
    | 1, _, te, ht => exact (no te (Or.inl h1.1)).elim
    | 2, _, te, ht => exact (no te (Or.inl h2.1)).elim
    | 3, _, te, ht =>
      rw [h3.2.2.2.1, h3.2.2.2.2, i5, i4] at ht
      have : t = 5 ∨ t = 4 := by omega
      rcases this with rfl | rfl
      · exact (no te' (Or.inl h5.1)).elim
      · decide
    | 4, _, te, ht =>
      rw [h4.2.2.2.1, h4.2.2.2.2, i6, i5] at ht
      have : t = 6 ∨ t = 5 := by omega
      rcases this with rfl | rfl
      · exact (no te' (Or.inr h6.1)).elim
      · exact (no te' (Or.inl h5.1)).elim
    | 5, _, te, ht => exact (no te (Or.inl h5.1)).elim
    | 6, _, te, ht => exact (no te (Or.inr h6.1)).elim
