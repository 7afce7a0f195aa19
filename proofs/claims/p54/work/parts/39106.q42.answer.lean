/-! ===== attempts that are answered ===== -/
theorem GF_R {S S2 : AS} (h : GF S S2) : sR S2 = sR S := by
  have h0 : S2 = gm S S2 := h
  rw [h0]
  rfl
theorem ite_bnd {α β : Type} (c : Prop) [Decidable c] (x y : Option α) (F : α → Option β) : (if c then x else y).bind F = if c then x.bind F else y.bind F := by
  split <;> rfl
theorem b2_bnd {α β γ : Type} (x : Option (α × AS)) (F : α → AS → Option β) (G : β → Option γ) : (kr_b2 x F).bind G = kr_b2 x fun v S => (F v S).bind G := by
  cases x <;> rfl
/-- the law's answer by itself -/
def anL (S : AS) (x12 x13 y0 : Int32) : Option AS :=
  (aI S 40 (some 130) (((6 : Int32) * x12) + (3 : Int32))).bind fun v32 =>
  (aI S 40 (some 128) (((5 : Int32) * v32) + (1 : Int32))).bind fun v33 =>
  (some ((2 : Int32) * x12)).bind fun i34 =>
  (aI S 40 (some 131) i34).bind fun v35 =>
  (bI S (some 131) i34 (v35 + (1 : Int32))).bind fun S36 =>
  (aI S36 40 (some 130) ((6 : Int32) * x12)).bind fun v37 =>
  kr_b2 (f_W_answers S36 (some 127) (some 129) v37 v33 x13 y0) fun v39 S38 =>
  if v39 = 0 then
  (some (((6 : Int32) * x12) + (5 : Int32))).bind fun i40 =>
  (aI S38 40 (some 130) i40).bind fun v41 =>
  (bI S38 (some 130) i40 (v41 + (1 : Int32))).bind fun S42 =>
  (aI S42 40 (some 130) (((6 : Int32) * x12) + (5 : Int32))).bind fun v43 =>
  (aI S42 40 (some 128) (((5 : Int32) * v32) + (2 : Int32))).bind fun v44 =>
  if v43 = v44 then
  (aI S42 40 (some 128) (((5 : Int32) * v32) + (4 : Int32))).bind fun v45 =>
  f_W_goes S42 (some 127) (some 128) (some 129) (some 130) (some 131) (some 132) (some 133) (some 134) x12 v45
  else
  some S42
  else
  (aI S38 40 (some 127) (0 : Int32)).bind fun v47 =>
  (bI S38 (some 132) (((3 : Int32) * x12) + v33) v47).bind fun S48 =>
  (aI S48 40 (some 128) (((5 : Int32) * v32) + (3 : Int32))).bind fun v49 =>
  f_W_goes S48 (some 127) (some 128) (some 129) (some 130) (some 131) (some 132) (some 133) (some 134) x12 v49
theorem an_eq (S : AS) (x12 x13 y0 : Int32) : f_W_attempts_B416 S (some 4) (some 127) (some 128) (some 129) (some 130) (some 131) (some 132) (some 133) (some 134) x12 x13 y0 =
    (aI S 40 (some 127) (11 : Int32)).bind fun v29 => if x12 = v29 then f_W_attempts_B448 S (some 4) (some 127) x12 x13 y0 else if y0 = (10000 : Int32) then f_W_attempts_B448 S (some 4) (some 127) x12 x13 y0 else
      (aI S 40 (some 130) (((6 : Int32) * x12) + (4 : Int32))).bind fun v30 => if v30 = 0 then (aI S 40 (some 127) (1 : Int32)).bind fun v31 => if v31 ≤ (13 : Int32) then (anL S x12 x13 y0).bind fun Sd => f_W_attempts_B685 Sd (some 4) (some 130) (some 131) x12 x13 y0 else some ((1 : Int32), S) else f_W_attempts_B448 S (some 4) (some 127) x12 x13 y0 := by
  unfold f_W_attempts_B416 anL
  simp only [Option.bind_assoc, b2_bnd, ite_bnd, Option.bind_some]
/-- the reference's answer, behind what it says of the factor -/
def anT (S25 : AS) (v26 i16 x1 : Int32) : Option (Int32 × AS) :=
  if v26 = 0 then
  (gR S25 39 26 (some 57)).bind fun v27 =>
  (aI S25 46 v27 x1).bind fun v28 =>
  (bI S25 v27 x1 (v28 + (1 : Int32)) 46).bind fun S29 =>
  (gR S29 39 26 (some 57)).bind fun v30 =>
  (aI S29 46 v30 x1).bind fun v31 =>
  (gR S29 39 13 (some 57)).bind fun v32 =>
  (aI S29 46 v32 i16).bind fun v33 =>
  if v31 = v33 then
  (gR S29 39 15 (some 57)).bind fun v34 =>
  (aI S29 46 v34 i16).bind fun v35 =>
  (kr_rv S29 39 (some 57)).bind fun u36 =>
  (f_M_go S29 (some 57) x1 v35).bind fun S37 =>
  f_M_answer_B168 S37 (some 57) x1
  else
  f_M_answer_B168 S29 (some 57) x1
  else
  (gR S25 39 29 (some 57)).bind fun v38 =>
  (gR S25 39 12 (some 57)).bind fun v39 =>
  (aI S25 46 v39 i16).bind fun v40 =>
  (gI S25 39 0 (some 57)).bind fun v41 =>
  (bI S25 v38 (((3 : Int32) * x1) + v40) v41 46).bind fun S42 =>
  (gR S42 39 14 (some 57)).bind fun v43 =>
  (aI S42 46 v43 i16).bind fun v44 =>
  (kr_rv S42 39 (some 57)).bind fun u45 =>
  (f_M_go S42 (some 57) x1 v44).bind fun S46 =>
  f_M_answer_B168 S46 (some 57) x1
theorem p_answer {m : AS} {i na k c : Nat} {rt v : Int32} (hmf : MF m) (h19 : sI m 57 19 = Int32.ofNat na) (n10 : na ≤ 10) (hi : i ≤ na) (e78 : i < na → sI m 78 i = 0) (e79 : i < na → sI m 80 i = 0 → sI m 79 i = Int32.ofNat k) (k7 : k < 7) (e82 : i < na → sI m 80 i = 0 → sI m 82 i = Int32.ofNat c) (hb : Int32.ofNat c = Int32.ofNat c) : Hp (f_M_answer m (some 57) (Int32.ofNat i) rt v) (fun q => (i = na → sI q.2 57 82 = Int32.ofNat 1 ∧ GK m q.2) ∧ (i < na → ¬ ((0 : Int32) ≤ v ∧ v ≤ (9999 : Int32)) → sI q.2 57 82 = Int32.ofNat 2 ∧ GK m q.2) ∧ (i < na → ((0 : Int32) ≤ v ∧ v ≤ (9999 : Int32)) → ¬ sI m 80 i = 0 → sI q.2 57 82 = Int32.ofNat 3 ∧ GK m q.2) ∧
    (i < na → ((0 : Int32) ≤ v ∧ v ≤ (9999 : Int32)) → sI m 80 i = 0 → ∃ u m2, f_M_answers (wI (wI m 57 82 0) 82 i (Int32.ofNat (c + 1))) (some 57) (sI m 75 i) (sI m 68 k) rt v = some (u, m2) ∧ anT m2 u (Int32.ofNat k) (Int32.ofNat i) = some q)) := by
  have ii : (Int32.ofNat i).toNatClampNeg = i := oc (by omega)
  have ik : (Int32.ofNat k).toNatClampNeg = k := oc (by omega)
  unfold f_M_answer
  refine p_of st_rv (p_b2 (p_isAtt h19 (by omega) (by omega)) (fun x m' q => ?_))
  obtain ⟨q1, q2⟩ := Prod.mk.inj q
  rw [q2]
  refine p_of (st_b2 (q_isIn m _ _ _)) ?_
  -- refused
  have bad : ∀ y1 y2 : Int32, (y1 = 0 → i = na) → (y1 ≠ 0 → i < na ∧ (y2 ≠ 0 → ¬ sI m 80 i = 0)) → y2 = (if (0 : Int32) ≤ v ∧ v ≤ (9999 : Int32) then 1 else 0) → Hp (f_M_answer_B36 m (some 57) (Int32.ofNat i) rt v (some 57) y1 y2) (fun q => (i = na → sI q.2 57 82 = Int32.ofNat 1 ∧ GK m q.2) ∧ (i < na → ¬ ((0 : Int32) ≤ v ∧ v ≤ (9999 : Int32)) → sI q.2 57 82 = Int32.ofNat 2 ∧ GK m q.2) ∧ (i < na → ((0 : Int32) ≤ v ∧ v ≤ (9999 : Int32)) → ¬ sI m 80 i = 0 → sI q.2 57 82 = Int32.ofNat 3 ∧ GK m q.2) ∧
    (i < na → ((0 : Int32) ≤ v ∧ v ≤ (9999 : Int32)) → sI m 80 i = 0 → ∃ u m2, f_M_answers (wI (wI m 57 82 0) 82 i (Int32.ofNat (c + 1))) (some 57) (sI m 75 i) (sI m 68 k) rt v = some (u, m2) ∧ anT m2 u (Int32.ofNat k) (Int32.ofNat i) = some q)) := fun y1 y2 h0 h1 hy => by
    unfold f_M_answer_B36 f_M_answer_B37
    refine p_of st_rv (p_b2 p_mayA (fun x m' q => ?_))
    by_cases a : y1 = 0
    · rw [if_pos a] at q
      obtain ⟨q1, q2⟩ := Prod.mk.inj q
      rw [q1, q2]
      have := h0 a
      exact p_of (st_T rfl) (p_ret ⟨fun _ => ⟨ti_sI_eq _ _ _ _, GK_82 _ _⟩, fun z => absurd z (by omega), fun z => absurd z (by omega), fun z => absurd z (by omega)⟩)
    · obtain ⟨d1, d2⟩ := h1 a
      by_cases b : (0 : Int32) ≤ v ∧ v ≤ (9999 : Int32)
      · rw [if_pos b] at hy
        rw [if_neg a, hy, if_neg one0, if_pos rfl] at q
        obtain ⟨q1, q2⟩ := Prod.mk.inj q
        rw [q1, q2]
        have d3 := d2 (by rw [hy]; decide)
        exact p_of (st_T rfl) (p_ret ⟨fun z => absurd z (by omega), fun _ z => absurd b z, fun _ _ _ => ⟨ti_sI_eq _ _ _ _, GK_82 _ _⟩, fun _ _ z => absurd z d3⟩)
      · rw [if_neg b] at hy
        rw [if_neg a, hy, if_pos rfl] at q
        obtain ⟨q1, q2⟩ := Prod.mk.inj q
        rw [q1, q2]
        exact p_of (st_T rfl) (p_ret ⟨fun z => absurd z (by omega), fun _ _ => ⟨ti_sI_eq _ _ _ _, GK_82 _ _⟩, fun _ z => absurd z b, fun _ z => absurd z b⟩)
  by_cases a : i < na
  · rw [if_pos a] at q1
    rw [q1]
    refine p_of (st_F one0) (p_of (st_gRe (hmf 25 80 rfl)) (p_of (st_aIe ii rfl) ?_))
    by_cases d : sI m 80 i = 0
    · refine p_of (st_T d) ?_
      by_cases b : (0 : Int32) ≤ v ∧ v ≤ (9999 : Int32)
      · rw [if_pos b]
        unfold f_M_answer_B37
        refine p_of st_rv (p_b2 p_mayA (fun x m' q => ?_))
        rw [if_neg one0, if_neg one0, if_neg one0] at q
        obtain ⟨q1, q2⟩ := Prod.mk.inj q
        rw [q1]
        obtain ⟨m1, e1⟩ : ∃ m1, m1 = wI m 57 82 0 := ⟨_, rfl⟩
        rw [q2, ← e1]
        have hm1 : MF m1 := by rw [e1]; exact MF_e hmf rfl
        have o : ∀ k j, ¬ (k = 57 ∧ j = 82) → sI m1 k j = sI m k j := fun k j z => by rw [e1, ti_sI_ne z]
        refine p_of (st_F one0) (p_of (st_gRe (hm1 23 78 rfl)) (p_of (st_aIe ii ((o 78 i (by omega)).trans (e78 a))) (p_of (st_gRe (hm1 24 79 rfl)) (p_of (st_aIe ii ((o 79 i (by omega)).trans (e79 a d))) (p_of st_val ?_)))))
        rw [show ((12 : Int32) * (0 : Int32)) + Int32.ofNat k = Int32.ofNat k from (wix 12 0 k).trans (by rw [Nat.mul_zero, Nat.zero_add])]
        refine p_of (st_gRe (hm1 27 82 rfl)) (p_of (st_aIe ii ((o 82 i (by omega)).trans (e82 a d))) (p_of (st_bIe ii) ?_))
        rw [o1]
        refine p_of (st_gRe (v := some 75) (hm1 20 75 rfl)) (p_of (st_aIe (v := sI m 75 i) ii ((ti_sI_ne (by omega)).trans (o 75 i (by omega)))) (p_of (st_gRe (v := some 68) (hm1 12 68 rfl)) (p_of (st_aIe (v := sI m 68 k) ik ((ti_sI_ne (by omega)).trans (o 68 k (by omega)))) (p_of st_rv (p_is (fun q h => ⟨fun z => absurd z (by omega), fun _ z => absurd b z, fun _ _ z => absurd d z, fun _ _ _ => ?_⟩))))))
        obtain ⟨u, m2, h1, h2⟩ := b2_inv h
        exact ⟨u, m2, h1, h2⟩
      · rw [if_neg b]
        unfold f_M_answer_B37
        refine p_of st_rv (p_b2 p_mayA (fun x m' q => ?_))
        rw [if_neg one0, if_pos rfl] at q
        obtain ⟨q1, q2⟩ := Prod.mk.inj q
        rw [q1, q2]
        exact p_of (st_T rfl) (p_ret ⟨fun z => absurd z (by omega), fun _ _ => ⟨ti_sI_eq _ _ _ _, GK_82 _ _⟩, fun _ z => absurd z b, fun _ z => absurd z b⟩)
    · exact p_of (st_F d) (bad 1 _ (fun z => absurd z one0) (fun _ => ⟨a, fun _ => d⟩) rfl)
  · rw [if_neg a] at q1
    rw [q1]
    exact p_of (st_T rfl) (bad 0 _ (fun _ => by omega) (fun z => absurd rfl z) rfl)
/-- what follows: a step on, or none -/
theorem p_anT {m : AS} {i k f : Nat} {u : Int32} (hmf : MF m) (hi : i < 60) (k7 : k < 7) (f3 : f < 3) (e68 : sI m 68 k = Int32.ofNat f) : Hp (anT m u (Int32.ofNat k) (Int32.ofNat i)) (fun q => (u = 0 → (sI m 81 i + 1 = sI m 69 k → ∃ m4, f_M_go (wI m 81 i (sI m 81 i + 1)) (some 57) (Int32.ofNat i) (sI m 71 k) = some m4 ∧ f_M_answer_B168 m4 (some 57) (Int32.ofNat i) = some q) ∧ (¬ sI m 81 i + 1 = sI m 69 k → f_M_answer_B168 (wI m 81 i (sI m 81 i + 1)) (some 57) (Int32.ofNat i) = some q)) ∧
    (¬ u = 0 → ∃ m4, f_M_go (wI m 84 (3 * i + f) (sI m 57 0)) (some 57) (Int32.ofNat i) (sI m 70 k) = some m4 ∧ f_M_answer_B168 m4 (some 57) (Int32.ofNat i) = some q)) := by
  have ii : (Int32.ofNat i).toNatClampNeg = i := oc (by omega)
  have ik : (Int32.ofNat k).toNatClampNeg = k := oc (by omega)
  unfold anT
  by_cases c : u = 0
  · refine p_of (st_T c) (p_of (st_gRe (hmf 26 81 rfl)) (p_of (st_aIe ii rfl) (p_of (st_bIe ii) (p_of (st_gRe (v := some 81) (hmf 26 81 rfl)) (p_of (st_aIe (v := sI m 81 i + 1) ii (ti_sI_eq _ _ _ _)) (p_of (st_gRe (v := some 69) (hmf 13 69 rfl)) (p_of (st_aIe (v := sI m 69 k) ik (ti_sI_ne (by omega))) ?_)))))))
    by_cases d : sI m 81 i + 1 = sI m 69 k
    · refine p_of (st_T d) (p_of (st_gRe (v := some 71) (hmf 15 71 rfl)) (p_of (st_aIe (v := sI m 71 k) ik (ti_sI_ne (by omega))) (p_of st_rv (p_is (fun q h => ⟨fun _ => ⟨fun _ => ?_, fun z => absurd d z⟩, fun z => absurd c z⟩)))))
      obtain ⟨m4, h1, h2⟩ := bd_inv h
      exact ⟨m4, h1, h2⟩
    · exact p_of (st_F d) (p_is (fun q h => ⟨fun _ => ⟨fun z => absurd z d, fun _ => h⟩, fun z => absurd c z⟩))
  · refine p_of (st_F c) (p_of (st_gRe (hmf 29 84 rfl)) (p_of (st_gRe (hmf 12 68 rfl)) (p_of (st_aIe ik e68) (p_of (st_gIe rfl) (p_of (st_bIe (ix3 i hi f (by omega))) (p_of (st_gRe (v := some 70) (hmf 14 70 rfl)) (p_of (st_aIe (v := sI m 70 k) ik (ti_sI_ne (by omega))) (p_of st_rv (p_is (fun q h => ⟨fun z => absurd z c, fun _ => ?_⟩))))))))))
    obtain ⟨m4, h1, h2⟩ := bd_inv h
    exact ⟨m4, h1, h2⟩
theorem p_anE {m : AS} {i : Nat} (hmf : MF m) (hi : i < 60) : Hp (f_M_answer_B168 m (some 57) (Int32.ofNat i)) (fun q => q.2 = (if sI m 80 i = 0 ∧ sI m 82 i = (12 : Int32) then wI m 80 i 2 else m) ∧ q.1 = sI q.2 80 i) := by
  have ii : (Int32.ofNat i).toNatClampNeg = i := oc (by omega)
  have fin : ∀ M : AS, MF M → Hp (f_M_answer_B195 M (some 57) (Int32.ofNat i)) (fun q => q.2 = M ∧ q.1 = sI q.2 80 i) := fun M hM => by
    unfold f_M_answer_B195
    exact p_of (st_gRe (hM 25 80 rfl)) (p_of (st_aIe ii rfl) (p_ret ⟨rfl, rfl⟩))
  unfold f_M_answer_B168
  refine p_of (st_gRe (hmf 25 80 rfl)) (p_of (st_aIe ii rfl) ?_)
  by_cases c : sI m 80 i = 0
  · refine p_of (st_T c) (p_of (st_gRe (hmf 27 82 rfl)) (p_of (st_aIe ii rfl) ?_))
    by_cases d : sI m 82 i = (12 : Int32)
    · rw [if_pos (c := sI m 80 i = 0 ∧ sI m 82 i = (12 : Int32)) ⟨c, d⟩]
      exact p_of (st_T d) (p_of (st_gRe (hmf 25 80 rfl)) (p_of (st_bIe ii) (fin _ (MF_e hmf rfl))))
    · rw [if_neg (c := sI m 80 i = 0 ∧ sI m 82 i = (12 : Int32)) (fun z => d z.2)]
      exact p_of (st_F d) (fin m hmf)
  · rw [if_neg (c := sI m 80 i = 0 ∧ sI m 82 i = (12 : Int32)) (fun z => c z.1)]
    exact p_of (st_F c) (fin m hmf)
theorem tg_answer {n : Nat} {T : Nat → Nat} {S : AS} {a0 a1 a2 : Int32} (h : a1 = 0 ∨ a1 = 1) (hI : IV n T S) (hn : n ≤ 600) (hr : RPF T S) : ∃ c v S1 S2 T1, f_W_threeg S (some 4) (4 : Int32) a0 a1 a2 = some (c, S2) ∧ f_M_answer S1 (some 57) a0 a1 a2 = some (v, S2) ∧ PKg n T kw_K63 kw_an S S1 T1 S2 ∧ ANc [-1001, -1002, -1003] c v (sI S2 57 82) := by
  rcases h with rfl | rfl
  · exact tg_answer0 (by decide) hI hn hr
  · exact tg_answer1 (by decide) hI hn hr
/-- what an answer leaves, ahead of its end -/
def AQ (i na c ns : Nat) (S m Sd m4 : AS) : Prop := (LF S Sd ∧ ∀ q j, ¬ ((q = 127 ∧ (j = 1 ∨ j = 9 ∨ j = 10)) ∨ q = 129 ∨ (q = 130 ∧ 6 * i + 3 ≤ j ∧ j < 6 * i + 6) ∨ (q = 131 ∧ 2 * i ≤ j ∧ j < 2 * i + 2) ∨ (q = 132 ∧ 3 * i ≤ j ∧ j < 3 * i + 3) ∨ (q = 133 ∧ 4 * ns ≤ j ∧ j < 4 * ns + 4) ∨ (q = 134 ∧ 3 * ns ≤ j ∧ j < 3 * ns + 3)) → sI Sd q j = sI S q j) ∧
  (sR m4 = sR m ∧ sL m4 = sL m ∧ ∀ q j, ¬ ((q = 57 ∧ (j = 30 ∨ j = 77 ∨ j = 81 ∨ j = 82)) ∨ (58 ≤ q ∧ q ≤ 63) ∨ ((79 ≤ q ∧ q ≤ 83) ∧ j = i) ∨ (q = 84 ∧ 3 * i ≤ j ∧ j < 3 * i + 3) ∨ ((85 ≤ q ∧ q ≤ 89) ∧ j = ns) ∨ (q = 90 ∧ 3 * ns ≤ j ∧ j < 3 * ns + 3) ∨ (123 ≤ q ∧ q ≤ 126)) → sI m4 q j = sI m q j) ∧
  sI m4 57 82 = 0 ∧ sI Sd 131 (2 * i) = Int32.ofNat (c + 1) ∧ sI m4 82 i = Int32.ofNat (c + 1) ∧ (lFac Sd m4 ∧ lWrg Sd m4 ∧ lAsh na Sd m4) ∧
  ∃ n', (n' = ns ∨ n' = ns + 1) ∧ lSz 1 30 14 n' Sd m4 ∧ lAud Sd m4 ∧ lKn Sd m4 ∧ lSp n' Sd m4 ∧ lUsd n' Sd m4 ∧ lLiv n' Sd m4 ∧ lSsh n' Sd m4 ∧ lAs0 n' Sd m4 i
section
variable {S : AS} {ns nc nf nt nk na : Nat}
/-- the law's answer beside the reference's -/
theorem g_an {M : AS} {i c u : Nat} {rt : Int32} {q : Int32 × AS} (lw : LW ns nc nf nt nk na S M) (lr : LR S) (mf : MF M) (pts : lPts M) (hi : i < na) (n13 : ns ≤ 13) (h80 : sI M 80 i = 0) (hc : sI M 82 i = Int32.ofNat c) (c11 : c ≤ 11) (hw : 0 ≤ (sI M 81 i).toInt ∧ (sI M 81 i).toInt < (sI M 69 (nn (sI M 79 i))).toInt) (u9 : u < 7) (h : f_M_answer M (some 57) (Int32.ofNat i) rt (Int32.ofNat u) = some q) : ∃ Sd m4, anL S (Int32.ofNat i) rt (Int32.ofNat u) = some Sd ∧ f_M_answer_B168 m4 (some 57) (Int32.ofNat i) = some q ∧ AQ i na c ns S M Sd m4 := by
  obtain ⟨⟨z1, z2, z3, z4, z5, z6⟩, ⟨now, aud, key, hlp⟩, flo, ⟨fac, wrg, kn⟩, ⟨att, ast, ash⟩, ⟨sp, usd, lv, ssh⟩, -⟩ := id lw
  have na10 := z6.2.2
  obtain ⟨r127, r128, r129, r130, r131, r132, r133, r134, -⟩ := id lr
  obtain ⟨a4, ⟨c', hc13, a0, m82⟩, ac⟩ := ast i hi
  have ecc : c' = c := oinjq (by omega) (by omega) (m82.symm.trans hc)
  rw [ecc] at a0
  obtain ⟨⟨k, k7, a3, m79, m67⟩, ⟨w, w4, a5, m81⟩, m83⟩ : (∃ k, k < 7 ∧ sI S 130 (6 * i + 3) = Int32.ofNat k ∧ sI M 79 i = Int32.ofNat k ∧ sI M 67 k = 0) ∧ sV 4 (sI S 130 (6 * i + 5)) (sI M 81 i) ∧ sI M 83 i = -1 := by
    rcases ac with ⟨-, x1, x2, x3⟩ | ⟨x, -⟩ | ⟨x, -⟩
    · exact ⟨x1, x2, x3⟩
    · rw [h80] at x
      exact absurd x (by decide)
    · rw [h80] at x
      exact absurd x (by decide)
  obtain ⟨⟨p, p3, b0, m75⟩, -, -, m78⟩ := att i hi
  obtain ⟨kd, f, kd7, f7, kf, q0, q67, q1, q68, ⟨q2, l13⟩, ⟨q3, x3⟩, q4, x4⟩ := flo.2 k k7
  have kd0 : kd = 0 := oinjq (b := 0) (by omega) (by omega) (q67.symm.trans m67)
  have f3 : f < 3 := kf (Or.inl kd0)
  have l13 := l13 kd0
  rw [m79, show nn (Int32.ofNat k) = k from oc (by omega), m81, oiq (by omega)] at hw
  have hv : (0 : Int32) ≤ Int32.ofNat u ∧ Int32.ofNat u ≤ (9999 : Int32) := ⟨(oleq (a := 0) (by omega) (by omega)).mpr (Nat.zero_le _), (oleq (b := 9999) (by omega) (by omega)).mpr (by omega)⟩
  obtain ⟨uu, m2, h1, h2⟩ := (p_answer (c := c) (k := k) mf z6.2.1 na10 (by omega) (fun _ => m78) (fun _ _ => m79) k7 (fun _ _ => hc) rfl _ h).2.2.2 hi hv h80
  rw [m75, q68] at h1
  -- one answer more
  obtain ⟨m1, em⟩ : ∃ m1, m1 = wI (wI M 57 82 0) 82 i (Int32.ofNat (c + 1)) := ⟨_, rfl⟩
  rw [← em] at h1
  have hm1 : MF m1 := by rw [em]; exact MF_e mf rfl
  have o1' : ∀ k j, ¬ (k = 57 ∧ j = 82) → ¬ (k = 82 ∧ j = i) → sI m1 k j = sI M k j := fun k j y1 y2 => by rw [em, ti_sI_ne y2, ti_sI_ne y1]
  have oE1 : ∀ k, k ≠ 57 → k ≠ 82 → sI m1 k = sI M k := fun k y1 y2 => funext fun j => o1' k j (by omega) (by omega)
  obtain ⟨Sb, eb⟩ : ∃ Sb, Sb = wI S 131 (2 * i) (Int32.ofNat (c + 1)) := ⟨_, rfl⟩
  have lb : LF S Sb := by rw [eb]; exact LF_w (LF_rf S) (by decide)
  have ob : ∀ k j, ¬ (k = 131 ∧ j = 2 * i) → sI Sb k j = sI S k j := fun k j y => by rw [eb, ti_sI_ne y]
  obtain ⟨⟨x, Sc⟩, ea, ax, a01, aw⟩ := g_answers (S := Sb) (m := m1) (p := p) (f := f) (r := rt) (v := Int32.ofNat u) (lb.Rw r127) (lb.Rw r129) hm1 (lNow_fr now (ob 127 0 (by omega)) (o1' 57 0 (by omega) (by omega))) (lAud_fr aud (ob 127 9 (by omega)) (ob 127 10 (by omega)) (o1' 57 77 (by omega) (by omega)) (o1' 57 81 (by omega) (by omega))) (lFac_fr fac (fun j _ => ob 129 j (by omega)) (oE1 58 (by omega) (by omega)) (oE1 59 (by omega) (by omega)) (oE1 60 (by omega) (by omega))) (lWrg_fr wrg (fun j _ _ => ob 129 j (by omega)) (oE1 61 (by omega) (by omega))) p3 f3 _ h1
  have ax : x = uu := ax
  have a01 : x = 0 ∨ x = 1 := a01
  obtain ⟨lc', oc', ⟨rc, lc2, om2⟩, fac2, wrg2, aud2⟩ : AWQ p Sb m1 Sc m2 := aw
  have lc : LF S Sc := LF_tr lb lc'
  have hm2 : MF m2 := MF_e hm1 rc
  have oC : ∀ k j, ¬ (k = 127 ∧ (j = 9 ∨ j = 10)) → ¬ (k = 129 ∧ 12 * p ≤ j ∧ j < 12 * p + 10) → ¬ (k = 131 ∧ j = 2 * i) → sI Sc k j = sI S k j := fun k j y1 y2 y3 => (oc' k j y1 y2).trans (ob k j y3)
  have oM2 : ∀ k j, ¬ (k = 57 ∧ (j = 77 ∨ j = 81 ∨ j = 82)) → ¬ (58 ≤ k ∧ k ≤ 61) → ¬ (k = 82 ∧ j = i) → ¬ (123 ≤ k ∧ k ≤ 125) → sI m2 k j = sI M k j := fun k j y1 y2 y3 y4 => (om2 k j (by omega) (by omega)).trans (o1' k j (by omega) y3)
  have oE2 : ∀ k, 62 ≤ k → k < 123 → k ≠ 82 → sI m2 k = sI M k := fun k y1 y2 y3 => funext fun j => oM2 k j (by omega) (by omega) (by omega) (by omega)
  have c131 : sI Sc 131 (2 * i) = Int32.ofNat (c + 1) := by rw [oc' 131 _ (by omega) (by omega), eb, ti_sI_eq]
  have m282 : sI m2 82 i = Int32.ofNat (c + 1) := by rw [om2 82 i (by omega) (by omega), em, ti_sI_eq]
  have t82 : sI m2 57 82 = 0 := by rw [om2 57 82 (by omega) (by omega), em, ti_sI_ne (by omega), ti_sI_eq]
  have tail := p_anT (u := uu) hm2 (by omega) k7 f3 ((oM2 68 k (by omega) (by omega) (by omega) (by omega)).trans q68) _ h2
  rw [oM2 81 i (by omega) (by omega) (by omega) (by omega), oM2 69 k (by omega) (by omega) (by omega) (by omega), oM2 70 k (by omega) (by omega) (by omega) (by omega), oM2 71 k (by omega) (by omega) (by omega) (by omega), oM2 57 0 (by omega) (by omega) (by omega) (by omega)] at tail
  -- a step on, from a state where at most the wrongs or what was shown have changed
  have goes : ∀ (Se m3 m4 : AS) (y : Int32), LF Sc Se → (∀ q j, ¬ (q = 130 ∧ j = 6 * i + 5) → ¬ (q = 132 ∧ j = 3 * i + f) → sI Se q j = sI Sc q j) → sR m3 = sR m2 → sL m3 = sL m2 → (∀ q j, ¬ (q = 81 ∧ j = i) → ¬ (q = 84 ∧ j = 3 * i + f) → sI m3 q j = sI m2 q j) → lAsh na Se m3 → qnx y → f_M_go m3 (some 57) (Int32.ofNat i) y = some m4 → ∃ Sd, f_W_goes Se (some 127) (some 128) (some 129) (some 130) (some 131) (some 132) (some 133) (some 134) (Int32.ofNat i) y = some Sd ∧ AQ i na c ns S M Sd m4 := fun Se m3 m4 y le oe r3 l3 o3 ash3 hy hgo => by
    have lse : LF S Se := LF_tr lc le
    have oS : ∀ k j, ¬ (k = 127 ∧ (j = 9 ∨ j = 10)) → ¬ (k = 129 ∧ 12 * p ≤ j ∧ j < 12 * p + 10) → ¬ (k = 131 ∧ j = 2 * i) → ¬ (k = 130 ∧ j = 6 * i + 5) → ¬ (k = 132 ∧ j = 3 * i + f) → sI Se k j = sI S k j := fun k j y1 y2 y3 y4 y5 => (oe k j y4 y5).trans (oC k j y1 y2 y3)
    have oM3 : ∀ k j, ¬ (k = 57 ∧ (j = 77 ∨ j = 81 ∨ j = 82)) → ¬ (58 ≤ k ∧ k ≤ 61) → ¬ (k = 82 ∧ j = i) → ¬ (123 ≤ k ∧ k ≤ 125) → ¬ (k = 81 ∧ j = i) → ¬ (k = 84 ∧ j = 3 * i + f) → sI m3 k j = sI M k j := fun k j y1 y2 y3 y4 y5 y6 => (o3 k j y5 y6).trans (oM2 k j y1 y2 y3 y4)
    have oE3 : ∀ k, 62 ≤ k → k < 123 → k ≠ 82 → k ≠ 81 → k ≠ 84 → sI m3 k = sI M k := fun k y1 y2 y3 y4 y5 => funext fun j => oM3 k j (by omega) (by omega) (by omega) (by omega) (by omega) (by omega)
    have o57 : ∀ j, ¬ (j = 77 ∨ j = 81 ∨ j = 82) → sI m3 57 j = sI M 57 j := fun j y => oM3 57 j (by omega) (by omega) (by omega) (by omega) (by omega) (by omega)
    have fac3 : lFac Se m3 := lFac_fr fac2 (fun j _ => oe 129 j (by omega) (by omega)) (funext fun j => o3 58 j (by omega) (by omega)) (funext fun j => o3 59 j (by omega) (by omega)) (funext fun j => o3 60 j (by omega) (by omega))
    have wrg3 : lWrg Se m3 := lWrg_fr wrg2 (fun j _ _ => oe 129 j (by omega) (by omega)) (funext fun j => o3 61 j (by omega) (by omega))
    have gh : GH na Se m3 := ⟨lse.LR lr, MF_e hm2 r3, ⟨lNow_fr now (oS 127 0 (by omega) (by omega) (by omega) (by omega) (by omega)) (o57 0 (by omega)), lFlo_fr flo (funext fun j => oS 128 j (by omega) (by omega) (by omega) (by omega) (by omega)) (o57 9 (by omega)) (fun k y1 y2 => oE3 k (by omega) (by omega) (by omega) (by omega) (by omega))⟩, ⟨fac3, wrg3, lKn_fr kn (fun j _ => oS 129 j (by omega) (by omega) (by omega) (by omega) (by omega)) (oE3 62 (by omega) (by omega) (by omega) (by omega) (by omega)) (oE3 63 (by omega) (by omega) (by omega) (by omega) (by omega))⟩, ⟨lAtt_fr att (fun j _ => oS 130 j (by omega) (by omega) (by omega) (by omega) (by omega)) (oE3 75 (by omega) (by omega) (by omega) (by omega) (by omega)) (oE3 76 (by omega) (by omega) (by omega) (by omega) (by omega)) (oE3 77 (by omega) (by omega) (by omega) (by omega) (by omega)) (oE3 78 (by omega) (by omega) (by omega) (by omega) (by omega)), ash3, na10⟩, lPts_e pts (fun j => by rw [oE3 73 (by omega) (by omega) (by omega) (by omega) (by omega)])⟩
    have gp : GP ns Se m3 i := ⟨⟨lSz_fr z1 (oS 127 1 (by omega) (by omega) (by omega) (by omega) (by omega)) (o57 30 (by omega)), n13⟩, lAud_fr aud2 (oe 127 9 (by omega) (by omega)) (oe 127 10 (by omega) (by omega)) (o3 57 77 (by omega) (by omega)) (o3 57 81 (by omega) (by omega)), ⟨lSp_fr sp (fun j _ => oS 133 j (by omega) (by omega) (by omega) (by omega) (by omega)) (oE3 85 (by omega) (by omega) (by omega) (by omega) (by omega)) (oE3 86 (by omega) (by omega) (by omega) (by omega) (by omega)) (oE3 88 (by omega) (by omega) (by omega) (by omega) (by omega)), lUsd_fr usd (fun j _ => oS 133 j (by omega) (by omega) (by omega) (by omega) (by omega)) (oE3 87 (by omega) (by omega) (by omega) (by omega) (by omega)), lLiv_fr lv (fun j _ => oS 133 j (by omega) (by omega) (by omega) (by omega) (by omega)) (oE3 88 (by omega) (by omega) (by omega) (by omega) (by omega)) (oE3 89 (by omega) (by omega) (by omega) (by omega) (by omega)), lSsh_fr ssh (funext fun j => oS 134 j (by omega) (by omega) (by omega) (by omega) (by omega)) (oE3 90 (by omega) (by omega) (by omega) (by omega) (by omega))⟩, (oM3 80 i (by omega) (by omega) (by omega) (by omega) (by omega) (by omega)).trans h80, (oM3 83 i (by omega) (by omega) (by omega) (by omega) (by omega) (by omega)).trans m83⟩
    obtain ⟨Sd, ed, ⟨ld, od, rd, ld2, od2⟩, n', hn', y1, y2, y3, y4, y5, y6, y7, y8⟩ := g_goes gh gp hi hy _ hgo
    refine ⟨Sd, ed, ⟨LF_tr lse ld, fun k j y => ?_⟩, ⟨rd.trans (r3.trans (rc.trans (by rw [em]; rfl))), ld2.trans (l3.trans (lc2.trans (by rw [em]; rfl))), fun k j y => ?_⟩, ?_, ?_, ?_, ⟨?_, ?_, ?_⟩, n', hn', y1, y2, y3, y4, y5, y6, y7, y8⟩
    · rw [od k j (by omega) (by omega) (by omega) (by omega) (by omega) (by omega)]
      exact oS k j (by omega) (by omega) (by omega) (by omega) (by omega)
    · rw [od2 k j (by omega) (by omega) (by omega) (by omega) (by omega) (by omega) (by omega) (by omega) (by omega)]
      exact oM3 k j (by omega) (by omega) (by omega) (by omega) (by omega) (by omega)
    · rw [od2 57 82 (by omega) (by omega) (by omega) (by omega) (by omega) (by omega) (by omega) (by omega) (by omega), o3 57 82 (by omega) (by omega), t82]
    · rw [od 131 _ (by omega) (by omega) (by omega) (by omega) (by omega) (by omega), oe 131 _ (by omega) (by omega), c131]
    · rw [od2 82 i (by omega) (by omega) (by omega) (by omega) (by omega) (by omega) (by omega) (by omega) (by omega), o3 82 i (by omega) (by omega), m282]
    · exact lFac_fr fac3 (fun j _ => od 129 j (by omega) (by omega) (by omega) (by omega) (by omega) (by omega)) (funext fun j => od2 58 j (by omega) (by omega) (by omega) (by omega) (by omega) (by omega) (by omega) (by omega) (by omega)) (funext fun j => od2 59 j (by omega) (by omega) (by omega) (by omega) (by omega) (by omega) (by omega) (by omega) (by omega)) (funext fun j => od2 60 j (by omega) (by omega) (by omega) (by omega) (by omega) (by omega) (by omega) (by omega) (by omega))
    · exact lWrg_fr wrg3 (fun j _ _ => od 129 j (by omega) (by omega) (by omega) (by omega) (by omega) (by omega)) (funext fun j => od2 61 j (by omega) (by omega) (by omega) (by omega) (by omega) (by omega) (by omega) (by omega) (by omega))
    · exact lAsh_fr ash3 (funext fun j => od 132 j (by omega) (by omega) (by omega) (by omega) (by omega) (by omega)) (funext fun j => od2 84 j (by omega) (by omega) (by omega) (by omega) (by omega) (by omega) (by omega) (by omega) (by omega))
  have ashc : lAsh na Sc m2 := lAsh_fr ash (funext fun j => oC 132 j (by omega) (by omega) (by omega)) (oE2 84 (by omega) (by omega) (by omega))
  -- the law's program to the answer
  have start : anL S (Int32.ofNat i) rt (Int32.ofNat u) = if x = 0 then
      (some (((6 : Int32) * Int32.ofNat i) + (5 : Int32))).bind fun i40 =>
      (aI Sc 40 (some 130) i40).bind fun v41 =>
      (bI Sc (some 130) i40 (v41 + (1 : Int32))).bind fun S42 =>
      (aI S42 40 (some 130) (((6 : Int32) * Int32.ofNat i) + (5 : Int32))).bind fun v43 =>
      (aI S42 40 (some 128) (((5 : Int32) * Int32.ofNat k) + (2 : Int32))).bind fun v44 =>
      if v43 = v44 then
      (aI S42 40 (some 128) (((5 : Int32) * Int32.ofNat k) + (4 : Int32))).bind fun v45 =>
      f_W_goes S42 (some 127) (some 128) (some 129) (some 130) (some 131) (some 132) (some 133) (some 134) (Int32.ofNat i) v45
      else
      some S42
      else
      (aI Sc 40 (some 127) (0 : Int32)).bind fun v47 =>
      (bI Sc (some 132) (((3 : Int32) * Int32.ofNat i) + Int32.ofNat f) v47).bind fun S48 =>
      (aI S48 40 (some 128) (((5 : Int32) * Int32.ofNat k) + (3 : Int32))).bind fun v49 =>
      f_W_goes S48 (some 127) (some 128) (some 129) (some 130) (some 131) (some 132) (some 133) (some 134) (Int32.ofNat i) v49 := by
    unfold anL
    rw [Rw_aI (i := (6 : Int32) * Int32.ofNat i + (3 : Int32)) r130 (n := 6 * i + 3) (wix 6 i 3) (by omega), Option.bind_some, a3, Rw_aI (i := (5 : Int32) * Int32.ofNat k + (1 : Int32)) r128 (n := 5 * k + 1) (wix 5 k 1) (by omega), Option.bind_some, q1, Option.bind_some, Rw_aI (i := (2 : Int32) * Int32.ofNat i) r131 (n := 2 * i) (wmul 2 i) (by omega), Option.bind_some, a0, o1, Rw_bI (i := (2 : Int32) * Int32.ofNat i) r131 (n := 2 * i) (wmul 2 i) (by omega), Option.bind_some, ← eb, Rw_aI (i := (6 : Int32) * Int32.ofNat i) (lb.Rw r130) (n := 6 * i) (wmul 6 i) (by omega), Option.bind_some, ob 130 _ (by omega), b0, ea]
    rfl
  by_cases hx : x = 0
  · rw [if_pos hx, Option.bind_some, Rw_aI (i := (6 : Int32) * Int32.ofNat i + (5 : Int32)) (lc.Rw r130) (n := 6 * i + 5) (wix 6 i 5) (by omega), Option.bind_some, oC 130 _ (by omega) (by omega) (by omega), a5, o1, Rw_bI (i := (6 : Int32) * Int32.ofNat i + (5 : Int32)) (lc.Rw r130) (n := 6 * i + 5) (wix 6 i 5) (by omega), Option.bind_some] at start
    obtain ⟨Se, ee⟩ : ∃ Se, Se = wI Sc 130 (6 * i + 5) (Int32.ofNat (w + 1)) := ⟨_, rfl⟩
    rw [← ee] at start
    have le : LF Sc Se := by rw [ee]; exact LF_w (LF_rf Sc) (by decide)
    have oe : ∀ q j, ¬ (q = 130 ∧ j = 6 * i + 5) → sI Se q j = sI Sc q j := fun q j y => by rw [ee, ti_sI_ne y]
    have lse := LF_tr lc le
    rw [Rw_aI (i := (6 : Int32) * Int32.ofNat i + (5 : Int32)) (lse.Rw r130) (n := 6 * i + 5) (wix 6 i 5) (by omega), Option.bind_some, Rw_aI (i := (5 : Int32) * Int32.ofNat k + (2 : Int32)) (lse.Rw r128) (n := 5 * k + 2) (wix 5 k 2) (by omega), Option.bind_some, oe 128 _ (by omega), oC 128 _ (by omega) (by omega) (by omega), q2, show sI Se 130 (6 * i + 5) = Int32.ofNat (w + 1) by rw [ee, ti_sI_eq]] at start
    have t1 := tail.1 (ax.symm.trans hx)
    rw [m81, o1] at t1
    obtain ⟨m3, e3⟩ : ∃ m3, m3 = wI m2 81 i (Int32.ofNat (w + 1)) := ⟨_, rfl⟩
    rw [← e3] at t1
    have r3 : sR m3 = sR m2 := by rw [e3]; rfl
    have l3 : sL m3 = sL m2 := by rw [e3]; rfl
    have o3 : ∀ q j, ¬ (q = 81 ∧ j = i) → sI m3 q j = sI m2 q j := fun q j y => by rw [e3, ti_sI_ne y]
    have ash3 : lAsh na Se m3 := lAsh_fr ashc (funext fun j => oe 132 j (by omega)) (funext fun j => o3 84 j (by omega))
    by_cases hl : Int32.ofNat (w + 1) = sI M 69 k
    · rw [if_pos hl, Rw_aI (i := (5 : Int32) * Int32.ofNat k + (4 : Int32)) (lse.Rw r128) (n := 5 * k + 4) (wix 5 k 4) (by omega), Option.bind_some, oe 128 _ (by omega), oC 128 _ (by omega) (by omega) (by omega), q4] at start
      obtain ⟨m4, hg, hq⟩ := t1.1 hl
      obtain ⟨Sd, ed, aq⟩ := goes Se m3 m4 _ le (fun q j y1 _ => oe q j y1) r3 l3 (fun q j y1 _ => o3 q j y1) ash3 x4 hg
      exact ⟨Sd, m4, start.trans ed, hq, aq⟩
    · rw [if_neg hl] at start
      have wl : w + 1 < 4 := by
        have : (sI M 69 k).toInt ≠ ((w + 1 : Nat) : Int) := fun z => hl (Int32.toInt_inj.mp ((oiq (by omega)).trans z.symm))
        omega
      refine ⟨Se, m3, start, t1.2 hl, ⟨lse, fun k j y => ?_⟩, ⟨r3.trans (rc.trans (by rw [em]; rfl)), l3.trans (lc2.trans (by rw [em]; rfl)), fun k j y => ?_⟩, ?_, ?_, ?_, ⟨?_, ?_, ash3⟩, ns, Or.inl rfl, ?_, ?_, ?_, ?_, ?_, ?_, ?_, ?_⟩
      · rw [oe k j (by omega)]
        exact oC k j (by omega) (by omega) (by omega)
      · rw [o3 k j (by omega)]
        exact oM2 k j (by omega) (by omega) (by omega) (by omega)
      · rw [o3 57 82 (by omega), t82]
      · rw [oe 131 _ (by omega), c131]
      · rw [o3 82 i (by omega), m282]
      · exact lFac_fr fac2 (fun j _ => oe 129 j (by omega)) (funext fun j => o3 58 j (by omega)) (funext fun j => o3 59 j (by omega)) (funext fun j => o3 60 j (by omega))
      · exact lWrg_fr wrg2 (fun j _ _ => oe 129 j (by omega)) (funext fun j => o3 61 j (by omega))
      · exact lSz_fr z1 ((oe 127 1 (by omega)).trans (oC 127 1 (by omega) (by omega) (by omega))) ((o3 57 30 (by omega)).trans (oM2 57 30 (by omega) (by omega) (by omega) (by omega)))
      · exact lAud_fr aud2 (oe 127 9 (by omega)) (oe 127 10 (by omega)) (o3 57 77 (by omega)) (o3 57 81 (by omega))
      · exact lKn_fr kn (fun j _ => (oe 129 j (by omega)).trans (oC 129 j (by omega) (by omega) (by omega))) (funext fun j => (o3 62 j (by omega)).trans (oM2 62 j (by omega) (by omega) (by omega) (by omega))) (funext fun j => (o3 63 j (by omega)).trans (oM2 63 j (by omega) (by omega) (by omega) (by omega)))
      · exact lSp_fr sp (fun j _ => (oe 133 j (by omega)).trans (oC 133 j (by omega) (by omega) (by omega))) (funext fun j => (o3 85 j (by omega)).trans (oM2 85 j (by omega) (by omega) (by omega) (by omega))) (funext fun j => (o3 86 j (by omega)).trans (oM2 86 j (by omega) (by omega) (by omega) (by omega))) (funext fun j => (o3 88 j (by omega)).trans (oM2 88 j (by omega) (by omega) (by omega) (by omega)))
      · exact lUsd_fr usd (fun j _ => (oe 133 j (by omega)).trans (oC 133 j (by omega) (by omega) (by omega))) (funext fun j => (o3 87 j (by omega)).trans (oM2 87 j (by omega) (by omega) (by omega) (by omega)))
      · exact lLiv_fr lv (fun j _ => (oe 133 j (by omega)).trans (oC 133 j (by omega) (by omega) (by omega))) (funext fun j => (o3 88 j (by omega)).trans (oM2 88 j (by omega) (by omega) (by omega) (by omega))) (funext fun j => (o3 89 j (by omega)).trans (oM2 89 j (by omega) (by omega) (by omega) (by omega)))
      · exact lSsh_fr ssh (funext fun j => (oe 134 j (by omega)).trans (oC 134 j (by omega) (by omega) (by omega))) (funext fun j => (o3 90 j (by omega)).trans (oM2 90 j (by omega) (by omega) (by omega) (by omega)))
      · have m380 : sI m3 80 i = 0 := (o3 80 i (by omega)).trans ((oM2 80 i (by omega) (by omega) (by omega) (by omega)).trans h80)
        refine ⟨?_, Or.inl ⟨m380, ⟨k, k7, ?_, ?_, ?_⟩, ⟨w + 1, wl, ?_, ?_⟩, ?_⟩⟩
        · rw [oe 130 _ (by omega), oC 130 _ (by omega) (by omega) (by omega), m380, a4, h80]
        · rw [oe 130 _ (by omega), oC 130 _ (by omega) (by omega) (by omega), a3]
        · rw [o3 79 i (by omega), oM2 79 i (by omega) (by omega) (by omega) (by omega), m79]
        · rw [o3 67 k (by omega), oM2 67 k (by omega) (by omega) (by omega) (by omega), m67]
        · rw [ee, ti_sI_eq]
        · rw [e3, ti_sI_eq]
        · rw [o3 83 i (by omega), oM2 83 i (by omega) (by omega) (by omega) (by omega), m83]
  · rw [if_neg hx, Rw_aI (lc.Rw r127) (n := 0) (i := (0 : Int32)) rfl (by decide), Option.bind_some, oC 127 0 (by omega) (by omega) (by omega), now.1, Rw_bI (i := (3 : Int32) * Int32.ofNat i + Int32.ofNat f) (lc.Rw r132) (n := 3 * i + f) (wix 3 i f) (by omega), Option.bind_some] at start
    obtain ⟨Se, ee⟩ : ∃ Se, Se = wI Sc 132 (3 * i + f) (sI M 57 0) := ⟨_, rfl⟩
    rw [← ee] at start
    have le : LF Sc Se := by rw [ee]; exact LF_w (LF_rf Sc) (by decide)
    have oe : ∀ q j, ¬ (q = 132 ∧ j = 3 * i + f) → sI Se q j = sI Sc q j := fun q j y => by rw [ee, ti_sI_ne y]
    have lse := LF_tr lc le
    rw [Rw_aI (i := (5 : Int32) * Int32.ofNat k + (3 : Int32)) (lse.Rw r128) (n := 5 * k + 3) (wix 5 k 3) (by omega), Option.bind_some, oe 128 _ (by omega), oC 128 _ (by omega) (by omega) (by omega), q3] at start
    obtain ⟨m4, hg, hq⟩ := tail.2 (fun z => hx (ax.trans z))
    obtain ⟨m3, e3⟩ : ∃ m3, m3 = wI m2 84 (3 * i + f) (sI M 57 0) := ⟨_, rfl⟩
    rw [← e3] at hg
    have o3 : ∀ q j, ¬ (q = 84 ∧ j = 3 * i + f) → sI m3 q j = sI m2 q j := fun q j y => by rw [e3, ti_sI_ne y]
    obtain ⟨Sd, ed, aq⟩ := goes Se m3 m4 _ le (fun q j _ y2 => oe q j y2) (by rw [e3]; rfl) (by rw [e3]; rfl) (fun q j _ y2 => o3 q j y2) (fun j hj g g3 => by
      by_cases e : j = i ∧ g = f
      · rw [e.1, e.2, ee, e3, ti_sI_eq, ti_sI_eq]
        exact ⟨rfl, Or.inr now.2⟩
      · rw [oe 132 _ (by omega), o3 84 _ (by omega)]
        exact ashc j hj g g3) x3 hg
    exact ⟨Sd, m4, start.trans ed, hq, aq⟩
end
section
variable {n r : Nat} {T : Nat → Nat} {S : AS}
theorem l_answer (L : L54 n r T S) (hn : n ≤ 500) {y : Int32} : Ho (f_W_attempts S (some 4) (2 : Int32) y (some 127) (some 128) (some 129) (some 130) (some 131) (some 132) (some 133) (some 134)) (G54 n r) := by
  obtain ⟨iv, rp, tl, pts, -, ns, nc, nf, nt, nk, na, lw⟩ := id L
  have lr := TL_LR iv.1 tl
  obtain ⟨⟨z1, z2, z3, z4, z5, z6⟩, ⟨now, aud, key, hlp⟩, flo, ⟨fac, wrg, kn⟩, ⟨att, ast, ash⟩, ⟨sp, usd, lv, ssh⟩, -⟩ := id lw
  have n14 := z1.2.2
  have na10 := z6.2.2
  obtain ⟨r127, -, -, r130, r131, r132, -⟩ := id lr
  obtain ⟨-, as2⟩ := AST_of rp z6.2.1 na10
  unfold f_W_attempts
  refine o_some 3 rfl (by decide) (by decide) (fun _ _ => r_ifF (by decide) (r_ifF (by decide) (o_some 3 rfl (by decide) (by decide) (fun v0 _ => ?_))))
  -- one answer, its number and whether it is right
  have go : ∀ i, i ≤ na → ∀ rt : Int32, rt = 0 ∨ rt = 1 → ∀ nu : Int32, (nu = 10000 ∨ ∃ u, u < 7 ∧ nu = Int32.ofNat u) → Ho (f_W_attempts_B416 S (some 4) (some 127) (some 128) (some 129) (some 130) (some 131) (some 132) (some 133) (some 134) (Int32.ofNat i) rt nu) (G54 n r) := fun i hi rt hrt nu hnu => by
    have inr : ((0 : Int32) ≤ nu ∧ nu ≤ (9999 : Int32)) ↔ ∃ u, u < 7 ∧ nu = Int32.ofNat u := by
      constructor
      · intro z
        rcases hnu with e | e
        · rw [e] at z
          exact absurd z.2 (by decide)
        · exact e
      · rintro ⟨u, u7, e⟩
        rw [e]
        exact ⟨(oleq (a := 0) (by omega) (by omega)).mpr (Nat.zero_le _), (oleq (b := 9999) (by omega) (by omega)).mpr (by omega)⟩
    -- refused
    have no : (∀ M q, MF M → GK S M → f_M_answer M (some 57) (Int32.ofNat i) rt nu = some q → (i = na → sI q.2 57 82 = Int32.ofNat 1 ∧ GK M q.2) ∧ (i < na → nu = 10000 → sI q.2 57 82 = Int32.ofNat 2 ∧ GK M q.2) ∧ (i < na → ¬ nu = 10000 → sI q.2 57 82 = Int32.ofNat 3 ∧ GK M q.2)) → Ho (f_W_attempts_B448 S (some 4) (some 127) (Int32.ofNat i) rt nu) (G54 n r) := fun hm => by
      have fin : ∀ y3 : Int32, y3 = rt → Ho (f_W_attempts_B462 S (some 127) (Int32.ofNat i) nu (some 4) (4 : Int32) (Int32.ofNat i) y3) (G54 n r) := fun y3 e3 => by
        rw [e3]
        unfold f_W_attempts_B462
        obtain ⟨c', v, S1, S2, T1, e1, e2, g, an⟩ := tg_answer (a0 := Int32.ofNat i) (a2 := nu) hrt iv (by omega) rp
        have bh := PK_BH L (LF_rf S) g (by decide +kernel) (by decide +kernel) (by decide +kernel)
        obtain ⟨-, -, -, -, kS, kS1, kG, mf⟩ := id bh
        obtain ⟨h1, h2, h3⟩ := hm S1 _ mf kG e2
        have one : ∀ kk : Int32, c' = kk → GK S1 S2 → Ho (f_W_attempts_B499 S2 c' kk) (G54 n r) := fun kk hk gk2 => by
          have gk : GK S S2 := GK_tr kG gk2
          unfold f_W_attempts_B499
          exact o_fin hk (BH_L bh (lPN_e pts (fun j => gk 73 j (by omega) (by omega) (by omega)) (gk 57 0 (by omega) (by omega) (by omega))) ⟨ns, nc, nf, nt, nk, na, LW_cong2 lw kS gk⟩)
        refine o_b2 e1 (o_aIe (v := Int32.ofNat na) (TL_LR bh.1.1 bh.2.2.1).1 (n := 11) rfl (by decide) (by rw [kS 127 (by omega) (by omega)]; exact z6.1) ?_)
        by_cases c : i = na
        · obtain ⟨t, gk⟩ := h1 c
          exact r_ifT (by rw [c]) (one _ (ANc_k an (by decide) 0 rfl t) gk)
        · refine r_ifF (fun q => c (oinjq (by omega) (by omega) q)) ?_
          by_cases d : nu = 10000
          · obtain ⟨t, gk⟩ := h2 (by omega) d
            exact r_ifT d (one _ (ANc_k an (by decide) 1 rfl t) gk)
          · obtain ⟨t, gk⟩ := h3 (by omega) d
            exact r_ifF d (one _ (ANc_k an (by decide) 2 rfl t) gk)
      unfold f_W_attempts_B448
      rcases hrt with e | e
      · exact r_ifT e (fin 0 e.symm)
      · exact r_ifF (by rw [e]; decide) (fin 1 e.symm)
    rw [an_eq]
    refine o_aIe r127 (n := 11) rfl (by decide) z6.1 ?_
    by_cases ci : i = na
    · refine r_ifT (by rw [ci]) (no (fun M q mf gk h => ?_))
      obtain ⟨h1, -⟩ := p_answer (c := 0) (k := 0) mf ((gk 57 19 (by omega) (by omega) (by omega)).trans z6.2.1) na10 hi (fun z => absurd z (by omega)) (fun z => absurd z (by omega)) (by decide) (fun z => absurd z (by omega)) rfl _ h
      exact ⟨h1, fun z => absurd z (by omega), fun z => absurd z (by omega)⟩
    have hlt : i < na := by omega
    obtain ⟨a4, ⟨c, c13, a0, m82⟩, ac⟩ := ast i hlt
    obtain ⟨-, -, -, m78⟩ := att i hlt
    -- the step that asks, if one does
    obtain ⟨k, k7, hk⟩ : ∃ k, k < 7 ∧ (sI S 80 i = 0 → sI S 79 i = Int32.ofNat k) := by
      rcases ac with ⟨-, ⟨k, k7, -, m79, -⟩, -⟩ | ⟨x, -⟩ | ⟨x, -⟩
      · exact ⟨k, k7, fun _ => m79⟩
      · exact ⟨0, by decide, fun z => absurd (z.symm.trans x) (by decide)⟩
      · exact ⟨0, by decide, fun z => absurd (z.symm.trans x) (by decide)⟩
    have pan : ∀ M q, MF M → GK S M → f_M_answer M (some 57) (Int32.ofNat i) rt nu = some q → (i < na → ¬ ((0 : Int32) ≤ nu ∧ nu ≤ (9999 : Int32)) → sI q.2 57 82 = Int32.ofNat 2 ∧ GK M q.2) ∧ (i < na → ((0 : Int32) ≤ nu ∧ nu ≤ (9999 : Int32)) → ¬ sI M 80 i = 0 → sI q.2 57 82 = Int32.ofNat 3 ∧ GK M q.2) := fun M q mf gk h => by
      obtain ⟨-, h2, h3, -⟩ := p_answer (c := c) (k := k) mf ((gk 57 19 (by omega) (by omega) (by omega)).trans z6.2.1) na10 hi (fun _ => (gk 78 i (by omega) (by omega) (by omega)).trans m78) (fun _ z => (gk 79 i (by omega) (by omega) (by omega)).trans (hk ((gk 80 i (by omega) (by omega) (by omega)).symm.trans z))) k7 (fun _ _ => (gk 82 i (by omega) (by omega) (by omega)).trans m82) rfl _ h
      exact ⟨h2, h3⟩
    refine r_ifF (fun q => ci (oinjq (by omega) (by omega) q)) ?_
    by_cases cn : nu = 10000
    · exact r_ifT cn (no (fun M q mf gk h => ⟨fun z => absurd z ci, fun _ _ => (pan M q mf gk h).1 hlt (by rw [cn]; decide), fun _ z => absurd cn z⟩))
    obtain ⟨u, u7, eu⟩ := hnu.resolve_left cn
    refine r_ifF cn (o_aIe r130 (n := 6 * i + 4) (wix 6 i 4) (by omega) a4 ?_)
    by_cases c80 : sI S 80 i = 0
    case neg => exact r_ifF c80 (no (fun M q mf gk h => ⟨fun z => absurd z ci, fun _ z => absurd z cn, fun _ _ => (pan M q mf gk h).2 hlt (inr.mpr ⟨u, u7, eu⟩) (by rw [gk 80 i (by omega) (by omega) (by omega)]; exact c80)⟩))
    refine r_ifT c80 (o_aIe r127 (n := 1) rfl (by decide) z1.1 ?_)
    by_cases n13 : ns ≤ 13
    case neg => exact r_ifF (fun q => n13 ((oleq (b := 13) (by omega) (by omega)).mp q)) (G54_no L)
    refine r_ifT ((oleq (b := 13) (by omega) (by omega)).mpr n13) ?_
    obtain ⟨⟨b1, b2⟩, w1, w2⟩ := as2 i hlt c80
    rw [m78, show nn (0 : Int32) = 0 from rfl, Nat.mul_zero, Nat.zero_add] at w2
    have c11 : c ≤ 11 := by
      rw [m82, oiq (by omega)] at b2
      omega
    have run : ∀ M q, MF M → GK S M → f_M_answer M (some 57) (Int32.ofNat i) rt nu = some q → ∃ Sd m4, anL S (Int32.ofNat i) rt nu = some Sd ∧ f_M_answer_B168 m4 (some 57) (Int32.ofNat i) = some q ∧ AQ i na c ns S M Sd m4 := fun M q mf gk h => by
      rw [eu] at h ⊢
      have gE : ∀ k, 58 ≤ k → k < 126 → ∀ j, sI M k j = sI S k j := fun k h1 h2 j => gk k j (by omega) (by omega) (by omega)
      exact g_an (LW_cong2 lw (fun _ _ _ => rfl) gk) lr mf (lPts_e pts.1 (fun j => gE 73 (by omega) (by omega) j)) hlt n13 ((gE 80 (by omega) (by omega) i).trans c80) ((gE 82 (by omega) (by omega) i).trans m82) c11 (by
        rw [gE 81 (by omega) (by omega), gE 79 (by omega) (by omega), gE 69 (by omega) (by omega)]
        exact ⟨w1, w2⟩) u7 h
    obtain ⟨q0, e0, -⟩ := mm_answer (a1 := Int32.ofNat i) (a2 := rt) (a3 := nu) iv.1 (x57 iv) iv.2.1 (by have := iv.2.2.1; omega)
    obtain ⟨Sd, m40, ed, -, aq0⟩ := run S q0 (MF_of iv.1) (GK_rf S) e0
    refine o_bd ed ?_
    have ld : LF S Sd := aq0.1.1
    obtain ⟨-, -, -, d131, -, -, n0', hn0, d1, -, -, -, -, -, -, das, -⟩ := id aq0
    -- the law's end: what is written, then the call
    have fin : ∀ y2 : Int32, (∀ M m4 q, AQ i na c ns S M Sd m4 → f_M_answer_B168 m4 (some 57) (Int32.ofNat i) = some q → MF m4 → sI q.2 80 i = y2) → Ho (f_W_attempts_B733 Sd (some 4) (some 130) (Int32.ofNat i) rt nu (some 130) (((6 : Int32) * Int32.ofNat i) + (4 : Int32)) y2) (G54 n r) := fun y2 hy2 => by
      unfold f_W_attempts_B733
      refine o_bI (ld.Rw r130) (n := 6 * i + 4) (wix 6 i 4) (by omega) ?_
      obtain ⟨Sa, ea⟩ : ∃ Sa, Sa = wI Sd 130 (6 * i + 4) y2 := ⟨_, rfl⟩
      rw [← ea]
      have la : LF S Sa := by rw [ea]; exact LF_w ld (by decide)
      have oa : ∀ q j, ¬ (q = 130 ∧ j = 6 * i + 4) → sI Sa q j = sI Sd q j := fun q j y => by rw [ea, ti_sI_ne y]
      have a4' : sI Sa 130 (6 * i + 4) = y2 := by rw [ea, ti_sI_eq]
      have call : ∀ y3 : Int32, y3 = rt → Ho (f_W_attempts_B748 Sa (some 130) (Int32.ofNat i) nu (some 4) (4 : Int32) (Int32.ofNat i) y3) (G54 n r) := fun y3 e3 => by
        rw [e3]
        unfold f_W_attempts_B748
        obtain ⟨c', v, S1, S2, T1, e1, e2, g, an⟩ := tg_answer (a0 := Int32.ofNat i) (a2 := nu) hrt (LF_IV iv tl la) (by omega) (LF_RPF iv.1 tl rp la)
        have bh := PK_BH L la g (by decide +kernel) (by decide +kernel) (by decide +kernel)
        obtain ⟨-, -, -, -, kS, kS1, kG, mf⟩ := id bh
        have gk0 : GK S S1 := GK_tr (LF_GK la) kG
        obtain ⟨Sd', m4, ed', hq, aq⟩ := run S1 _ mf gk0 e2
        rw [ed] at ed'
        cases ed'
        obtain ⟨⟨-, od⟩, ⟨rd, -, om⟩, t82, -, n82, ⟨fac2, wrg2, ash2⟩, n', hn', y1, yaud, ykn, ysp, yusd, yliv, yssh, yas⟩ := id aq
        have hm4 : MF m4 := MF_e mf rd
        obtain ⟨f1, f2⟩ := p_anE hm4 (show i < 60 by omega) _ hq
        have f1 : S2 = (if sI m4 80 i = 0 ∧ sI m4 82 i = (12 : Int32) then wI m4 80 i 2 else m4) := f1
        have f2 : v = sI S2 80 i := f2
        have m80 : sI S2 80 i = y2 := hy2 S1 m4 _ aq hq hm4
        have o4 : ∀ q j, ¬ (q = 80 ∧ j = i) → sI S2 q j = sI m4 q j := fun q j y => by
          rw [f1]
          split
          · exact ti_sI_ne y
          · rfl
        have o4' : ∀ q, q ≠ 80 → sI S2 q = sI m4 q := fun q h => funext fun j => o4 q j (by omega)
        have oM : ∀ k j, 57 ≤ k → k < 126 → ¬ (k = 57 ∧ (100 ≤ j ∨ j = 82)) → ¬ ((k = 57 ∧ (j = 30 ∨ j = 77 ∨ j = 81)) ∨ (58 ≤ k ∧ k ≤ 63) ∨ ((79 ≤ k ∧ k ≤ 83) ∧ j = i) ∨ (k = 84 ∧ 3 * i ≤ j ∧ j < 3 * i + 3) ∨ ((85 ≤ k ∧ k ≤ 89) ∧ j = ns) ∨ (k = 90 ∧ 3 * ns ≤ j ∧ j < 3 * ns + 3) ∨ (123 ≤ k ∧ k ≤ 126)) → sI S2 k j = sI S k j := fun k j h1 h2 h3 h4 => by
          rw [o4 k j (by omega), om k j (by omega)]
          exact gk0 k j h1 h2 h3
        have oW : ∀ k j, ¬ ((k = 127 ∧ (j = 1 ∨ j = 9 ∨ j = 10)) ∨ k = 129 ∨ (k = 130 ∧ 6 * i + 3 ≤ j ∧ j < 6 * i + 6) ∨ (k = 131 ∧ 2 * i ≤ j ∧ j < 2 * i + 2) ∨ (k = 132 ∧ 3 * i ≤ j ∧ j < 3 * i + 3) ∨ (k = 133 ∧ 4 * ns ≤ j ∧ j < 4 * ns + 4) ∨ (k = 134 ∧ 3 * ns ≤ j ∧ j < 3 * ns + 3)) → sI Sa k j = sI S k j := fun k j h => by
          rw [oa k j (by omega)]
          exact od k j h
        have v82 : sI S2 57 82 = 0 := (o4 57 82 (by omega)).trans t82
        -- the attempt's own row
        have as1 : lAs1 n' Sa S2 i := by
          obtain ⟨w1, w2⟩ := yas
          refine ⟨a4'.trans m80.symm, ⟨c + 1, by omega, ?_, ?_⟩, ?_⟩
          · rw [oa 131 _ (by omega)]
            exact d131
          · rw [o4 82 i (by omega)]
            exact n82
          · by_cases e12 : sI m4 80 i = 0 ∧ sI m4 82 i = (12 : Int32)
            · rw [if_pos e12] at f1
              have e2' : sI S2 80 i = 2 := by rw [f1, ti_sI_eq]
              refine Or.inr (Or.inr ⟨e2', ?_⟩)
              rw [o4 83 i (by omega)]
              rcases w2 with ⟨-, -, -, w⟩ | ⟨w, -⟩ | ⟨w, -⟩
              · exact w
              · exact absurd (e12.1.symm.trans w) (by decide)
              · exact absurd (e12.1.symm.trans w) (by decide)
            · rw [if_neg e12] at f1
              rw [f1]
              rcases w2 with ⟨w, ⟨k', k7', x1, x2, x3⟩, x4, x5⟩ | ⟨w, s, hs, x1, x2⟩ | w
              · exact Or.inl ⟨w, ⟨k', k7', by rw [oa 130 _ (by omega)]; exact x1, x2, x3⟩, by rw [oa 130 _ (by omega)]; exact x4, x5⟩
              · exact Or.inr (Or.inl ⟨w, s, hs, by rw [oa 131 _ (by omega)]; exact x1, x2⟩)
              · exact Or.inr (Or.inr w)
        have lw2 : LW n' nc nf nt nk na Sa S2 := LWa_answer lw (fun k j h1 h2 h3 => oW k j (by omega)) (fun k j h1 h2 h3 h4 => oM k j h1 h2 h3 (by omega)) (by omega)
          (lSz_fr y1 (oa 127 1 (by omega)) (o4 57 30 (by omega))) (lAud_fr yaud (oa 127 9 (by omega)) (oa 127 10 (by omega)) (o4 57 77 (by omega)) (o4 57 81 (by omega)))
          (lFac_fr fac2 (fun j _ => oa 129 j (by omega)) (o4' 58 (by omega)) (o4' 59 (by omega)) (o4' 60 (by omega))) (lWrg_fr wrg2 (fun j _ _ => oa 129 j (by omega)) (o4' 61 (by omega))) (lKn_fr ykn (fun j _ => oa 129 j (by omega)) (o4' 62 (by omega)) (o4' 63 (by omega)))
          (fun j hj => by
            by_cases e : j = i
            · rw [e]
              exact as1
            · exact lAs1_fr (lAs1_mono (ast j hj) (show ns ≤ n' by omega)) (fun b h1 h2 => oW 130 _ (by omega)) (fun b h1 => oW 131 _ (by omega)) (funext fun b => oM 67 b (by omega) (by omega) (by omega) (by omega)) (oM 79 j (by omega) (by omega) (by omega) (by omega)) (oM 80 j (by omega) (by omega) (by omega) (by omega)) (oM 81 j (by omega) (by omega) (by omega) (by omega)) (oM 82 j (by omega) (by omega) (by omega) (by omega)) (oM 83 j (by omega) (by omega) (by omega) (by omega)))
          (lAsh_fr ash2 (funext fun j => oa 132 j (by omega)) (o4' 84 (by omega))) (lSp_fr ysp (fun j _ => oa 133 j (by omega)) (o4' 85 (by omega)) (o4' 86 (by omega)) (o4' 88 (by omega))) (lUsd_fr yusd (fun j _ => oa 133 j (by omega)) (o4' 87 (by omega))) (lLiv_fr yliv (fun j _ => oa 133 j (by omega)) (o4' 88 (by omega)) (o4' 89 (by omega))) (lSsh_fr yssh (funext fun j => oa 134 j (by omega)) (o4' 90 (by omega)))
        have LL : L54 (n + 1) (r + 1) T1 S2 := BH_L bh (lPN_e pts (fun j => oM 73 j (by omega) (by omega) (by omega) (by omega)) (oM 57 0 (by omega) (by omega) (by omega) (by omega))) ⟨n', nc, nf, nt, nk, na, LW_cong2 lw2 kS (GK_rf _)⟩
        refine o_b2 e1 (o_aIe (v := y2) (TL_LR LL.1.1 LL.2.2.1).2.2.2.1 (n := 6 * i + 4) (wix 6 i 4) (by omega) (by rw [kS 130 (by omega) (by omega)]; exact a4') ?_)
        exact o_fin (by rw [ANc_0 an (by decide) v82, f2, m80]) LL
      rcases hrt with e | e
      · exact r_ifT e (call 0 e.symm)
      · exact r_ifF (by rw [e]; decide) (call 1 e.symm)
    -- what the law writes is what the reference has
    have e80 : ∀ M m4, AQ i na c ns S M Sd m4 → sI Sd 130 (6 * i + 4) = sI m4 80 i ∧ sI m4 82 i = Int32.ofNat (c + 1) := fun M m4 aq => by
      obtain ⟨-, -, -, -, h82, -, n', -, -, -, -, -, -, -, -, yas, -⟩ := aq
      exact ⟨yas, h82⟩
    have same : ¬ (sI Sd 130 (6 * i + 4) = 0 ∧ Int32.ofNat (c + 1) = (12 : Int32)) → Ho (f_W_attempts_B723 Sd (some 4) (some 130) (Int32.ofNat i) rt nu (some 130) (((6 : Int32) * Int32.ofNat i) + (4 : Int32))) (G54 n r) := fun hz => by
      unfold f_W_attempts_B723
      refine o_aI (ld.Rw r130) (n := 6 * i + 4) (wix 6 i 4) (by omega) (fin _ (fun M m4 q aq hq hm4 => ?_))
      obtain ⟨h1, h2⟩ := e80 M m4 aq
      obtain ⟨f1, -⟩ := p_anE hm4 (show i < 60 by omega) _ hq
      rw [if_neg (by rw [← h1, h2]; exact hz)] at f1
      rw [f1]
      exact h1.symm
    unfold f_W_attempts_B685
    refine o_aI (ld.Rw r130) (n := 6 * i + 4) (wix 6 i 4) (by omega) ?_
    by_cases z0 : sI Sd 130 (6 * i + 4) = 0
    · refine r_ifT z0 (o_aIe (ld.Rw r131) (n := 2 * i) (wmul 2 i) (by omega) d131 ?_)
      by_cases z12 : Int32.ofNat (c + 1) = (12 : Int32)
      · refine r_ifT z12 (fin 2 (fun M m4 q aq hq hm4 => ?_))
        obtain ⟨h1, h2⟩ := e80 M m4 aq
        obtain ⟨f1, -⟩ := p_anE hm4 (show i < 60 by omega) _ hq
        rw [if_pos ⟨by rw [← h1]; exact z0, by rw [h2]; exact z12⟩] at f1
        rw [f1, ti_sI_eq]
      · exact r_ifF z12 (same (fun z => z12 z.2))
    · exact r_ifF z0 (same (fun z => z0 z.1))
  have go2 : ∀ i, i ≤ na → Ho (f_W_attempts_B370 S (some 4) y (some 127) (some 128) (some 129) (some 130) (some 131) (some 132) (some 133) (some 134) (Int32.ofNat i)) (G54 n r) := fun i hi => by
    have go3 : ∀ rt : Int32, rt = 0 ∨ rt = 1 → Ho (f_W_attempts_B388 S (some 4) y (some 127) (some 128) (some 129) (some 130) (some 131) (some 132) (some 133) (some 134) (Int32.ofNat i) rt) (G54 n r) := fun rt hrt => by
      unfold f_W_attempts_B388
      refine o_some 30 rfl (by decide) (by decide) (fun v _ => ?_)
      by_cases c : Int32.ofNat v = 0
      · exact r_ifT c (go i hi rt hrt _ (Or.inl rfl))
      · exact r_ifF c (o_some 7 rfl (by decide) (by decide) (fun u u7 => go i hi rt hrt _ (Or.inr ⟨u, u7, rfl⟩)))
    unfold f_W_attempts_B370
    refine o_some 5 rfl (by decide) (by decide) (fun v _ => ?_)
    by_cases c : Int32.ofNat v ≤ (1 : Int32)
    · exact r_ifT c (go3 0 (Or.inl rfl))
    · exact r_ifF c (go3 1 (Or.inr rfl))
  by_cases c : Int32.ofNat v0 = 0
  · exact r_ifT c (o_aIe r127 (n := 11) rfl (by decide) z6.1 (o_some (na + 1) (o1 na) (by omega) (by omega) (fun w hw => go2 w (by omega))))
  · refine r_ifF c (o_aIe r127 (n := 11) rfl (by decide) z6.1 ?_)
    by_cases c2 : na = 0
    · exact r_ifT (by rw [c2]; decide) (go2 0 (by omega))
    · obtain ⟨w, hw⟩ : ∃ w, na = w + 1 := ⟨na - 1, by omega⟩
      refine r_ifF (fun q => c2 (by have := (oleq (a := na) (b := 0) (by omega) (by omega)).mp q; omega)) (o_aIe r127 (n := 11) rfl (by decide) z6.1 ?_)
      rw [hw, qsub1]
      exact go2 w (by omega)
end
