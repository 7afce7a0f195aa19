section
/-! ===== bits ===== -/
def bt (v : Int32) (j : Nat) : Bool := v.toBitVec.getLsbD j
theorem bt_or (a b : Int32) (j : Nat) : bt (a ||| b) j = (bt a j || bt b j) := by
  unfold bt
  rw [Int32.toBitVec_or, BitVec.getLsbD_or]
theorem bt_0 (j : Nat) : bt 0 j = false := by
  unfold bt
  exact BitVec.getLsbD_zero
theorem bt_ext {a b : Int32} (h : ∀ j, j < 32 → bt a j = bt b j) : a = b := by
  apply Int32.toBitVec_inj.mp
  exact BitVec.eq_of_getLsbD_eq (fun i hi => h i hi)
theorem bt_big {a : Int32} {j : Nat} (h : 32 ≤ j) : bt a j = false := by
  unfold bt
  exact BitVec.getLsbD_of_ge _ _ h
theorem shl_t : ∀ n, n < 12 → ∀ j, j < 32 → bt ((1 : Int32) <<< (Int32.ofNat n &&& 31)) j = decide (j = n) := by decide +kernel
theorem bt_shl {n j : Nat} (h : n < 12) : bt ((1 : Int32) <<< (Int32.ofNat n &&& 31)) j = decide (j = n) := by
  by_cases c : j < 32
  · exact shl_t n h j c
  · rw [bt_big (by omega), decide_eq_false (by omega)]
theorem and1 (y : BitVec 32) : (y &&& 1#32) = 1#32 ↔ y.getLsbD 0 = true := by
  constructor
  · intro h
    have := congrArg (fun z => z.getLsbD 0) h
    simpa using this
  · intro h
    apply BitVec.eq_of_getLsbD_eq
    intro i hi
    rw [BitVec.getLsbD_and]
    by_cases c : i = 0
    · subst c
      rw [h]
      simp
    · have : (1#32).getLsbD i = false := by
        rw [BitVec.getLsbD_one]
        simp [c]
      rw [this, Bool.and_false]
theorem shr_n : ∀ j, j < 12 → (((Int32.ofNat j &&& 31 : Int32).toBitVec).smod 32).toNat = j := by decide +kernel
theorem bt_test (x : Int32) {j : Nat} (h : j < 12) : ((x >>> (Int32.ofNat j &&& 31)) &&& (1 : Int32)) = (1 : Int32) ↔ bt x j = true := by
  rw [← Int32.toBitVec_inj, Int32.toBitVec_and, Int32.toBitVec_shiftRight]
  show (_ &&& 1#32) = 1#32 ↔ _
  rw [and1, BitVec.sshiftRight', shr_n j h, BitVec.getLsbD_sshiftRight]
  unfold bt
  rw [if_pos (by omega)]
  simp
def cb (f : Nat → Bool) : Nat → Nat
  | 0 => 0
  | n + 1 => cb f n + (if f n = true then 1 else 0)
theorem cb_le (f : Nat → Bool) : ∀ n, cb f n ≤ n
  | 0 => Nat.le_refl _
  | n + 1 => by
    have := cb_le f n
    show cb f n + (if f n = true then 1 else 0) ≤ n + 1
    split <;> omega
theorem cb_mono {f g : Nat → Bool} (h : ∀ j, f j = true → g j = true) : ∀ n, cb f n ≤ cb g n
  | 0 => Nat.le_refl _
  | n + 1 => by
    have := cb_mono h n
    show cb f n + (if f n = true then 1 else 0) ≤ cb g n + (if g n = true then 1 else 0)
    by_cases c : f n = true
    · rw [if_pos c, if_pos (h n c)]; omega
    · rw [if_neg c]; omega
theorem cb_lt {f g : Nat → Bool} (h : ∀ j, f j = true → g j = true) {i : Nat} (h1 : ¬ f i = true) (h2 : g i = true) : ∀ {n}, i < n → cb f n < cb g n
  | 0, hi => absurd hi (Nat.not_lt_zero _)
  | n + 1, hi => by
    show cb f n + (if f n = true then 1 else 0) < cb g n + (if g n = true then 1 else 0)
    by_cases c : i = n
    · subst c
      rw [if_neg h1, if_pos h2]
      have := cb_mono h i
      omega
    · have := cb_lt h h1 h2 (n := n) (by omega)
      by_cases d : f n = true
      · rw [if_pos d, if_pos (h n d)]; omega
      · rw [if_neg d]; omega
/-! ===== rows as a graph: tests, what comes next ===== -/
def te (S : AS) (b j : Nat) : Prop := In 1 4 (sI S 67 (b + j))
def nx (S : AS) (b j t : Nat) : Prop := (sI S 70 (b + j)).toInt = (t : Int) ∨ (sI S 71 (b + j)).toInt = (t : Int)
def clo (S : AS) (b n : Nat) (C : Nat → Prop) : Prop := ∀ k, k < n → C k → te S b k → ∀ t, nx S b k t → C t
/-- what the reference finds from a step: the set R -/
def circ (S : AS) (n f : Nat) (b : Int32) (R : Nat → Prop) : Prop := R f ∧ clo S 96 n R ∧ (∀ C, C f → clo S 96 n C → ∀ j, R j → C j) ∧ In 0 1 b ∧ (b = 1 ↔ ∃ k, k < n ∧ R k ∧ te S 96 k ∧ nx S 96 k f)
theorem i96 {j : Nat} (hj : j < 12) : ((96 : Int32) + Int32.ofNat j).toInt = 96 + (j : Int) ∧ ((96 : Int32) + Int32.ofNat j).toNatClampNeg = 96 + j := by
  have : ∀ j, j < 12 → ((96 : Int32) + Int32.ofNat j).toInt = 96 + (j : Int) ∧ ((96 : Int32) + Int32.ofNat j).toNatClampNeg = 96 + j := by decide +kernel
  exact this j hj
theorem b2_s {α β : Type} (v : α) (S : AS) (f : α → AS → Option β) : kr_b2 (some (v, S)) f = f v S := rfl
theorem isTest_t {S : AS} {a : Int32} (h : In 1 4 a) : f_M_isTest S a = some (1, S) := by
  unfold f_M_isTest
  rw [if_neg (fun q => by
    have := Int32.lt_iff_toInt_lt.mp q
    rw [show (1 : Int32).toInt = 1 from by decide] at this
    have := h.1
    omega), if_neg (fun q => by
    have := Int32.lt_iff_toInt_lt.mp q
    rw [show (4 : Int32).toInt = 4 from by decide] at this
    have := h.2
    omega)]
theorem isTest_f {S : AS} {a : Int32} (h : ¬ In 1 4 a) : f_M_isTest S a = some (0, S) := by
  unfold f_M_isTest
  by_cases c1 : a < 1
  · rw [if_pos c1]
  · by_cases c2 : 4 < a
    · rw [if_neg c1, if_pos c2]
    · exact absurd (In_w (In_of (Int32.not_lt.mp c1) (Int32.not_lt.mp c2)) (by decide) (by decide)) h
def by1 (v : Int32) : Int32 := if v < 0 then 0 else (1 : Int32) <<< (v &&& 31)
theorem lt0 {v : Int32} : v < 0 ↔ v.toInt < 0 := by
  rw [Int32.lt_iff_toInt_lt, show (0 : Int32).toInt = 0 from by decide]
theorem bt_by1 {v : Int32} (h : In (-1) 11 v) (t : Nat) : bt (by1 v) t = decide (v.toInt = (t : Int)) := by
  unfold by1
  by_cases c : v < 0
  · rw [if_pos c, bt_0]
    have := lt0.mp c
    rw [decide_eq_false (by omega)]
  · rw [if_neg c]
    have c' : ¬ v.toInt < 0 := fun q => c (lt0.mpr q)
    obtain ⟨n, hn, rfl⟩ := ofNat_In (n := 11) (v := v) ⟨by omega, h.2⟩
    rw [bt_shl (by omega), (gl2 n (by omega)).1]
    by_cases e : t = n
    · subst e
      rw [decide_eq_true rfl, decide_eq_true rfl]
    · rw [decide_eq_false e, decide_eq_false (by omega)]
theorem ci_B103 {S : AS} {x0 : Option Nat} {x1 x2 x3 x5 x6 x7 y0 : Int32} {k9 : AS → Option Nat → Int32 → Int32 → Int32 → Int32 → Option (Int32 × AS)} {k19 : AS → Option Nat → Int32 → Int32 → Int32 → Int32 → Int32 → Option (Int32 × AS)} : f_M_circles_B103 k9 k19 S x0 x1 x2 x3 x5 x6 x7 y0 = k19 S x0 x1 x2 ((x3 ||| by1 x6) ||| by1 x7) y0 (x5 + 1) := by
  unfold f_M_circles_B103 f_M_circles_B119 f_M_circles_B135 f_M_circles_B137 by1
  by_cases c : x6 < 0
  · rw [if_pos c, if_pos c, Option.bind_some]
    by_cases d : x7 < 0
    · rw [if_pos d, if_pos d]; rfl
    · rw [if_neg d, if_neg d]; rfl
  · rw [if_neg c, if_neg c, Option.bind_some]
    by_cases d : x7 < 0
    · rw [if_pos d, if_pos d]; rfl
    · rw [if_neg d, if_neg d]; rfl
theorem toNat8 : (8 : Int32).toNatClampNeg = 8 := by decide
theorem ci_in {T : Nat → Nat} {S : AS} {x : Option Nat} (hT : TI T S) (hx : Tx T 100 x) (hsr : SR S) {n f : Nat} (hn : n ≤ 12) (hs8 : (sI S 66 8).toInt = (n : Int)) (hf : f < 12) {x2 x30 x40 : Int32} {k9 : AS → Option Nat → Int32 → Int32 → Int32 → Int32 → Option (Int32 × AS)} {Q : Int32 × AS → Prop}
    (hk : ∀ x3 x4, (∀ j, bt x30 j = true → bt x3 j = true) → (∀ k, k < n → bt x2 k = true → te S 96 k → ∀ t, nx S 96 k t → bt x3 t = true) → (∀ C : Nat → Prop, clo S 96 n C → (∀ j, bt x2 j = true → C j) → (∀ j, bt x30 j = true → C j) → ∀ j, bt x3 j = true → C j) → In 0 1 x4 → (x4 = 1 ↔ x40 = 1 ∨ ∃ k, k < n ∧ bt x2 k = true ∧ te S 96 k ∧ nx S 96 k f) → Ho (k9 S x (Int32.ofNat f) x2 x3 x4) Q) :
    ∀ m j fu, j + m = n → m < fu → ∀ x3 x4, (∀ i, bt x30 i = true → bt x3 i = true) → (∀ k, k < j → bt x2 k = true → te S 96 k → ∀ t, nx S 96 k t → bt x3 t = true) → (∀ C : Nat → Prop, clo S 96 n C → (∀ i, bt x2 i = true → C i) → (∀ i, bt x30 i = true → C i) → ∀ i, bt x3 i = true → C i) → In 0 1 x4 → (x4 = 1 ↔ x40 = 1 ∨ ∃ k, k < j ∧ bt x2 k = true ∧ te S 96 k ∧ nx S 96 k f) → Ho (f_M_circles_L19 k9 fu S x (Int32.ofNat f) x2 x3 x4 (Int32.ofNat j)) Q := by
  intro m
  induction m with
  | zero =>
    intro j fu h1 h2 x3 x4 ha hb hc h4 hd
    obtain ⟨fu, rfl⟩ : ∃ g, fu = g + 1 := ⟨fu - 1, by omega⟩
    have hj : j = n := by omega
    subst hj
    show Ho (f_M_circles_C19 _ _ _ _ _ _ _ _ _) Q
    unfold f_M_circles_C19
    refine r_gR hT hx rfl rfl (fun v4 g4 => ?_)
    refine r_aIs hT g4 rfl (p := 66) rfl rfl (by decide : In 0 8 (8 : Int32)) (by decide) (fun v5 _ e5 => ?_)
    rw [toNat8] at e5
    refine r_ifT (Int32.le_iff_toInt_le.mpr ?_) (hk x3 x4 ha hb hc h4 hd)
    rw [e5, hs8, (gl2 j (by omega)).1]
    omega
  | succ m ih =>
    intro j fu h1 h2 x3 x4 ha hb hc h4 hd
    obtain ⟨fu, rfl⟩ : ∃ g, fu = g + 1 := ⟨fu - 1, by omega⟩
    have hj : j < 12 := by omega
    have e1 : Int32.ofNat j + (1 : Int32) = Int32.ofNat (j + 1) := (Int32.ofNat_add j 1).symm
    show Ho (f_M_circles_C19 _ _ _ _ _ _ _ _ _) Q
    unfold f_M_circles_C19
    refine r_gR hT hx rfl rfl (fun v4 g4 => ?_)
    refine r_aIs hT g4 rfl (p := 66) rfl rfl (by decide : In 0 8 (8 : Int32)) (by decide) (fun v5 _ e5 => ?_)
    rw [toNat8] at e5
    refine r_ifF (fun q => by
      have := Int32.le_iff_toInt_le.mp q
      rw [e5, hs8, (gl2 j (by omega)).1] at this
      omega) ?_
    have hix : In 0 107 ((96 : Int32) + Int32.ofNat j) := ⟨by rw [(i96 hj).1]; omega, by rw [(i96 hj).1]; omega⟩
    by_cases cb : ((x2 >>> (Int32.ofNat j &&& 31)) &&& (1 : Int32)) = (1 : Int32)
    · rw [if_pos cb]
      have hbj := (bt_test x2 hj).mp cb
      refine r_gR hT hx rfl rfl (fun v6 g6 => ?_)
      refine r_aIs hT g6 rfl (p := 67) rfl rfl hix (by decide) (fun v7 _ e7 => ?_)
      rw [(i96 hj).2] at e7
      by_cases ct : In 1 4 v7
      · have hte : te S 96 j := In_cell e7 ct
        rw [isTest_t ct, b2_s]
        refine r_ifF (by decide) ?_
        refine r_gR hT hx rfl rfl (fun v10 g10 => ?_)
        refine r_aIs hT g10 rfl (p := 70) rfl rfl hix (by decide) (fun v11 _ e11 => ?_)
        refine r_gR hT hx rfl rfl (fun v12 g12 => ?_)
        refine r_aIs hT g12 rfl (p := 71) rfl rfl hix (by decide) (fun v13 _ e13 => ?_)
        have kc : In 1 4 (sI S 67 ((96 : Int32) + Int32.ofNat j).toNatClampNeg) := by rw [(i96 hj).2]; exact hte
        have r11 : In (-1) 11 v11 := SR_y hsr hix kc (by decide) e11
        have r13 : In (-1) 11 v13 := SR_n hsr hix kc (by decide) e13
        rw [(i96 hj).2] at e11 e13
        have hnx : ∀ t : Nat, nx S 96 j t ↔ v11.toInt = (t : Int) ∨ v13.toInt = (t : Int) := fun t => by
          unfold nx
          rw [e11, e13]
        have eqf : ∀ {v : Int32}, v = Int32.ofNat f ↔ v.toInt = (f : Int) := fun {v} => by
          constructor
          · intro q
            rw [q, (gl2 f (by omega)).1]
          · intro q
            exact ofNat_of q
        have hbits : ∀ t, bt ((x3 ||| by1 v11) ||| by1 v13) t = true ↔ bt x3 t = true ∨ nx S 96 j t := fun t => by
          rw [bt_or, bt_or, bt_by1 r11, bt_by1 r13, Bool.or_eq_true, Bool.or_eq_true, decide_eq_true_iff, decide_eq_true_iff, hnx, or_assoc]
        have go : ∀ y : Int32, In 0 1 y → (y = 1 ↔ x4 = 1 ∨ nx S 96 j f) → Ho (f_M_circles_B103 k9 (f_M_circles_L19 k9 fu) S x (Int32.ofNat f) x2 x3 (Int32.ofNat j) v11 v13 y) Q := by
          intro y hy hy1
          rw [ci_B103, e1]
          refine ih (j + 1) fu (by omega) (by omega) _ _ (fun i hi => (hbits i).mpr (Or.inl (ha i hi))) ?_ ?_ hy ?_
          · intro k hk' hbk hk2 t ht
            by_cases e : k = j
            · subst e
              exact (hbits t).mpr (Or.inr ht)
            · exact (hbits t).mpr (Or.inl (hb k (by omega) hbk hk2 t ht))
          · intro C hC h2C h3C i hi
            rcases (hbits i).mp hi with q | q
            · exact hc C hC h2C h3C i q
            · exact hC j (by omega) (h2C j hbj) hte i q
          · rw [hy1, hd]
            constructor
            · rintro ((q | ⟨k, k1, k2⟩) | q)
              · exact Or.inl q
              · exact Or.inr ⟨k, by omega, k2⟩
              · exact Or.inr ⟨j, by omega, hbj, hte, q⟩
            · rintro (q | ⟨k, k1, k2, k3, k4⟩)
              · exact Or.inl (Or.inl q)
              · by_cases e : k = j
                · subst e
                  exact Or.inr k4
                · exact Or.inl (Or.inr ⟨k, by omega, k2, k3, k4⟩)
        by_cases c4 : x4 = 0
        · rw [if_pos c4]
          by_cases cy : v11 = Int32.ofNat f
          · rw [if_pos cy]
            exact go 1 (by decide) ⟨fun _ => Or.inr ((hnx f).mpr (Or.inl (eqf.mp cy))), fun _ => rfl⟩
          · rw [if_neg cy]
            by_cases cn : v13 = Int32.ofNat f
            · rw [if_pos cn]
              exact go 1 (by decide) ⟨fun _ => Or.inr ((hnx f).mpr (Or.inr (eqf.mp cn))), fun _ => rfl⟩
            · rw [if_neg cn]
              refine go 0 (by decide) ⟨fun q => absurd q (by decide), fun q => ?_⟩
              rcases q with q | q
              · rw [c4] at q
                exact absurd q (by decide)
              · rcases (hnx f).mp q with q | q
                · exact absurd (eqf.mpr q) cy
                · exact absurd (eqf.mpr q) cn
        · rw [if_neg c4]
          have : x4 = 1 := by
            rcases In01 h4 with q | q
            · exact absurd q c4
            · exact q
          exact go 1 (by decide) ⟨fun _ => Or.inl this, fun _ => rfl⟩
      · rw [isTest_f ct, b2_s]
        refine r_ifT rfl ?_
        unfold f_M_circles_B137
        refine r_val ?_
        rw [e1]
        have hnt : ¬ te S 96 j := fun q => ct (In_read e7 q)
        refine ih (j + 1) fu (by omega) (by omega) _ _ ha ?_ hc h4 ?_
        · intro k hk' hbk hk2 t ht
          by_cases e : k = j
          · subst e
            exact absurd hk2 hnt
          · exact hb k (by omega) hbk hk2 t ht
        · rw [hd]
          constructor
          · rintro (q | ⟨k, k1, k2⟩)
            · exact Or.inl q
            · exact Or.inr ⟨k, by omega, k2⟩
          · rintro (q | ⟨k, k1, k2, k3, k4⟩)
            · exact Or.inl q
            · by_cases e : k = j
              · subst e
                exact absurd k3 hnt
              · exact Or.inr ⟨k, by omega, k2, k3, k4⟩
    · rw [if_neg cb]
      unfold f_M_circles_B137
      refine r_val ?_
      rw [e1]
      have hnb : ¬ bt x2 j = true := fun q => cb ((bt_test x2 hj).mpr q)
      refine ih (j + 1) fu (by omega) (by omega) _ _ ha ?_ hc h4 ?_
      · intro k hk' hbk hk2 t ht
        by_cases e : k = j
        · subst e
          exact absurd hbk hnb
        · exact hb k (by omega) hbk hk2 t ht
      · rw [hd]
        constructor
        · rintro (q | ⟨k, k1, k2⟩)
          · exact Or.inl q
          · exact Or.inr ⟨k, by omega, k2⟩
        · rintro (q | ⟨k, k1, k2, k3, k4⟩)
          · exact Or.inl q
          · by_cases e : k = j
            · subst e
              exact absurd k2 hnb
            · exact Or.inr ⟨k, by omega, k2, k3, k4⟩
theorem ci_out {T : Nat → Nat} {S : AS} {x : Option Nat} (hT : TI T S) (hx : Tx T 100 x) (hsr : SR S) {n f : Nat} (hn : n ≤ 12) (hs8 : (sI S 66 8).toInt = (n : Int)) (hf : f < 12) :
    ∀ m fu x2 x3 x4, 33 ≤ m + cb (bt x2) 32 → m < fu → (∀ j, bt x2 j = true → bt x3 j = true) → bt x3 f = true → (∀ k, k < n → bt x2 k = true → te S 96 k → ∀ t, nx S 96 k t → bt x3 t = true) → (∀ C : Nat → Prop, C f → clo S 96 n C → ∀ j, bt x3 j = true → C j) → In 0 1 x4 → (x4 = 1 ↔ ∃ k, k < n ∧ bt x2 k = true ∧ te S 96 k ∧ nx S 96 k f) → Ho (f_M_circles_L9 fu S x (Int32.ofNat f) x2 x3 x4) (fun q => q.2 = S ∧ ∃ R, circ S n f q.1 R) := by
  intro m
  induction m with
  | zero =>
    intro fu x2 x3 x4 h1
    have := cb_le (bt x2) 32
    omega
  | succ m ih =>
    intro fu x2 x3 x4 h1 h2 ha hf3 hb hc h4 hd
    obtain ⟨fu, rfl⟩ : ∃ g, fu = g + 1 := ⟨fu - 1, by omega⟩
    show Ho (f_M_circles_C9 _ _ _ _ _ _ _) _
    unfold f_M_circles_C9
    by_cases c : x3 = x2
    · rw [if_pos c]
      subst c
      refine r_z h4 (r_some ⟨rfl, fun j => bt x3 j = true, hf3, ?_, ?_, h4, hd⟩)
      · intro k hk hck hte t ht
        exact hb k hk hck hte t ht
      · intro C hC1 hC2 j hj
        exact hc C hC1 hC2 j hj
    · rw [if_neg c]
      have hlt : cb (bt x2) 32 < cb (bt x3) 32 := by
        have : ∃ i, i < 32 ∧ ¬ bt x2 i = true ∧ bt x3 i = true := by
          refine Classical.byContradiction (fun q => c (bt_ext (fun j hj => ?_)))
          by_cases e : bt x3 j = true
          · by_cases e2 : bt x2 j = true
            · rw [e, e2]
            · exact absurd ⟨j, hj, e2, e⟩ q
          · by_cases e2 : bt x2 j = true
            · exact absurd (ha j e2) e
            · rw [Bool.not_eq_true] at e e2
              rw [e, e2]
        obtain ⟨i, i1, i2, i3⟩ := this
        exact cb_lt ha i2 i3 i1
      refine ci_in hT hx hsr hn hs8 hf (x2 := x3) (x30 := x3) (x40 := x4) ?_ n 0 kr_FU (by omega) (by show n < 2000; omega) x3 x4 (fun _ q => q) (fun k hk => absurd hk (Nat.not_lt_zero _)) (fun C hC h2 h3 i hi => h3 i hi) h4 ?_
      · intro y3 y4 ya yb yc y4' yd
        refine ih fu x3 y3 y4 (by omega) (by omega) ya (ya f hf3) yb ?_ y4' ?_
        · intro C hC1 hC2 j hj
          exact yc C hC2 (fun i hi => hc C hC1 hC2 i hi) (fun i hi => hc C hC1 hC2 i hi) j hj
        · rw [yd]
          constructor
          · rintro (q | q)
            · obtain ⟨k, k1, k2, k3⟩ := hd.mp q
              exact ⟨k, k1, ha k k2, k3⟩
            · exact q
          · exact fun q => Or.inr q
      · constructor
        · exact fun q => Or.inl q
        · rintro (q | ⟨k, k1, -⟩)
          · exact q
          · exact absurd k1 (Nat.not_lt_zero _)
theorem t_circ {T : Nat → Nat} {S : AS} {x : Option Nat} (hT : TI T S) (hx : Tx T 100 x) (hsr : SR S) {n f : Nat} (hn : n ≤ 12) (hs8 : (sI S 66 8).toInt = (n : Int)) (hf : f < 12) : Ho (f_M_circles S x (Int32.ofNat f)) (fun q => q.2 = S ∧ ∃ R, circ S n f q.1 R) := by
  unfold f_M_circles
  refine r_val ?_
  refine ci_out hT hx hsr hn hs8 hf 1000 kr_FU 0 _ 0 (by omega) (by decide) (fun j h => by rw [bt_0] at h; cases h) (by rw [bt_shl hf, decide_eq_true rfl]) (fun k _ h => by rw [bt_0] at h; cases h) ?_ (by decide) ?_
  · intro C hC _ j hj
    rw [bt_shl hf, decide_eq_true_iff] at hj
    rw [hj]
    exact hC
  · constructor
    · exact fun q => absurd q (by decide)
    · rintro ⟨k, -, h, -⟩
      rw [bt_0] at h
      cases h
end
section
/-! ===== no way round by tests: a rank ===== -/
def rnk (S : AS) (b n : Nat) (ρ : Nat → Nat) : Prop := (∀ k, ρ k ≤ 12) ∧ ∀ k, k < n → te S b k → ∀ t, nx S b k t → te S b t → ρ t < ρ k
def nxin (S : AS) (b n : Nat) : Prop := ∀ k, k < n → (sI S 67 (b + k)).toInt < 5 → (sI S 70 (b + k)).toInt < (n : Int) ∧ (sI S 71 (b + k)).toInt < (n : Int)
theorem nxin_t {S : AS} {b n k t : Nat} (h : nxin S b n) (hk : k < n) (h5 : (sI S 67 (b + k)).toInt < 5) (ht : nx S b k t) : t < n := by
  obtain ⟨h1, h2⟩ := h k hk h5
  rcases ht with q | q <;> omega
theorem circ_excl {S : AS} {n f : Nat} {R1 R0 : Nat → Prop} (h1 : circ S n f 1 R1) (h0 : circ S n f 0 R0) : False := by
  obtain ⟨a1, a2, a3, a4, a5⟩ := h1
  obtain ⟨b1, b2, b3, b4, b5⟩ := h0
  obtain ⟨k, k1, k2, k3, k4⟩ := a5.mp rfl
  have : (0 : Int32) = 1 := b5.mpr ⟨k, k1, a3 R0 b1 b2 k k2, k3, k4⟩
  exact absurd this (by decide)
theorem rank_no {S : AS} {n f : Nat} {b : Int32} {R : Nat → Prop} {ρ : Nat → Nat} (hr : rnk S 96 n ρ) (hf : te S 96 f) (h : circ S n f b R) : b = 0 := by
  obtain ⟨a1, a2, a3, a4, a5⟩ := h
  rcases In01 a4 with q | q
  · exact q
  · obtain ⟨k, k1, k2, k3, k4⟩ := a5.mp q
    have hC := a3 (fun j => ¬ te S 96 j ∨ j = f ∨ ρ j < ρ f) (Or.inr (Or.inl rfl)) (fun j j1 j2 j3 t ht => by
      by_cases c : te S 96 t
      · have := hr.2 j j1 j3 t ht c
        rcases j2 with j2 | j2 | j2
        · exact absurd j3 j2
        · subst j2
          exact Or.inr (Or.inr this)
        · exact Or.inr (Or.inr (by omega))
      · exact Or.inl c) k k2
    have := hr.2 k k1 k3 f k4 hf
    rcases hC with c | c | c
    · exact absurd k3 c
    · subst c
      omega
    · omega
theorem rank_of {S : AS} {n : Nat} (hn : n ≤ 12) (hx : nxin S 96 n) (h : ∀ k, k < n → te S 96 k → ∃ R, circ S n k 0 R) : ∃ ρ, rnk S 96 n ρ := by
  have hc : ∀ k, ∃ R : Nat → Prop, k < n → te S 96 k → circ S n k 0 R := fun k => by
    by_cases c : k < n ∧ te S 96 k
    · obtain ⟨R, hR⟩ := h k c.1 c.2
      exact ⟨R, fun _ _ => hR⟩
    · exact ⟨fun _ => True, fun a b => absurd ⟨a, b⟩ c⟩
  obtain ⟨R, hR⟩ := Classical.axiomOfChoice hc
  obtain ⟨G, hG⟩ : ∃ G : Nat → Nat → Bool, ∀ k j, G k j = true ↔ R k j := by
    have h1 : ∀ k : Nat, ∃ g : Nat → Bool, ∀ j, g j = true ↔ R k j := fun k => by
      have h2 : ∀ j : Nat, ∃ b : Bool, b = true ↔ R k j := fun j => by
        by_cases c : R k j
        · exact ⟨true, fun _ => c, fun _ => rfl⟩
        · exact ⟨false, fun q => (by cases q), fun q => absurd q c⟩
      exact Classical.axiomOfChoice h2
    exact Classical.axiomOfChoice h1
  refine ⟨fun k => cb (G k) 12, fun k => cb_le _ 12, ?_⟩
  intro k hk hte t ht htt
  have hk5 : (sI S 67 (96 + k)).toInt < 5 := by have := hte.2; omega
  have htn := nxin_t hx hk hk5 ht
  obtain ⟨a1, a2, a3, a4, a5⟩ := hR k hk hte
  obtain ⟨b1, b2, b3, b4, b5⟩ := hR t htn htt
  have hsub : ∀ j, R t j → R k j := fun j hj => b3 (R k) (a2 k hk a1 hte t ht) a2 j hj
  have hnk : ¬ ∃ j, j < n ∧ R k j ∧ te S 96 j ∧ nx S 96 j k := fun q => absurd (a5.mpr q) (by decide)
  have hkt : ¬ R t k := by
    intro q
    have htk : t ≠ k := by
      rintro rfl
      exact hnk ⟨t, htn, a1, hte, ht⟩
    have := b3 (fun j => R t j ∧ j ≠ k) ⟨b1, htk⟩ (fun j j1 j2 j3 u hu => ⟨b2 j j1 j2.1 j3 u hu, fun e => hnk ⟨j, j1, hsub j j2.1, j3, by rw [← e]; exact hu⟩⟩) k q
    exact this.2 rfl
  exact cb_lt (f := G t) (g := G k) (i := k) (fun j hj => (hG k j).mpr (hsub j ((hG t j).mp hj))) (fun q => hkt ((hG t k).mp q)) ((hG k k).mpr a1) (by omega)
/-! ===== publish ===== -/
def PUB (S : AS) (n : Nat) : Prop := 0 < n ∧ (sI S 57 9).toInt < 8 ∧ nxin S 96 n ∧ ∃ ρ, rnk S 96 n ρ
theorem rd8 {β : Type} {T : Nat → Nat} {S : AS} {x : Option Nat} {n : Nat} {F : Int32 → Option β} {Q : β → Prop} (hT : TI T S) (hx : Tx T 100 x) (hs8 : (sI S 66 8).toInt = (n : Int)) (h : Ho (F (Int32.ofNat n)) Q) : Ho ((gR S 23 10 x).bind fun v4 => (aI S 40 v4 (8 : Int32)).bind F) Q := by
  refine r_gR hT hx rfl rfl (fun v4 g4 => ?_)
  refine r_aIs hT g4 rfl (p := 66) rfl rfl (by decide : In 0 8 (8 : Int32)) (by decide) (fun v5 _ e5 => ?_)
  rw [toNat8] at e5
  rw [e5, ofNat_of hs8]
  exact h
theorem le_n {a b : Nat} (ha : a < 301) (hb : b < 301) : (Int32.ofNat a ≤ Int32.ofNat b) ↔ a ≤ b := by
  rw [Int32.le_iff_toInt_le, (gl2 a ha).1, (gl2 b hb).1]
  omega
theorem pb_L103 {T : Nat → Nat} {S : AS} {x : Option Nat} (hT : TI T S) (hx : Tx T 100 x) (hsr : SR S) {n : Nat} (hn : n ≤ 12) (hs8 : (sI S 66 8).toInt = (n : Int)) {F1 : Prop} {Q : Int32 × AS → Prop}
    (hk : ∀ y, In 0 1 y → (y = 1 ↔ F1 ∧ ∀ k, k < n → te S 96 k → ∃ R, circ S n k 0 R) → Ho (f_M_publish_B153 S x y) Q) :
    ∀ m j fu, j + m = n → m < fu → ∀ y, In 0 1 y → (y = 1 ↔ F1 ∧ ∀ k, k < j → te S 96 k → ∃ R, circ S n k 0 R) → Ho (f_M_publish_L103 fu S x y (Int32.ofNat j)) Q := by
  intro m
  induction m with
  | zero =>
    intro j fu h1 h2 y hy hd
    obtain ⟨fu, rfl⟩ : ∃ g, fu = g + 1 := ⟨fu - 1, by omega⟩
    have hj : j = n := by omega
    subst hj
    show Ho (f_M_publish_C103 _ _ _ _ _) Q
    unfold f_M_publish_C103
    refine rd8 hT hx hs8 (r_ifT (Int32.le_refl _) (hk y hy hd))
  | succ m ih =>
    intro j fu h1 h2 y hy hd
    obtain ⟨fu, rfl⟩ : ∃ g, fu = g + 1 := ⟨fu - 1, by omega⟩
    have hj : j < 12 := by omega
    have e1 : Int32.ofNat j + (1 : Int32) = Int32.ofNat (j + 1) := (Int32.ofNat_add j 1).symm
    have hix : In 0 107 ((96 : Int32) + Int32.ofNat j) := ⟨by rw [(i96 hj).1]; omega, by rw [(i96 hj).1]; omega⟩
    show Ho (f_M_publish_C103 _ _ _ _ _) Q
    unfold f_M_publish_C103
    refine rd8 hT hx hs8 (r_ifF (fun q => by have := (le_n (by omega) (by omega)).mp q; omega) ?_)
    by_cases c : y = 0
    · rw [if_pos c]
      refine hk y hy ⟨fun q => absurd (c.symm.trans q) (by decide), fun q => ?_⟩
      exact hd.mpr ⟨q.1, fun k hk' => q.2 k (by omega)⟩
    · rw [if_neg c]
      have y1 : y = 1 := by
        rcases In01 hy with q | q
        · exact absurd q c
        · exact q
      have hd1 := hd.mp y1
      refine r_gR hT hx rfl rfl (fun v6 g6 => ?_)
      refine r_aIs hT g6 rfl (p := 67) rfl rfl hix (by decide) (fun v7 _ e7 => ?_)
      rw [(i96 hj).2] at e7
      by_cases ct : In 1 4 v7
      · have hte : te S 96 j := In_cell e7 ct
        rw [isTest_t ct, b2_s]
        refine r_ifF (by decide) ?_
        refine r_rv hT hx rfl ?_
        refine r_P (P := fun b => ∃ R, circ S n j b R) (t_circ hT hx hsr hn hs8 hj) (fun b hb => ?_)
        obtain ⟨R, hR⟩ := hb
        by_cases cb : b = 0
        · rw [if_pos cb]
          subst cb
          unfold f_M_publish_B141 f_M_publish_B146
          refine r_val ?_
          rw [e1]
          refine ih (j + 1) fu (by omega) (by omega) 1 (by decide) ⟨fun _ => ⟨hd1.1, fun k hk' hkt => ?_⟩, fun _ => rfl⟩
          by_cases e : k = j
          · subst e
            exact ⟨R, hR⟩
          · exact hd1.2 k (by omega) hkt
        · rw [if_neg cb]
          unfold f_M_publish_B146
          refine r_val ?_
          rw [e1]
          refine ih (j + 1) fu (by omega) (by omega) 0 (by decide) ⟨fun q => absurd q (by decide), fun q => ?_⟩
          obtain ⟨R0, hR0⟩ := q.2 j (by omega) hte
          have b1 : b = 1 := by
            rcases In01 hR.2.2.2.1 with q | q
            · exact absurd q cb
            · exact q
          subst b1
          exact absurd (circ_excl hR hR0) id
      · rw [isTest_f ct, b2_s]
        refine r_ifT rfl ?_
        unfold f_M_publish_B141 f_M_publish_B146
        refine r_val ?_
        rw [e1]
        refine ih (j + 1) fu (by omega) (by omega) 1 (by decide) ⟨fun _ => ⟨hd1.1, fun k hk' hkt => ?_⟩, fun _ => rfl⟩
        by_cases e : k = j
        · subst e
          exact absurd (In_read e7 hkt) ct
        · exact hd1.2 k (by omega) hkt
theorem pb_L27 {T : Nat → Nat} {S : AS} {x : Option Nat} (hT : TI T S) (hx : Tx T 100 x) (hsr : SR S) {n : Nat} (hn : n ≤ 12) (hs8 : (sI S 66 8).toInt = (n : Int)) {F0 : Prop} {Q : Int32 × AS → Prop}
    (hk : ∀ y, In 0 1 y → (y = 1 ↔ (F0 ∧ nxin S 96 n) ∧ ∀ k, k < n → te S 96 k → ∃ R, circ S n k 0 R) → Ho (f_M_publish_B153 S x y) Q) :
    ∀ m j fu, j + m = n → m < fu → ∀ y, In 0 1 y → (y = 1 ↔ F0 ∧ ∀ k, k < j → (sI S 67 (96 + k)).toInt < 5 → (sI S 70 (96 + k)).toInt < (n : Int) ∧ (sI S 71 (96 + k)).toInt < (n : Int)) → Ho (f_M_publish_L27 fu S x y (Int32.ofNat j)) Q := by
  intro m
  induction m with
  | zero =>
    intro j fu h1 h2 y hy hd
    obtain ⟨fu, rfl⟩ : ∃ g, fu = g + 1 := ⟨fu - 1, by omega⟩
    have hj : j = n := by omega
    subst hj
    show Ho (f_M_publish_C27 _ _ _ _ _) Q
    unfold f_M_publish_C27
    refine rd8 hT hx hs8 (r_ifT (Int32.le_refl _) ?_)
    refine pb_L103 hT hx hsr hn hs8 (F1 := F0 ∧ nxin S 96 j) hk j 0 kr_FU (by omega) (by show j < 2000; omega) y hy ?_
    rw [hd]
    exact ⟨fun q => ⟨q, fun k hk => absurd hk (Nat.not_lt_zero _)⟩, fun q => q.1⟩
  | succ m ih =>
    intro j fu h1 h2 y hy hd
    obtain ⟨fu, rfl⟩ : ∃ g, fu = g + 1 := ⟨fu - 1, by omega⟩
    have hj : j < 12 := by omega
    have e1 : Int32.ofNat j + (1 : Int32) = Int32.ofNat (j + 1) := (Int32.ofNat_add j 1).symm
    have hix : In 0 107 ((96 : Int32) + Int32.ofNat j) := ⟨by rw [(i96 hj).1]; omega, by rw [(i96 hj).1]; omega⟩
    show Ho (f_M_publish_C27 _ _ _ _ _) Q
    unfold f_M_publish_C27
    refine rd8 hT hx hs8 (r_ifF (fun q => by have := (le_n (by omega) (by omega)).mp q; omega) ?_)
    refine r_val ?_
    have no : ∀ y', In 0 1 y' → (y' = 1 ↔ F0 ∧ ∀ k, k < j + 1 → (sI S 67 (96 + k)).toInt < 5 → (sI S 70 (96 + k)).toInt < (n : Int) ∧ (sI S 71 (96 + k)).toInt < (n : Int)) → Ho (f_M_publish_B94 (f_M_publish_L27 fu) S x (Int32.ofNat j) y') Q := by
      intro y' hy' hd'
      unfold f_M_publish_B94
      refine r_val ?_
      rw [e1]
      exact ih (j + 1) fu (by omega) (by omega) y' hy' hd'
    by_cases c : y = 0
    · rw [if_pos c]
      unfold f_M_publish_B93
      refine no 0 (by decide) ⟨fun q => absurd q (by decide), fun q => ?_⟩
      have := hd.mpr ⟨q.1, fun k hk' => q.2 k (by omega)⟩
      exact absurd (c.symm.trans this) (by decide)
    · rw [if_neg c]
      have y1 : y = 1 := by
        rcases In01 hy with q | q
        · exact absurd q c
        · exact q
      have hd1 := hd.mp y1
      refine r_gR hT hx rfl rfl (fun v6 g6 => ?_)
      refine r_aIs hT g6 rfl (p := 67) rfl rfl hix (by decide) (fun v7 _ e7 => ?_)
      rw [(i96 hj).2] at e7
      have yes : ((sI S 67 (96 + j)).toInt < 5 → (sI S 70 (96 + j)).toInt < (n : Int) ∧ (sI S 71 (96 + j)).toInt < (n : Int)) → Ho (f_M_publish_B89 (f_M_publish_L27 fu) S x (Int32.ofNat j)) Q := by
        intro hj'
        unfold f_M_publish_B89
        refine no 1 (by decide) ⟨fun _ => ⟨hd1.1, fun k hk' => ?_⟩, fun _ => rfl⟩
        by_cases e : k = j
        · subst e
          exact hj'
        · exact hd1.2 k (by omega)
      have bad : ¬ ((sI S 67 (96 + j)).toInt < 5 → (sI S 70 (96 + j)).toInt < (n : Int) ∧ (sI S 71 (96 + j)).toInt < (n : Int)) → Ho (f_M_publish_B93 (f_M_publish_L27 fu) S x (Int32.ofNat j)) Q := by
        intro hj'
        unfold f_M_publish_B93
        exact no 0 (by decide) ⟨fun q => absurd q (by decide), fun q => absurd (q.2 j (by omega)) hj'⟩
      refine r_if (fun c5 => yes (fun q => ?_)) (fun c5 => ?_)
      · have := Int32.le_iff_toInt_le.mp c5
        rw [e7, show (5 : Int32).toInt = 5 from by decide] at this
        omega
      · have h5 : (sI S 67 (96 + j)).toInt < 5 := by
          have := Int32.lt_iff_toInt_lt.mp (Int32.not_le.mp c5)
          rw [e7, show (5 : Int32).toInt = 5 from by decide] at this
          exact this
        refine r_gR hT hx rfl rfl (fun v10 g10 => ?_)
        refine r_aIs hT g10 rfl (p := 70) rfl rfl hix (by decide) (fun v11 _ e11 => ?_)
        rw [(i96 hj).2] at e11
        refine rd8 hT hx hs8 (r_if (fun cy => bad (fun q => ?_)) (fun cy => ?_))
        · have := Int32.le_iff_toInt_le.mp cy
          rw [e11, (gl2 n (by omega)).1] at this
          have := (q h5).1
          omega
        · have hy' : (sI S 70 (96 + j)).toInt < (n : Int) := by
            have := Int32.lt_iff_toInt_lt.mp (Int32.not_le.mp cy)
            rw [e11, (gl2 n (by omega)).1] at this
            exact this
          refine r_gR hT hx rfl rfl (fun v12 g12 => ?_)
          refine r_aIs hT g12 rfl (p := 71) rfl rfl hix (by decide) (fun v13 _ e13 => ?_)
          rw [(i96 hj).2] at e13
          refine rd8 hT hx hs8 (r_if (fun cn => bad (fun q => ?_)) (fun cn => yes (fun _ => ⟨hy', ?_⟩)))
          · have := Int32.le_iff_toInt_le.mp cn
            rw [e13, (gl2 n (by omega)).1] at this
            have := (q h5).2
            omega
          · have := Int32.lt_iff_toInt_lt.mp (Int32.not_le.mp cn)
            rw [e13, (gl2 n (by omega)).1] at this
            exact this
end
section
/-! ===== publish: the rows are copied ===== -/
theorem mulv : ∀ v, v < 8 → ∀ j, j < 12 → (12 : Int32) * Int32.ofNat v + Int32.ofNat j = Int32.ofNat (12 * v + j) := by decide +kernel
theorem ri {n : Nat} (h : n < 108) : In 0 107 (Int32.ofNat n) ∧ (Int32.ofNat n).toNatClampNeg = n := ⟨⟨by rw [(gl2 n (by omega)).1]; omega, by rw [(gl2 n (by omega)).1]; omega⟩, (gl2 n (by omega)).2⟩
theorem cp_step {β : Type} {T0 T : Nat → Nat} {w w' : List Nat} {S0 S : AS} {c s fj : Nat} (τ p : Nat) {x : Option Nat} {v j : Nat} {F : AS → Option β} {Q : β → Prop} (hR : Rl T0 w S0 c s T S) (hx : Tx T 100 x) (hf : ft 100 fj = some τ) (hk : kd τ = 40) (hs : sg τ = some p) (hl : ln τ = some 108) (hz : ∀ j, rf τ j = none) (hnl : ¬ (20 ≤ τ ∧ τ < 27)) (hp : ∀ j, ¬ phc τ j) (hw : ∀ x ∈ cl τ 0 :: w, x ∈ w') (hv : v < 8) (hj : j < 12) (hra : ∀ n lo hi, ra τ = some (n, lo, hi) → n = 108) (h : ∀ S', Rl T0 w' S0 c s T S' → S' = wI S p (12 * v + j) (sI S p (96 + j)) → Ho (F S') Q) :
    Ho ((gR S 23 fj x).bind fun v17 => (gR S 23 fj x).bind fun v18 => (aI S 40 v18 ((96 : Int32) + Int32.ofNat j)).bind fun v19 => (bI S v17 (Int32.ofNat (12 * v + j)) v19).bind F) Q := by
  have hix : In 0 107 ((96 : Int32) + Int32.ofNat j) := ⟨by rw [(i96 hj).1]; omega, by rw [(i96 hj).1]; omega⟩
  obtain ⟨r1, r2⟩ := ri (n := 12 * v + j) (by omega)
  refine r_gR hR.1 hx rfl hf (fun v17 g17 => ?_)
  refine r_gR hR.1 hx rfl hf (fun v18 g18 => ?_)
  refine r_aIs hR.1 g18 hk hs hl hix (by decide) (fun v19 h19 e19 => ?_)
  rw [(i96 hj).2] at e19
  refine r_bIs hR g17 hk hs hl r1 (by decide) (fun n lo hi q => h19 lo hi (by rw [← hra n lo hi q]; exact q)) hz hnl hw hp (fun S' g e => h S' g ?_)
  rw [e, r2, e19]
def CP (Sb S : AS) (v j : Nat) : Prop := ∀ p i, sI S p i = if (67 ≤ p ∧ p ≤ 71) ∧ 12 * v ≤ i ∧ i < 12 * v + j then sI Sb p (96 + (i - 12 * v)) else sI Sb p i
def kw_pub : List Nat := [10009, 11000, 11100, 11200, 11300, 11400, 11500]
/-- what publish leaves, said cell by cell -/
def PUBS (Sb S : AS) (v n : Nat) : Prop := ∀ p i, sI S p i = if p = 57 ∧ i = 9 then Int32.ofNat (v + 1) else if p = 66 ∧ i = 8 then 0 else if p = 66 ∧ i = v then Int32.ofNat n else if (67 ≤ p ∧ p ≤ 71) ∧ 12 * v ≤ i ∧ i < 12 * v + n then sI Sb p (96 + (i - 12 * v)) else sI Sb p i
theorem sI_if (S : AS) (k j : Nat) (v : Int32) (a b : Nat) : sI (wI S k j v) a b = if a = k ∧ b = j then v else sI S a b := rfl
theorem pb_L165 {T : Nat → Nat} {S0 Sb : AS} {w : List Nat} {x : Option Nat} (hx : Tx T 100 x) {n v : Nat} (hn : n ≤ 12) (hv : v < 8) (hs8 : (sI Sb 66 8).toInt = (n : Int)) (hvv : sI Sb 57 9 = Int32.ofNat v) (hw : ∀ z ∈ kw_pub, z ∈ w) {Q : Int32 × AS → Prop}
    (hQ : ∀ S', Rl T w S0 0 0 T S' → PUBS Sb S' v n → Q (Int32.ofNat v, S')) :
    ∀ m j fu, j + m = n → m < fu → ∀ S, Rl T w S0 0 0 T S → CP Sb S v j → Ho (f_M_publish_L165 fu S x (Int32.ofNat j)) Q := by
  intro m
  induction m with
  | zero =>
    intro j fu h1 h2 S hR hc
    obtain ⟨fu, rfl⟩ : ∃ g, fu = g + 1 := ⟨fu - 1, by omega⟩
    have hj : j = n := by omega
    subst hj
    have c66 : ∀ i, sI S 66 i = sI Sb 66 i := fun i => (hc 66 i).trans (if_neg (by omega))
    have c57 : ∀ i, sI S 57 i = sI Sb 57 i := fun i => (hc 57 i).trans (if_neg (by omega))
    have e9 : sI S 57 9 = Int32.ofNat v := (c57 9).trans hvv
    show Ho (f_M_publish_C165 _ _ _ _) Q
    unfold f_M_publish_C165
    refine rd8 hR.1 hx (by rw [c66]; exact hs8) (r_ifT (Int32.le_refl _) ?_)
    refine r_gR hR.1 hx rfl rfl (fun v5 g5 => ?_)
    refine r_gIs hR.1 hx rfl (p := 57) rfl (fun v6 _ e6 => ?_)
    have e6' : v6 = Int32.ofNat v := e6.trans e9
    refine rd8 hR.1 hx (by rw [c66]; exact hs8) ?_
    have r6 : In 0 8 v6 := by rw [e6']; exact ⟨by rw [(gl2 v (by omega)).1]; omega, by rw [(gl2 v (by omega)).1]; omega⟩
    refine r_bIs (w' := w) (p := 66) hR g5 rfl rfl rfl r6 (by decide) (fun _ _ _ q => by cases q; exact ⟨by rw [(gl2 j (by omega)).1]; omega, by rw [(gl2 j (by omega)).1]; omega⟩) (fun _ => rfl) (by decide) (fun z hz => by
      rcases List.mem_cons.mp hz with hz | hz
      · rw [hz]; exact hw _ (by decide)
      · exact hz) (fun _ => by unfold phc; omega) (fun S2 R2 E2 => ?_)
    rw [e6', (gl2 v (by omega)).2] at E2
    refine r_gR R2.1 hx rfl rfl (fun v10 g10 => ?_)
    refine r_bIs (w' := w) (p := 66) R2 g10 rfl rfl rfl (by decide : In 0 8 (8 : Int32)) (by decide) (fun _ _ _ q => by cases q; decide) (fun _ => rfl) (by decide) (fun z hz => by
      rcases List.mem_cons.mp hz with hz | hz
      · rw [hz]; exact hw _ (by decide)
      · exact hz) (fun _ => by unfold phc; omega) (fun S3 R3 E3 => ?_)
    rw [toNat8] at E3
    refine r_gIs R3.1 hx rfl (p := 57) rfl (fun v12 _ e12 => ?_)
    have e12' : v12 = Int32.ofNat v := by
      rw [e12, E3, E2, ti_sI_ne (by omega), ti_sI_ne (by omega)]
      exact e9
    have e13 : v12 + (1 : Int32) = Int32.ofNat (v + 1) := by
      rw [e12']
      exact (Int32.ofNat_add v 1).symm
    rw [e13]
    refine r_pIs (w' := w) R3 hx (fun _ _ q => by cases q; exact ⟨by rw [(gl2 (v + 1) (by omega)).1]; omega, by rw [(gl2 (v + 1) (by omega)).1]; omega⟩) (fun z hz => by
      rcases List.mem_cons.mp hz with hz | hz
      · rw [hz]; exact hw _ (by decide)
      · exact hz) (by unfold phc; decide) (fun S4 R4 E4 => ?_)
    refine r_gIs R4.1 hx rfl (p := 57) rfl (fun v14 _ e14 => ?_)
    have e15 : v14 - (1 : Int32) = Int32.ofNat v := by
      rw [e14, E4, ti_sI_eq]
      have : ∀ v, v < 8 → Int32.ofNat (v + 1) - (1 : Int32) = Int32.ofNat v := by decide +kernel
      exact this v hv
    rw [e15]
    refine r_some (hQ S4 R4 ?_)
    intro p i
    rw [E4, sI_if, E3, sI_if, E2, sI_if, hc]
  | succ m ih =>
    intro j fu h1 h2 S hR hc
    obtain ⟨fu, rfl⟩ : ∃ g, fu = g + 1 := ⟨fu - 1, by omega⟩
    have hj : j < 12 := by omega
    have e1 : Int32.ofNat j + (1 : Int32) = Int32.ofNat (j + 1) := (Int32.ofNat_add j 1).symm
    have c66 : ∀ i, sI S 66 i = sI Sb 66 i := fun i => (hc 66 i).trans (if_neg (by omega))
    have c57 : ∀ i, sI S 57 i = sI Sb 57 i := fun i => (hc 57 i).trans (if_neg (by omega))
    have e9 : sI S 57 9 = Int32.ofNat v := (c57 9).trans hvv
    show Ho (f_M_publish_C165 _ _ _ _) Q
    unfold f_M_publish_C165
    refine rd8 hR.1 hx (by rw [c66]; exact hs8) (r_ifF (fun q => by have := (le_n (by omega) (by omega)).mp q; omega) ?_)
    refine r_gIs hR.1 hx rfl (p := 57) rfl (fun v15 _ e15 => ?_)
    refine r_val ?_
    rw [e15, e9, mulv v hv j hj]
    have hin : ∀ (τ : Nat), cl τ 0 ∈ kw_pub → ∀ z ∈ cl τ 0 :: w, z ∈ w := fun τ hτ z hz => by
      rcases List.mem_cons.mp hz with hz | hz
      · rw [hz]; exact hw _ hτ
      · exact hz
    refine cp_step 111 67 hR hx rfl rfl rfl rfl (fun _ => rfl) (by decide) (fun _ => by unfold phc; omega) (hin 111 (by decide)) hv hj (fun _ _ _ q => by cases q; rfl) (fun S1 R1 E1 => ?_)
    refine cp_step 112 68 R1 hx rfl rfl rfl rfl (fun _ => rfl) (by decide) (fun _ => by unfold phc; omega) (hin 112 (by decide)) hv hj (fun _ _ _ q => by cases q; rfl) (fun S2 R2 E2 => ?_)
    refine cp_step 113 69 R2 hx rfl rfl rfl rfl (fun _ => rfl) (by decide) (fun _ => by unfold phc; omega) (hin 113 (by decide)) hv hj (fun _ _ _ q => by cases q) (fun S3 R3 E3 => ?_)
    refine cp_step 114 70 R3 hx rfl rfl rfl rfl (fun _ => rfl) (by decide) (fun _ => by unfold phc; omega) (hin 114 (by decide)) hv hj (fun _ _ _ q => by cases q) (fun S4 R4 E4 => ?_)
    refine cp_step 115 71 R4 hx rfl rfl rfl rfl (fun _ => rfl) (by decide) (fun _ => by unfold phc; omega) (hin 115 (by decide)) hv hj (fun _ _ _ q => by cases q) (fun S5 R5 E5 => ?_)
    refine r_val ?_
    rw [e1]
    refine ih (j + 1) fu (by omega) (by omega) S5 R5 ?_
    have b1 : sI S1 68 (96 + j) = sI S 68 (96 + j) := by rw [E1, ti_sI_ne (by omega)]
    have b2 : sI S2 69 (96 + j) = sI S 69 (96 + j) := by rw [E2, ti_sI_ne (by omega), E1, ti_sI_ne (by omega)]
    have b3 : sI S3 70 (96 + j) = sI S 70 (96 + j) := by rw [E3, ti_sI_ne (by omega), E2, ti_sI_ne (by omega), E1, ti_sI_ne (by omega)]
    have b4 : sI S4 71 (96 + j) = sI S 71 (96 + j) := by rw [E4, ti_sI_ne (by omega), E3, ti_sI_ne (by omega), E2, ti_sI_ne (by omega), E1, ti_sI_ne (by omega)]
    rw [b1] at E2
    rw [b2] at E3
    rw [b3] at E4
    rw [b4] at E5
    have q1 : ∀ p i, sI S5 p i = if (67 ≤ p ∧ p ≤ 71) ∧ i = 12 * v + j then sI S p (96 + j) else sI S p i := by
      intro p i
      rw [E5, sI_if, E4, sI_if, E3, sI_if, E2, sI_if, E1, sI_if]
      by_cases ci : i = 12 * v + j
      · by_cases c1 : p = 71
        · rw [if_pos ⟨c1, ci⟩, if_pos ⟨by omega, ci⟩, c1]
        · by_cases c2 : p = 70
          · rw [if_neg (by omega), if_pos ⟨c2, ci⟩, if_pos ⟨by omega, ci⟩, c2]
          · by_cases c3 : p = 69
            · rw [if_neg (by omega), if_neg (by omega), if_pos ⟨c3, ci⟩, if_pos ⟨by omega, ci⟩, c3]
            · by_cases c4 : p = 68
              · rw [if_neg (by omega), if_neg (by omega), if_neg (by omega), if_pos ⟨c4, ci⟩, if_pos ⟨by omega, ci⟩, c4]
              · by_cases c5 : p = 67
                · rw [if_neg (by omega), if_neg (by omega), if_neg (by omega), if_neg (by omega), if_pos ⟨c5, ci⟩, if_pos ⟨by omega, ci⟩, c5]
                · rw [if_neg (by omega), if_neg (by omega), if_neg (by omega), if_neg (by omega), if_neg (by omega), if_neg (by omega)]
      · rw [if_neg (by omega), if_neg (by omega), if_neg (by omega), if_neg (by omega), if_neg (by omega), if_neg (by omega)]
    intro p i
    rw [q1]
    by_cases ci : (67 ≤ p ∧ p ≤ 71) ∧ i = 12 * v + j
    · rw [if_pos ci, hc, if_neg (by omega), if_pos (by omega)]
      rw [ci.2]
      congr 1
      omega
    · rw [if_neg ci, hc]
      by_cases cd : (67 ≤ p ∧ p ≤ 71) ∧ 12 * v ≤ i ∧ i < 12 * v + j
      · rw [if_pos cd, if_pos (by omega)]
      · rw [if_neg cd, if_neg (by omega)]
/-- what publish answers and leaves -/
theorem t_M_publish {T : Nat → Nat} {S : AS} {x : Option Nat} (hT : TI T S) (hx : Tx T 100 x) (hsr : SR S) {n v : Nat} (hn : n ≤ 12) (hs8 : (sI S 66 8).toInt = (n : Int)) (hv : sI S 57 9 = Int32.ofNat v) (hv8 : v ≤ 8) :
    Ho (f_M_publish S x) (fun q => Rl T (10082 :: kw_pub) S 0 0 T q.2 ∧ ((PUB S n ∧ q.1 = Int32.ofNat v ∧ PUBS (wI S 57 82 0) q.2 v n) ∨ (¬ PUB S n ∧ q = (0, wI S 57 82 1)))) := by
  have g0 : Rl T (10082 :: kw_pub) S 0 0 T S := Rlweak (Rlrf hT) (fun z hz => by cases hz) (Nat.le_refl _) (Nat.le_refl _)
  have hv9 : (sI S 57 9).toInt = (v : Int) := by rw [hv, (gl2 v (by omega)).1]
  have fin : ∀ (F0 : Prop), (F0 ↔ 0 < n ∧ v < 8) → ∀ y, In 0 1 y → (y = 1 ↔ (F0 ∧ nxin S 96 n) ∧ ∀ k, k < n → te S 96 k → ∃ R, circ S n k 0 R) → Ho (f_M_publish_B153 S x y) (fun q => Rl T (10082 :: kw_pub) S 0 0 T q.2 ∧ ((PUB S n ∧ q.1 = Int32.ofNat v ∧ PUBS (wI S 57 82 0) q.2 v n) ∨ (¬ PUB S n ∧ q = (0, wI S 57 82 1)))) := by
    intro F0 hF y hy hd
    have hP : y = 1 ↔ PUB S n := by
      rw [hd]
      unfold PUB
      constructor
      · rintro ⟨⟨a, b⟩, c⟩
        exact ⟨(hF.mp a).1, by rw [hv9]; have := (hF.mp a).2; omega, b, rank_of hn b c⟩
      · rintro ⟨a, b, c, ρ, hρ⟩
        rw [hv9] at b
        refine ⟨⟨hF.mpr ⟨a, by omega⟩, c⟩, fun k hk hkt => ?_⟩
        obtain ⟨⟨b', S'⟩, -, -, R, hR⟩ := t_circ hT hx hsr hn hs8 (f := k) (by omega)
        have := rank_no hρ hkt hR
        exact ⟨R, by rw [← this]; exact hR⟩
    unfold f_M_publish_B153
    refine r_rv hT hx rfl ?_
    unfold f_M_may
    by_cases c : y = 0
    · rw [if_pos c]
      have hnp : ¬ PUB S n := fun q => by
        have := hP.mpr q
        rw [c] at this
        exact absurd this (by decide)
      refine r_b2 (P := fun q => q.1 = 0 ∧ q.2 = wI S 57 82 1 ∧ Rl T (10082 :: kw_pub) S 0 0 T q.2) (r_thr (w' := 10082 :: kw_pub) g0 hx (by decide +kernel) (fun g => r_z hy (r_some ⟨c, rfl, g⟩))) (fun v' S' hh => ?_)
      obtain ⟨e1, e2, g⟩ := hh
      cases e1
      cases e2
      exact r_ifT rfl (r_some ⟨g, Or.inr ⟨hnp, rfl⟩⟩)
    · rw [if_neg c]
      have y1 : y = 1 := by
        rcases In01 hy with q | q
        · exact absurd q c
        · exact q
      have hp := hP.mp y1
      refine r_b2 (P := fun q => q.1 = 1 ∧ q.2 = wI S 57 82 0 ∧ Rl T (10082 :: kw_pub) S 0 0 T q.2) (r_thr (w' := 10082 :: kw_pub) g0 hx (by decide +kernel) (fun g => r_z hy (r_some ⟨y1, rfl, g⟩))) (fun v' S' hh => ?_)
      obtain ⟨e1, e2, g⟩ := hh
      cases e1
      cases e2
      refine r_ifF (by decide) ?_
      have hv7 : v < 8 := by
        have := hp.2.1
        omega
      refine pb_L165 (Sb := wI S 57 82 0) hx hn hv7 (by rw [ti_sI_ne (by omega)]; exact hs8) (by rw [ti_sI_ne (by omega)]; exact hv) (fun z hz => List.mem_cons_of_mem _ hz) (fun S' g' hp' => ⟨g', Or.inl ⟨hp, rfl, hp'⟩⟩) n 0 kr_FU (by omega) (by show n < 2000; omega) _ g (fun p i => ?_)
      rw [if_neg (by omega)]
      rfl
  unfold f_M_publish
  refine rd8 hT hx hs8 ?_
  have st : ∀ y, In 0 1 y → (y = 1 ↔ 0 < n ∧ v < 8) → Ho (f_M_publish_B24 S x y) (fun q => Rl T (10082 :: kw_pub) S 0 0 T q.2 ∧ ((PUB S n ∧ q.1 = Int32.ofNat v ∧ PUBS (wI S 57 82 0) q.2 v n) ∨ (¬ PUB S n ∧ q = (0, wI S 57 82 1)))) := by
    intro y hy hd
    unfold f_M_publish_B24
    exact pb_L27 hT hx hsr hn hs8 (F0 := 0 < n ∧ v < 8) (fin _ Iff.rfl) n 0 kr_FU (by omega) (by show n < 2000; omega) y hy (by rw [hd]; exact ⟨fun q => ⟨q, fun k hk => absurd hk (Nat.not_lt_zero _)⟩, fun q => q.1⟩)
  by_cases c0 : Int32.ofNat n ≤ 0
  · rw [if_pos c0]
    unfold f_M_publish_B23
    have : n = 0 := by
      have := Int32.le_iff_toInt_le.mp c0
      rw [(gl2 n (by omega)).1, show (0 : Int32).toInt = 0 from by decide] at this
      omega
    exact st 0 (by decide) ⟨fun q => absurd q (by decide), fun q => by omega⟩
  · rw [if_neg c0]
    have n0 : 0 < n := by
      refine Nat.pos_of_ne_zero (fun q => c0 ?_)
      rw [q]
      decide
    refine r_gIs hT hx rfl (p := 57) rfl (fun v65 _ e65 => ?_)
    rw [e65, hv]
    by_cases c8 : (8 : Int32) ≤ Int32.ofNat v
    · rw [if_pos c8]
      unfold f_M_publish_B23
      have := Int32.le_iff_toInt_le.mp c8
      rw [(gl2 v (by omega)).1, show (8 : Int32).toInt = 8 from by decide] at this
      exact st 0 (by decide) ⟨fun q => absurd q (by decide), fun q => by omega⟩
    · rw [if_neg c8]
      have h8 : v < 8 := by
        refine Nat.not_le.mp (fun q => c8 (Int32.le_iff_toInt_le.mpr ?_))
        rw [(gl2 v (by omega)).1, show (8 : Int32).toInt = 8 from by decide]
        omega
      exact st 1 (by decide) ⟨fun _ => ⟨n0, h8⟩, fun _ => rfl⟩
end
section
/-! ===== the way through a version ===== -/
theorem fr80 {T : Nat → Nat} {w : List Nat} {S S' : AS} {c s : Nat} {x : Option Nat} (hR : Rl T w S c s T S') (hx : Tx T 100 x) (τ p j : Nat) (hf : ft 100 j = some τ) (hs : sg τ = some p) (hk : 40 ≤ kd τ) (hw : ¬ cl τ 0 ∈ w) (i : Nat) : sI S' p i = sI S p i := by
  obtain ⟨e1, e2⟩ := sg_p hR.1 hx hf hs
  exact hR.fI p i (by rw [e1]; exact e2) (by rw [e1, cl_a hk]; exact hw)
def kw_gr : List Nat := [10030, 10077, 10081, 10500, 10600, 12500, 12800, 13100, 13200, 13300, 13400, 13500, 13600, 17800, 17900, 18000]
theorem t_M_grant2 {T : Nat → Nat} {S : AS} (hT : TI T S) {x : Option Nat} {a : Int32} (hx : Tx T 100 x) (ha : In 0 59 a) (hph : Ph S ≤ 1160) : Ho (f_M_grant S x a) (fun q => Rl T kw_gr S 0 0 T q ∧ (∀ b, b ≠ a.toNatClampNeg → sI q 80 b = sI S 80 b) ∧ ¬ sI q 80 a.toNatClampNeg = 0) := by
  have g0 := Rlrf hT
  unfold f_M_grant
  refine r_gIs g0.1 hx rfl (p := 57) rfl (fun v16 b1 e2 => ?_)
  have q3 : In 0 60 v16 := b1 _ _ rfl
  refine r_if (fun c4 => ?_) (fun c4 => ?_)
  · refine r_gR g0.1 hx rfl rfl (fun v17 h6 => ?_)
    refine r_bIs (w' := kw_gr) g0 h6 rfl (p := 80) rfl rfl ha (by decide) (fun _ _ _ q => by cases q; decide) (fun _ => rfl) (by decide) (by decide +kernel) (fun _ => by unfold phc; omega) (fun s7 g8 e9 => ?_)
    exact r_some ⟨g8, fun b hb => by rw [e9, ti_sI_ne (fun z => hb z.2)], by rw [e9, ti_sI_eq]; decide⟩
  · have q12 : In 0 59 v16 := In_w (In_neR c4 q3 (by decide)) (by decide) (by decide)
    refine r_gR g0.1 hx rfl rfl (fun v19 h13 => ?_)
    refine r_aIs g0.1 h13 rfl (p := 75) rfl rfl ha (by decide) (fun v20 b14 _ => ?_)
    have q16 : In 0 5 v20 := b14 _ _ rfl
    refine r_gR g0.1 hx rfl rfl (fun v21 h17 => ?_)
    refine r_bIs (w' := [12500]) g0 h17 rfl (p := 80) rfl rfl ha (by decide) (fun _ _ _ q => by cases q; decide) (fun _ => rfl) (by decide) (by decide +kernel) (fun _ => by unfold phc; omega) (fun s18 g19 e20 => ?_)
    have f21 : In 0 59 (sI s18 57 30) := In_ne e20 (by omega) (In_cell e2 q12)
    have fA : (∀ b, b ≠ a.toNatClampNeg → sI s18 80 b = sI S 80 b) ∧ ¬ sI s18 80 a.toNatClampNeg = 0 := ⟨fun b hb => by rw [e20, ti_sI_ne (fun z => hb z.2)], by rw [e20, ti_sI_eq]; decide⟩
    clear e20
    refine r_gR g19.1 hx rfl rfl (fun v23 h23 => ?_)
    refine r_rv g19.1 hx rfl ?_
    refine r_b2 (t_M_newSession g19.1 hx q16 (by decide) f21 (phS hph g19 (by decide))) (fun v26 s25 h24 => ?_)
    obtain ⟨g26, h24r⟩ := h24
    have fB : ∀ b, sI s25 80 b = sI s18 80 b := fr80 g26 hx 125 80 25 rfl rfl (by decide) (by decide +kernel)
    have g27 : Rl T kw_gr S 0 0 T s25 := Rltrans g19 g26 (by decide +kernel)
    refine r_bIs (w' := kw_gr) g27 h23 rfl (p := 83) rfl rfl ha (by decide) (fun _ _ _ q => by cases q; exact In_w h24r (by decide) (by decide)) (fun _ => rfl) (by decide) (by decide +kernel) (fun _ => by unfold phc; omega) (fun s29 g30 e31 => ?_)
    have f33 : In 0 59 (sI s29 83 a.toNatClampNeg) := In_eqw e31 h24r
    have fC : ∀ b, sI s29 80 b = sI s25 80 b := fun b => by rw [e31, ti_sI_ne (by omega)]
    obtain ⟨q, hq, gq⟩ := tR_M_grant_L45 (S0 := s29) kr_FU s29 x a v20 (0 : Int32) (Rlweak (Rlrf g30.1) (fun z hz => by cases hz) (Nat.le_refl _) (Nat.le_refl _)) hx ha q16 (by decide) f33 (by decide)
    have fD : ∀ b, sI q 80 b = sI s29 80 b := fr80 gq hx 125 80 25 rfl rfl (by decide) (by decide +kernel)
    refine ⟨q, hq, Rltrans g30 gq (by decide +kernel), fun b hb => ?_, ?_⟩
    · rw [fD, fC, fB]
      exact fA.1 b hb
    · rw [fD, fC, fB]
      exact fA.2
def kw_go : List Nat := [12400, 12600, 10030, 10077, 10081, 10500, 10600, 12500, 12800, 13100, 13200, 13300, 13400, 13500, 13600, 17800, 17900, 18000]
/-- what going on leaves: other attempts as they were; who still is asked stands at a step that asks -/
def GO (T : Nat → Nat) (S : AS) (a v n : Nat) (q : AS) : Prop := Rl T kw_go S 0 0 T q ∧ (∀ b, b ≠ a → sI q 79 b = sI S 79 b ∧ sI q 80 b = sI S 80 b) ∧ (sI q 80 a = 0 → ∃ k, k < n ∧ sI q 79 a = Int32.ofNat k ∧ sI S 67 (12 * v + k) = 0)
theorem go_B77 {T : Nat → Nat} {S : AS} (hT : TI T S) {x : Option Nat} {a st at' : Int32} {v n : Nat} (hx : Tx T 100 x) (ha : In 0 59 a) (hph : Ph S ≤ 1150) (hv : v < 8) (hn : n ≤ 12) (hst : st = -1 ∨ ∃ k, k < n ∧ st = Int32.ofNat k ∧ at' = Int32.ofNat (12 * v + k) ∧ ¬ te S (12 * v) k) : Ho (f_M_go_B77 S x a st at') (fun q => GO T S a.toNatClampNeg v n q) := by
  have g0 := Rlrf hT
  have rst : In (-1) 11 st := by
    rcases hst with rfl | ⟨k, k1, rfl, -⟩
    · decide
    · exact ⟨by rw [(gl2 k (by omega)).1]; omega, by rw [(gl2 k (by omega)).1]; omega⟩
  unfold f_M_go_B77
  refine r_gR g0.1 hx rfl rfl (fun v6 h6 => ?_)
  refine r_bIs (w' := [12400]) g0 h6 rfl (p := 79) rfl rfl ha (by decide) (fun _ _ _ q => by cases q; exact rst) (fun _ => rfl) (by decide) (by decide +kernel) (fun _ => by unfold phc; omega) (fun s7 g7 e7 => ?_)
  refine r_gR g7.1 hx rfl rfl (fun v8 h8 => ?_)
  refine r_bIs (w' := [12400, 12600]) g7 h8 rfl (p := 81) rfl rfl ha (by decide) (fun _ _ _ q => by cases q) (fun _ => rfl) (by decide) (by decide +kernel) (fun _ => by unfold phc; omega) (fun s9 g9 e9 => ?_)
  have f79 : (∀ b, b ≠ a.toNatClampNeg → sI s9 79 b = sI S 79 b) ∧ sI s9 79 a.toNatClampNeg = st := ⟨fun b hb => by rw [e9, ti_sI_ne (by omega), e7, ti_sI_ne (fun z => hb z.2)], by rw [e9, ti_sI_ne (by omega), e7, ti_sI_eq]⟩
  have f80 : ∀ b, sI s9 80 b = sI S 80 b := fun b => by rw [e9, ti_sI_ne (by omega), e7, ti_sI_ne (by omega)]
  have f67 : ∀ b, sI s9 67 b = sI S 67 b := fun b => by rw [e9, ti_sI_ne (by omega), e7, ti_sI_ne (by omega)]
  clear e7 e9
  have b108 : Ho (f_M_go_B108 s9 x a) (fun q => GO T S a.toNatClampNeg v n q) := by
    unfold f_M_go_B108
    refine r_gR g9.1 hx rfl rfl (fun v4 h4 => ?_)
    refine r_bIs (w' := [12400, 12600, 12500]) g9 h4 rfl (p := 80) rfl rfl ha (by decide) (fun _ _ _ q => by cases q; decide) (fun _ => rfl) (by decide) (by decide +kernel) (fun _ => by unfold phc; omega) (fun s5 g5 e5 => ?_)
    refine r_some ⟨Rlweak g5 (by decide +kernel) (by decide) (by decide), fun b hb => ⟨?_, ?_⟩, fun q => ?_⟩
    · rw [e5, ti_sI_ne (by omega)]
      exact f79.1 b hb
    · rw [e5, ti_sI_ne (fun z => hb z.2), f80]
    · rw [e5, ti_sI_eq] at q
      exact absurd q (by decide)
  by_cases c1 : st = -1
  · rw [if_pos c1]
    exact b108
  · rw [if_neg c1]
    rcases hst with q | ⟨k, k1, k2, k3, k4⟩
    · exact absurd q c1
    · obtain ⟨r1, r2⟩ := ri (n := 12 * v + k) (by omega)
      subst k3
      refine r_gR g9.1 hx rfl rfl (fun v10 h10 => ?_)
      refine r_aIs g9.1 h10 rfl (p := 67) rfl rfl r1 (by decide) (fun v11 b11 e11 => ?_)
      rw [r2, f67] at e11
      have q11 : In 0 6 v11 := b11 _ _ rfl
      refine r_if (fun _ => b108) (fun c6 => ?_)
      refine r_gR g9.1 hx rfl rfl (fun v12 h12 => ?_)
      refine r_aIs g9.1 h12 rfl (p := 67) rfl rfl r1 (by decide) (fun v13 _ e13 => ?_)
      rw [r2, f67] at e13
      refine r_if (fun _ => ?_) (fun c5 => ?_)
      · refine r_rv g9.1 hx rfl ?_
        refine r_bind (t_M_grant2 g9.1 hx ha (phS hph g9 (by decide))) (fun q hq => ?_)
        obtain ⟨gq, hq1, hq2⟩ := hq
        have f79q : ∀ b, sI q 79 b = sI s9 79 b := fr80 gq hx 124 79 24 rfl rfl (by decide) (by decide +kernel)
        refine r_some ⟨Rltrans g9 gq (by decide +kernel), fun b hb => ⟨?_, ?_⟩, fun z => absurd z hq2⟩
        · rw [f79q]
          exact f79.1 b hb
        · rw [hq1 b hb, f80]
      · refine r_some ⟨Rlweak g9 (by decide +kernel) (by decide) (by decide), fun b hb => ⟨f79.1 b hb, f80 b⟩, fun _ => ⟨k, k1, by rw [f79.2, k2], ?_⟩⟩
        rw [← e11]
        have h1 : ¬ In 1 4 v11 := fun z => k4 (In_cell e11 z)
        have h6 : ¬ v11.toInt = 6 := fun z => c6 (Int32.toInt_inj.mp (by rw [z]; decide))
        have h5 : ¬ v11.toInt = 5 := fun z => c5 (by rw [e13, ← e11]; exact Int32.toInt_inj.mp (by rw [z]; decide))
        obtain ⟨z1, z2⟩ := q11
        have h0 : v11.toInt = 0 := by
          by_cases c : 1 ≤ v11.toInt
          · exact absurd ⟨c, by omega⟩ h1
          · omega
        exact Int32.toInt_inj.mp (by rw [h0]; decide)
theorem go_L15 {T : Nat → Nat} {S : AS} (hT : TI T S) {x : Option Nat} {a : Int32} {v n : Nat} {ρ : Nat → Nat} (hx : Tx T 100 x) (ha : In 0 59 a) (hph : Ph S ≤ 1150) (hsr : SR S) (hv : v < 8) (hn : n ≤ 12) (hva : sI S 78 a.toNatClampNeg = Int32.ofNat v) (hnx : nxin S (12 * v) n) (hrk : rnk S (12 * v) n ρ) :
    ∀ m fu st at', m < fu → (st = -1 ∨ ∃ k, k < n ∧ st = Int32.ofNat k ∧ at' = Int32.ofNat (12 * v + k) ∧ (te S (12 * v) k → ρ k < m)) → Ho (f_M_go_L15 fu S x a st at') (fun q => GO T S a.toNatClampNeg v n q) := by
  intro m
  induction m with
  | zero =>
    intro fu st at' h1 hst
    obtain ⟨fu, rfl⟩ : ∃ g, fu = g + 1 := ⟨fu - 1, by omega⟩
    show Ho (f_M_go_C15 _ _ _ _ _ _) _
    unfold f_M_go_C15
    rcases hst with rfl | ⟨k, k1, rfl, rfl, k4⟩
    · rw [if_pos rfl]
      exact go_B77 hT hx ha hph hv hn (Or.inl rfl)
    · obtain ⟨r1, r2⟩ := ri (n := 12 * v + k) (by omega)
      have hne : ¬ Int32.ofNat k = -1 := fun q => by
        have := congrArg Int32.toInt q
        rw [(gl2 k (by omega)).1, show (-1 : Int32).toInt = -1 from by decide] at this
        omega
      rw [if_neg hne]
      refine r_gR hT hx rfl rfl (fun v16 h16 => ?_)
      refine r_aIs hT h16 rfl (p := 67) rfl rfl r1 (by decide) (fun v17 _ e17 => ?_)
      rw [r2] at e17
      have hnt : ¬ te S (12 * v) k := fun q => absurd (k4 q) (Nat.not_lt_zero _)
      rw [isTest_f (fun q => hnt (In_cell e17 q)), b2_s]
      exact r_ifT rfl (go_B77 hT hx ha hph hv hn (Or.inr ⟨k, k1, rfl, rfl, hnt⟩))
  | succ m ih =>
    intro fu st at' h1 hst
    obtain ⟨fu, rfl⟩ : ∃ g, fu = g + 1 := ⟨fu - 1, by omega⟩
    show Ho (f_M_go_C15 _ _ _ _ _ _) _
    unfold f_M_go_C15
    rcases hst with rfl | ⟨k, k1, rfl, rfl, k4⟩
    · rw [if_pos rfl]
      exact go_B77 hT hx ha hph hv hn (Or.inl rfl)
    · obtain ⟨r1, r2⟩ := ri (n := 12 * v + k) (by omega)
      have hne : ¬ Int32.ofNat k = -1 := fun q => by
        have := congrArg Int32.toInt q
        rw [(gl2 k (by omega)).1, show (-1 : Int32).toInt = -1 from by decide] at this
        omega
      rw [if_neg hne]
      refine r_gR hT hx rfl rfl (fun v16 h16 => ?_)
      refine r_aIs hT h16 rfl (p := 67) rfl rfl r1 (by decide) (fun v17 _ e17 => ?_)
      rw [r2] at e17
      by_cases ct : In 1 4 v17
      · have hte : te S (12 * v) k := In_cell e17 ct
        rw [isTest_t ct, b2_s]
        refine r_ifF (by decide) ?_
        refine r_rv hT hx rfl ?_
        refine r_P (P := fun _ => True) (by
          obtain ⟨b, h2, h3, -⟩ := t_M_holds hT hx ha r1 hsr
          exact ⟨b, h2, h3, trivial⟩) (fun v22 _ => ?_)
        have kc : In 1 4 (sI S 67 (Int32.ofNat (12 * v + k)).toNatClampNeg) := by rw [r2]; exact hte
        have h5 : (sI S 67 (12 * v + k)).toInt < 5 := by have := hte.2; omega
        have next : ∀ y : Int32, In (-1) 11 y → (∀ t : Nat, y.toInt = (t : Int) → nx S (12 * v) k t) → Ho (f_M_go_B60 (f_M_go_L15 fu) S x a y) (fun q => GO T S a.toNatClampNeg v n q) := by
          intro y hy hyt
          unfold f_M_go_B60
          refine r_gR hT hx rfl rfl (fun v1 g1 => ?_)
          refine r_aIs hT g1 rfl (p := 78) rfl rfl ha (by decide) (fun v2 _ e2 => ?_)
          refine r_val ?_
          refine ih fu y _ (by omega) ?_
          by_cases c : y.toInt < 0
          · exact Or.inl (Int32.toInt_inj.mp (by rw [show (-1 : Int32).toInt = -1 from by decide]; have := hy.1; omega))
          · obtain ⟨t, ht, rfl⟩ := ofNat_In (n := 11) (v := y) ⟨by omega, hy.2⟩
            have hnt := hyt t (gl2 t (by omega)).1
            have htn := nxin_t hnx k1 h5 hnt
            refine Or.inr ⟨t, htn, rfl, ?_, fun q => ?_⟩
            · rw [e2, hva, mulv v hv t (by omega)]
            · have := hrk.2 k k1 hte t hnt q
              have := k4 hte
              omega
        refine r_if (fun _ => ?_) (fun _ => ?_)
        · refine r_gR hT hx rfl rfl (fun v23 g23 => ?_)
          refine r_aIs hT g23 rfl (p := 71) rfl rfl r1 (by decide) (fun v24 _ e24 => ?_)
          have r24 : In (-1) 11 v24 := SR_n hsr r1 kc (by decide) e24
          rw [r2] at e24
          exact next v24 r24 (fun t ht => Or.inr (by rw [← e24]; exact ht))
        · refine r_gR hT hx rfl rfl (fun v25 g25 => ?_)
          refine r_aIs hT g25 rfl (p := 70) rfl rfl r1 (by decide) (fun v26 _ e26 => ?_)
          have r26 : In (-1) 11 v26 := SR_y hsr r1 kc (by decide) e26
          rw [r2] at e26
          exact next v26 r26 (fun t ht => Or.inl (by rw [← e26]; exact ht))
      · rw [isTest_f ct, b2_s]
        exact r_ifT rfl (go_B77 hT hx ha hph hv hn (Or.inr ⟨k, k1, rfl, rfl, fun q => ct (In_read e17 q)⟩))
theorem t_M_go {T : Nat → Nat} {S : AS} (hT : TI T S) {x : Option Nat} {a st : Int32} {v n : Nat} {ρ : Nat → Nat} (hx : Tx T 100 x) (ha : In 0 59 a) (hph : Ph S ≤ 1150) (hsr : SR S) (hv : v < 8) (hn : n ≤ 12) (hva : sI S 78 a.toNatClampNeg = Int32.ofNat v) (hnx : nxin S (12 * v) n) (hrk : rnk S (12 * v) n ρ) (hst : st = -1 ∨ ∃ k, k < n ∧ st = Int32.ofNat k) : Ho (f_M_go S x a st) (fun q => GO T S a.toNatClampNeg v n q) := by
  unfold f_M_go
  refine r_gR hT hx rfl rfl (fun v27 g27 => ?_)
  refine r_aIs hT g27 rfl (p := 78) rfl rfl ha (by decide) (fun v28 _ e28 => ?_)
  refine r_val ?_
  refine go_L15 hT hx ha hph hsr hv hn hva hnx hrk 13 kr_FU st _ (by decide) ?_
  rcases hst with q | ⟨k, k1, rfl⟩
  · exact Or.inl q
  · refine Or.inr ⟨k, k1, rfl, by rw [e28, hva, mulv v hv k (by omega)], fun _ => ?_⟩
    have := hrk.1 k
    omega
end
section
/-! ===== what holds between the reference's calls ===== -/
def AC (S : AS) : Prop := ∀ v n : Nat, (v : Int) < (sI S 57 9).toInt → (sI S 66 v).toInt = (n : Int) → 1 ≤ n ∧ nxin S (12 * v) n ∧ ∃ ρ, rnk S (12 * v) n ρ
def AKa (S : AS) (a : Nat) : Prop := ∃ v n : Nat, sI S 78 a = Int32.ofNat v ∧ (v : Int) < (sI S 57 9).toInt ∧ (sI S 66 v).toInt = (n : Int) ∧ (sI S 80 a = 0 → ∃ k, k < n ∧ sI S 79 a = Int32.ofNat k ∧ sI S 67 (12 * v + k) = 0)
def AK (S : AS) : Prop := ∀ a : Nat, (a : Int) < (sI S 57 19).toInt → AKa S a
def MI (S : AS) : Prop := SR S ∧ AC S ∧ AK S ∧ Gf S ≤ 0
/-- rows of steps as they were -/
def same5 (S S' : AS) : Prop := ∀ p i, (p = 66 ∨ p = 67 ∨ p = 68 ∨ p = 70 ∨ p = 71 ∨ (p = 57 ∧ i = 9)) → sI S' p i = sI S p i
theorem SR_same {S S' : AS} (h : SR S) (e : same5 S S') : SR S' := by
  intro i hi
  rw [e 67 i (by omega), e 68 i (by omega), e 70 i (by omega), e 71 i (by omega)]
  exact h i hi
theorem te_same {S S' : AS} (e : same5 S S') {b k : Nat} : te S' b k ↔ te S b k := by
  unfold te
  rw [e 67 _ (by omega)]
theorem nx_same {S S' : AS} (e : same5 S S') {b k t : Nat} : nx S' b k t ↔ nx S b k t := by
  unfold nx
  rw [e 70 _ (by omega), e 71 _ (by omega)]
theorem nxin_same {S S' : AS} (e : same5 S S') {b n : Nat} (h : nxin S b n) : nxin S' b n := by
  intro k hk h5
  rw [e 67 _ (by omega)] at h5
  rw [e 70 _ (by omega), e 71 _ (by omega)]
  exact h k hk h5
theorem rnk_same {S S' : AS} (e : same5 S S') {b n : Nat} {ρ : Nat → Nat} (h : rnk S b n ρ) : rnk S' b n ρ :=
  ⟨h.1, fun k hk h1 t h2 h3 => h.2 k hk ((te_same e).mp h1) t ((nx_same e).mp h2) ((te_same e).mp h3)⟩
theorem AC_same {S S' : AS} (h : AC S) (e : same5 S S') : AC S' := by
  intro v n hv hn
  rw [e 57 9 (by omega)] at hv
  rw [e 66 v (by omega)] at hn
  obtain ⟨h1, h2, ρ, h3⟩ := h v n hv hn
  exact ⟨h1, nxin_same e h2, ρ, rnk_same e h3⟩
theorem same5_Rl {T : Nat → Nat} {w : List Nat} {S S' : AS} {c s : Nat} {x : Option Nat} (hR : Rl T w S c s T S') (hx : Tx T 100 x) (hw : ∀ z ∈ w, ¬ z ∈ [10009, 11000, 11100, 11200, 11400, 11500]) : same5 S S' := by
  have hn : ∀ z, z ∈ [10009, 11000, 11100, 11200, 11400, 11500] → ¬ z ∈ w := fun z hz q => hw z q hz
  intro p i hp
  rcases hp with rfl | rfl | rfl | rfl | rfl | ⟨rfl, rfl⟩
  · exact fr80 hR hx 110 66 10 rfl rfl (by decide) (hn _ (by decide)) i
  · exact fr80 hR hx 111 67 11 rfl rfl (by decide) (hn _ (by decide)) i
  · exact fr80 hR hx 112 68 12 rfl rfl (by decide) (hn _ (by decide)) i
  · exact fr80 hR hx 114 70 14 rfl rfl (by decide) (hn _ (by decide)) i
  · exact fr80 hR hx 115 71 15 rfl rfl (by decide) (hn _ (by decide)) i
  · obtain ⟨e1, e2, -⟩ := sgp hR.1 hx (p := 57) rfl
    exact hR.fI 57 9 (by rw [e1]; exact e2) (by rw [e1]; exact hn _ (by decide))
theorem AKa_same {S S' : AS} {a : Nat} (h : AKa S a) (e : same5 S S') (h8 : sI S' 78 a = sI S 78 a) (h9 : sI S' 79 a = sI S 79 a) (h0 : sI S' 80 a = 0 → sI S 80 a = 0) : AKa S' a := by
  obtain ⟨v, n, a1, a2, a3, a4⟩ := h
  refine ⟨v, n, by rw [h8]; exact a1, by rw [e 57 9 (by omega)]; exact a2, by rw [e 66 v (by omega)]; exact a3, fun q => ?_⟩
  obtain ⟨k, k1, k2, k3⟩ := a4 (h0 q)
  exact ⟨k, k1, by rw [h9]; exact k2, by rw [e 67 _ (by omega)]; exact k3⟩
def kw_mi : List Nat := [10009, 10019, 11000, 11100, 11200, 11400, 11500, 12300, 12400, 12500]
theorem MI_fr {T : Nat → Nat} {w : List Nat} {S S' : AS} {c : Nat} {x : Option Nat} (h : MI S) (hR : Rl T w S c 0 T S') (hx : Tx T 100 x) (hw : ∀ z ∈ w, ¬ z ∈ kw_mi) : MI S' := by
  obtain ⟨h1, h2, h3, h4⟩ := h
  have hn : ∀ z, z ∈ kw_mi → ¬ z ∈ w := fun z hz q => hw z q hz
  have e : same5 S S' := same5_Rl hR hx (fun z hz q => hw z hz (by
    have : ∀ z, z ∈ [10009, 11000, 11100, 11200, 11400, 11500] → z ∈ kw_mi := by decide
    exact this z q))
  refine ⟨SR_same h1 e, AC_same h2 e, fun a ha => ?_, by have := hR.2.2.2.1.2.2.2; omega⟩
  obtain ⟨e1, e2, -⟩ := sgp hR.1 hx (p := 57) rfl
  rw [hR.fI 57 19 (by rw [e1]; exact e2) (by rw [e1]; exact hn _ (by decide))] at ha
  exact AKa_same (h3 a ha) e (fr80 hR hx 123 78 23 rfl rfl (by decide) (hn _ (by decide)) a) (fr80 hR hx 124 79 24 rfl rfl (by decide) (hn _ (by decide)) a) (fun q => by rw [← fr80 hR hx 125 80 25 rfl rfl (by decide) (hn _ (by decide)) a]; exact q)
theorem steps_n {T : Nat → Nat} {S : AS} {x : Option Nat} (hT : TI T S) (hx : Tx T 100 x) {v : Nat} (hv : v < 9) : ∃ n : Nat, (sI S 66 v).toInt = (n : Int) ∧ n ≤ 12 := by
  obtain ⟨e1, e2⟩ := sg_p hT hx (j := 10) (τ := 110) (p := 66) rfl rfl
  have := hT.t5 66 v 9 0 12 (by rw [e1]; rfl) hv
  exact ⟨(sI S 66 v).toInt.toNat, by have := this.1; omega, by have := this.2; omega⟩
theorem fld {T : Nat → Nat} {S : AS} {x : Option Nat} (hT : TI T S) (hx : Tx T 100 x) {j : Nat} {b : Nat} (hr : rf 100 j = some (0, (b : Int))) : ∃ n : Nat, (sI S 57 j).toInt = (n : Int) ∧ n ≤ b := by
  obtain ⟨e1, e2, -⟩ := sgp hT hx (p := 57) rfl
  have := hT.t4 57 j 0 b (by rw [e1]; exact hr)
  exact ⟨(sI S 57 j).toInt.toNat, by have := this.1; omega, by have := this.2; omega⟩
/-! ===== begin ===== -/
theorem mul3 : ∀ a, a < 60 → ∀ i, i < 3 → In 0 179 ((3 : Int32) * Int32.ofNat a + Int32.ofNat i) := by decide +kernel
theorem bg_loop {T : Nat → Nat} {w : List Nat} {S0 Sb : AS} {x : Option Nat} {a : Nat} (hx : Tx T 100 x) (ha : a < 60) (hw : 12900 ∈ w) {Q : Int32 × AS → Prop}
    (hk : ∀ S, Rl T w S0 0 0 T S → (∀ p i, p ≠ 84 → sI S p i = sI Sb p i) → Ho ((gI S 23 19 x).bind fun v1 => (pI S 23 19 x (v1 + (1 : Int32))).bind fun S2 => (kr_rv S2 23 x).bind fun _ => (f_M_go S2 x (Int32.ofNat a) (0 : Int32)).bind fun S4 => some (Int32.ofNat a, S4)) Q) :
    ∀ m i fu, i + m = 3 → m < fu → ∀ S, Rl T w S0 0 0 T S → (∀ p i, p ≠ 84 → sI S p i = sI Sb p i) → Ho (f_M_begin_L136 fu S x (Int32.ofNat a) (Int32.ofNat i)) Q := by
  intro m
  induction m with
  | zero =>
    intro i fu h1 h2 S hR hp
    obtain ⟨fu, rfl⟩ : ∃ g, fu = g + 1 := ⟨fu - 1, by omega⟩
    have hi : i = 3 := by omega
    subst hi
    show Ho (f_M_begin_C136 _ _ _ _ _) Q
    unfold f_M_begin_C136
    exact r_ifT (by decide) (hk S hR hp)
  | succ m ih =>
    intro i fu h1 h2 S hR hp
    obtain ⟨fu, rfl⟩ : ∃ g, fu = g + 1 := ⟨fu - 1, by omega⟩
    have hi : i < 3 := by omega
    have e1 : Int32.ofNat i + (1 : Int32) = Int32.ofNat (i + 1) := (Int32.ofNat_add i 1).symm
    show Ho (f_M_begin_C136 _ _ _ _ _) Q
    unfold f_M_begin_C136
    refine r_ifF (fun q => by
      have := Int32.le_iff_toInt_le.mp q
      rw [(gl2 i (by omega)).1, show (3 : Int32).toInt = 3 from by decide] at this
      omega) ?_
    refine r_gR hR.1 hx rfl rfl (fun v5 h5 => ?_)
    refine r_bIs (w' := w) hR h5 rfl (p := 84) rfl rfl (mul3 a ha i hi) (by decide) (fun _ _ _ q => by cases q) (fun _ => rfl) (by decide) (fun z hz => by
      rcases List.mem_cons.mp hz with hz | hz
      · rw [hz]; exact hw
      · exact hz) (fun _ => by unfold phc; omega) (fun S6 R6 E6 => ?_)
    refine r_val ?_
    rw [e1]
    exact ih (i + 1) fu (by omega) (by omega) S6 R6 (fun p j hpj => by rw [E6, ti_sI_ne (fun z => hpj z.1)]; exact hp p j hpj)
def kw_bg : List Nat := [10082, 10019, 12000, 12100, 12200, 12300, 12500, 12800, 12900, 12400, 12600, 10030, 10077, 10081, 10500, 10600, 13100, 13200, 13300, 13400, 13500, 13600, 17800, 17900, 18000]
theorem bg_B66 {T : Nat → Nat} {S : AS} (hT : TI T S) {x : Option Nat} {a1 a2 a3 y1 y2 : Int32} (hx : Tx T 100 x) (hph : Ph S ≤ 1100) (hM : MI S) (h : ¬ y1 = 0 → ¬ y2 = 0 → In 0 5 a1 ∧ In 0 5 a2 ∧ In 0 5 a3 ∧ 0 < (sI S 57 9).toInt ∧ (sI S 57 19).toInt < 60) : Ho (f_M_begin_B66 S x a1 a2 a3 x y1 y2) (fun q => Rl T kw_bg S 0 0 T q.2 ∧ MI q.2) := by
  have g0 := Rlrf hT
  unfold f_M_begin_B66
  refine r_rv hT hx rfl ?_
  refine r_mayBoth (w' := [10082]) g0 hx (by decide +kernel) (fun S9 g9 f9 c1 c2 => ?_) (fun S9 g9 _ => ?_)
  · obtain ⟨r1, r2, r3, hv0, hat⟩ := h c1 c2
    obtain ⟨a, ha, ha60⟩ := fld hT hx (j := 19) (b := 60) rfl
    obtain ⟨nv, hnv, hnv8⟩ := fld hT hx (j := 9) (b := 8) rfl
    have ha' : a < 60 := by omega
    refine r_ifF (by decide) ?_
    refine r_gIs g9.1 hx rfl (p := 57) rfl (fun v11 _ e11 => ?_)
    have e11' : v11 = Int32.ofNat a := by rw [e11, f9 57 19 (by omega)]; exact ofNat_of ha
    subst e11'
    have rA : In 0 59 (Int32.ofNat a) := ⟨by rw [(gl2 a (by omega)).1]; omega, by rw [(gl2 a (by omega)).1]; omega⟩
    have tA : (Int32.ofNat a).toNatClampNeg = a := (gl2 a (by omega)).2
    refine r_gR g9.1 hx rfl rfl (fun v12 h12 => ?_)
    refine r_bIs (w' := [10082, 12000]) g9 h12 rfl (p := 75) rfl rfl rA (by decide) (fun _ _ _ q => by cases q; exact r1) (fun _ => rfl) (by decide) (by decide +kernel) (fun _ => by unfold phc; omega) (fun S13 g13 e13 => ?_)
    refine r_gR g13.1 hx rfl rfl (fun v14 h14 => ?_)
    refine r_bIs (w' := [10082, 12000, 12100]) g13 h14 rfl (p := 76) rfl rfl rA (by decide) (fun _ _ _ q => by cases q; exact r2) (fun _ => rfl) (by decide) (by decide +kernel) (fun _ => by unfold phc; omega) (fun S15 g15 e15 => ?_)
    refine r_gR g15.1 hx rfl rfl (fun v16 h16 => ?_)
    refine r_bIs (w' := [10082, 12000, 12100, 12200]) g15 h16 rfl (p := 77) rfl rfl rA (by decide) (fun _ _ _ q => by cases q; exact r3) (fun _ => rfl) (by decide) (by decide +kernel) (fun _ => by unfold phc; omega) (fun S17 g17 e17 => ?_)
    have fA : ∀ p i, p ≠ 75 → p ≠ 76 → p ≠ 77 → ¬ (p = 57 ∧ i = 82) → sI S17 p i = sI S p i := fun p i h1 h2 h3 h4 => by rw [e17, ti_sI_ne (fun z => h3 z.1), e15, ti_sI_ne (fun z => h2 z.1), e13, ti_sI_ne (fun z => h1 z.1), f9 p i h4]
    clear e13 e15 e17
    refine r_gR g17.1 hx rfl rfl (fun v18 h18 => ?_)
    refine r_gIs g17.1 hx rfl (p := 57) rfl (fun v19 _ e19 => ?_)
    have e19' : v19 - (1 : Int32) = Int32.ofNat (nv - 1) := by
      rw [e19, fA 57 9 (by omega) (by omega) (by omega) (by omega), ofNat_of hnv]
      have : ∀ n, n < 9 → 0 < n → Int32.ofNat n - (1 : Int32) = Int32.ofNat (n - 1) := by decide +kernel
      exact this nv (by omega) (by omega)
    rw [e19']
    refine r_bIs (w' := [10082, 12000, 12100, 12200, 12300]) g17 h18 rfl (p := 78) rfl rfl rA (by decide) (fun _ _ _ q => by cases q; exact ⟨by rw [(gl2 (nv - 1) (by omega)).1]; omega, by rw [(gl2 (nv - 1) (by omega)).1]; omega⟩) (fun _ => rfl) (by decide) (by decide +kernel) (fun _ => by unfold phc; omega) (fun S20 g20 e20 => ?_)
    refine r_gR g20.1 hx rfl rfl (fun v21 h21 => ?_)
    refine r_bIs (w' := [10082, 12000, 12100, 12200, 12300, 12500]) g20 h21 rfl (p := 80) rfl rfl rA (by decide) (fun _ _ _ q => by cases q; decide) (fun _ => rfl) (by decide) (by decide +kernel) (fun _ => by unfold phc; omega) (fun S22 g22 e22 => ?_)
    refine r_gR g22.1 hx rfl rfl (fun v23 h23 => ?_)
    refine r_bIs (w' := kw_bg) g22 h23 rfl (p := 83) rfl rfl rA (by decide) (fun _ _ _ q => by cases q; decide) (fun _ => rfl) (by decide) (by decide +kernel) (fun _ => by unfold phc; omega) (fun S24 g24 e24 => ?_)
    rw [tA] at e20 e22 e24
    have fB : ∀ p i, p ≠ 75 → p ≠ 76 → p ≠ 77 → p ≠ 83 → ¬ (p = 57 ∧ i = 82) → ¬ (p = 78 ∧ i = a) → ¬ (p = 80 ∧ i = a) → sI S24 p i = sI S p i := fun p i h1 h2 h3 h4 h5 h6 h7 => by rw [e24, ti_sI_ne (fun z => h4 z.1), e22, ti_sI_ne h7, e20, ti_sI_ne h6]; exact fA p i h1 h2 h3 h5
    have f78 : sI S24 78 a = Int32.ofNat (nv - 1) := by rw [e24, ti_sI_ne (by omega), e22, ti_sI_ne (by omega), e20, ti_sI_eq]
    clear e20 e22 e24 fA
    refine bg_loop (w := kw_bg) (S0 := S) (Sb := S24) hx ha' (by decide) ?_ 3 0 kr_FU rfl (by decide) S24 g24 (fun _ _ _ => rfl)
    intro S1 R1 hp
    have fC : ∀ p i, p ≠ 84 → p ≠ 75 → p ≠ 76 → p ≠ 77 → p ≠ 83 → ¬ (p = 57 ∧ i = 82) → ¬ (p = 78 ∧ i = a) → ¬ (p = 80 ∧ i = a) → sI S1 p i = sI S p i := fun p i h0 h1 h2 h3 h4 h5 h6 h7 => (hp p i h0).trans (fB p i h1 h2 h3 h4 h5 h6 h7)
    have f78' : sI S1 78 a = Int32.ofNat (nv - 1) := (hp 78 a (by omega)).trans f78
    clear hp fB f78
    refine r_gIs R1.1 hx rfl (p := 57) rfl (fun v1 _ e1 => ?_)
    have e1' : v1 + (1 : Int32) = Int32.ofNat (a + 1) := by
      rw [e1, fC 57 19 (by omega) (by omega) (by omega) (by omega) (by omega) (by omega) (by omega) (by omega), ofNat_of ha]
      exact (Int32.ofNat_add a 1).symm
    rw [e1']
    refine r_pIs (w' := kw_bg) R1 hx (fun _ _ q => by cases q; exact ⟨by rw [(gl2 (a + 1) (by omega)).1]; omega, by rw [(gl2 (a + 1) (by omega)).1]; omega⟩) (by decide +kernel) (by unfold phc; decide) (fun S2 R2 E2 => ?_)
    refine r_rv R2.1 hx rfl ?_
    have fD : ∀ p i, p ≠ 84 → p ≠ 75 → p ≠ 76 → p ≠ 77 → p ≠ 83 → ¬ (p = 57 ∧ i = 82) → ¬ (p = 78 ∧ i = a) → ¬ (p = 80 ∧ i = a) → ¬ (p = 57 ∧ i = 19) → sI S2 p i = sI S p i := fun p i h0 h1 h2 h3 h4 h5 h6 h7 h8 => by rw [E2, ti_sI_ne h8]; exact fC p i h0 h1 h2 h3 h4 h5 h6 h7
    have f78'' : sI S2 78 a = Int32.ofNat (nv - 1) := by rw [E2, ti_sI_ne (by omega)]; exact f78'
    have f19 : sI S2 57 19 = Int32.ofNat (a + 1) := by rw [E2, ti_sI_eq]
    clear E2 fC f78'
    have s5 : same5 S S2 := fun p i hpi => fD p i (by omega) (by omega) (by omega) (by omega) (by omega) (by omega) (by omega) (by omega) (by omega)
    have hsr2 := SR_same hM.1 s5
    have hac2 := AC_same hM.2.1 s5
    obtain ⟨n, hn, hn12⟩ := steps_n R2.1 hx (v := nv - 1) (by omega)
    have hlt : ((nv - 1 : Nat) : Int) < (sI S2 57 9).toInt := by rw [s5 57 9 (by omega), hnv]; omega
    obtain ⟨n1, hnx, ρ, hrk⟩ := hac2 (nv - 1) n hlt hn
    refine r_bind (t_M_go (v := nv - 1) (n := n) R2.1 hx rA (phS hph R2 (by decide)) hsr2 (by omega) hn12 (by rw [tA]; exact f78'') hnx hrk (Or.inr ⟨0, by omega, rfl⟩)) (fun q hq => ?_)
    obtain ⟨gq, hq1, hq2⟩ := hq
    rw [tA] at hq1 hq2
    have s5q : same5 S2 q := same5_Rl gq hx (by decide)
    have f78q : ∀ b, sI q 78 b = sI S2 78 b := fr80 gq hx 123 78 23 rfl rfl (by decide) (by decide +kernel)
    have hR := Rltrans R2 gq (w' := kw_bg) (by decide +kernel)
    refine r_some ⟨hR, SR_same hsr2 s5q, AC_same hac2 s5q, ?_, by show Gf q ≤ 0; have h1 := hR.2.2.2.1.2.2.2; have h2 := hM.2.2.2; omega⟩
    intro b hb
    obtain ⟨e1, e2, -⟩ := sgp gq.1 hx (p := 57) rfl
    have f19q : sI q 57 19 = sI S2 57 19 := gq.fI 57 19 (by rw [e1]; exact e2) (by rw [e1]; decide)
    have hb' : (b : Int) < (a + 1 : Nat) := by
      have := hb
      change (b : Int) < (sI q 57 19).toInt at this
      rw [f19q, f19, (gl2 (a + 1) (by omega)).1] at this
      exact this
    by_cases c : b = a
    · subst c
      refine ⟨nv - 1, n, by rw [f78q]; exact f78'', by rw [s5q 57 9 (by omega)]; exact hlt, by rw [s5q 66 _ (by omega)]; exact hn, fun z => ?_⟩
      obtain ⟨k, k1, k2, k3⟩ := hq2 z
      exact ⟨k, k1, k2, by rw [s5q 67 _ (by omega)]; exact k3⟩
    · have hak := hM.2.2.1 b (by rw [ha]; omega)
      refine AKa_same (AKa_same hak s5 (fD 78 b (by omega) (by omega) (by omega) (by omega) (by omega) (by omega) (by omega) (by omega) (by omega)) (fD 79 b (by omega) (by omega) (by omega) (by omega) (by omega) (by omega) (by omega) (by omega) (by omega)) (fun z => by rw [← fD 80 b (by omega) (by omega) (by omega) (by omega) (by omega) (by omega) (by omega) (by omega) (by omega)]; exact z)) s5q (f78q b) (hq1 b c).1 (fun z => by rw [← (hq1 b c).2]; exact z)
  · refine r_ifT rfl (r_some ⟨Rlweak g9 (by decide +kernel) (by decide) (by decide), MI_fr hM g9 hx (by decide)⟩)
theorem t_M_begin {T : Nat → Nat} {S : AS} (hT : TI T S) {x : Option Nat} {a1 a2 a3 : Int32} (hx : Tx T 100 x) (hph : Ph S ≤ 1100) (hM : MI S) : Ho (f_M_begin S x a1 a2 a3) (fun q => Rl T kw_bg S 0 0 T q.2 ∧ MI q.2) := by
  have b65 : ∀ y : Int32, Ho (f_M_begin_B65 S x a1 a2 a3 x y) (fun q => Rl T kw_bg S 0 0 T q.2 ∧ MI q.2) := fun y => by
    unfold f_M_begin_B65
    exact bg_B66 hT hx hph hM (fun _ q => absurd rfl q)
  have b25 : Ho (f_M_begin_B25 S x a1 a2 a3) (fun q => Rl T kw_bg S 0 0 T q.2 ∧ MI q.2) := by
    unfold f_M_begin_B25 f_M_begin_B26
    exact r_ifT rfl (b65 _)
  unfold f_M_begin
  refine r_spl (u_isSix S a1) (fun h1 => ?_) (r_ifT rfl b25)
  refine r_ifF (by decide) ?_
  refine r_spl (u_isSix S a2) (fun h2 => ?_) (r_ifT rfl b25)
  refine r_ifF (by decide) ?_
  refine r_spl (u_isSix S a3) (fun h3 => ?_) (r_ifT rfl b25)
  refine r_ifF (by decide) ?_
  unfold f_M_begin_B26
  refine r_ifF (by decide) ?_
  refine r_gIs hT hx rfl (p := 57) rfl (fun v25 _ e25 => ?_)
  refine r_if (fun _ => b65 _) (fun c => ?_)
  refine r_gR hT hx rfl rfl (fun v26 h26 => ?_)
  refine r_aI hT h26 rfl rfl h1 (by decide) (fun v27 _ => ?_)
  refine r_if (fun _ => ?_) (fun _ => b65 _)
  refine r_gIs hT hx rfl (p := 57) rfl (fun v28 _ e28 => ?_)
  refine r_if (fun _ => b65 _) (fun c6 => ?_)
  refine bg_B66 hT hx hph hM (fun _ _ => ⟨h1, h2, h3, ?_, ?_⟩)
  · have := Int32.lt_iff_toInt_lt.mp (Int32.not_le.mp c)
    rw [e25, show (0 : Int32).toInt = 0 from by decide] at this
    exact this
  · have := Int32.lt_iff_toInt_lt.mp (Int32.not_le.mp c6)
    rw [e28, show (60 : Int32).toInt = 60 from by decide] at this
    exact this
/-! ===== answer, asked ===== -/
theorem MI_go {T : Nat → Nat} {S q : AS} {x : Option Nat} {a v n : Nat} (hM : MI S) (hx : Tx T 100 x) (h78 : sI S 78 a = Int32.ofNat v) (hv : (v : Int) < (sI S 57 9).toInt) (hn : (sI S 66 v).toInt = (n : Int)) (hg : GO T S a v n q) : MI q := by
  obtain ⟨gq, hq1, hq2⟩ := hg
  have s5q : same5 S q := same5_Rl gq hx (by decide)
  have f78q : ∀ b, sI q 78 b = sI S 78 b := fr80 gq hx 123 78 23 rfl rfl (by decide) (by decide +kernel)
  refine ⟨SR_same hM.1 s5q, AC_same hM.2.1 s5q, ?_, by have h1 := gq.2.2.2.1.2.2.2; have h2 := hM.2.2.2; omega⟩
  intro b hb
  obtain ⟨e1, e2, -⟩ := sgp gq.1 hx (p := 57) rfl
  have f19q : sI q 57 19 = sI S 57 19 := gq.fI 57 19 (by rw [e1]; exact e2) (by rw [e1]; decide)
  rw [f19q] at hb
  by_cases c : b = a
  · subst c
    refine ⟨v, n, by rw [f78q]; exact h78, by rw [s5q 57 9 (by omega)]; exact hv, by rw [s5q 66 _ (by omega)]; exact hn, fun z => ?_⟩
    obtain ⟨k, k1, k2, k3⟩ := hq2 z
    exact ⟨k, k1, k2, by rw [s5q 67 _ (by omega)]; exact k3⟩
  · exact AKa_same (hM.2.2.1 b hb) s5q (f78q b) (hq1 b c).1 (fun z => by rw [← (hq1 b c).2]; exact z)
theorem MI_deny {T : Nat → Nat} {S q : AS} {x : Option Nat} {a : Nat} (hM : MI S) (hx : Tx T 100 x) (hR : Rl T [12500] S 0 0 T q) (e : q = wI S 80 a 2) : MI q := by
  have s5q : same5 S q := same5_Rl hR hx (by decide)
  refine ⟨SR_same hM.1 s5q, AC_same hM.2.1 s5q, ?_, by have h1 := hR.2.2.2.1.2.2.2; have h2 := hM.2.2.2; omega⟩
  intro b hb
  have f19q : sI q 57 19 = sI S 57 19 := by rw [e, ti_sI_ne (by omega)]
  rw [f19q] at hb
  refine AKa_same (hM.2.2.1 b hb) s5q (by rw [e, ti_sI_ne (by omega)]) (by rw [e, ti_sI_ne (by omega)]) (fun z => ?_)
  by_cases c : b = a
  · subst c
    rw [e, ti_sI_eq] at z
    exact absurd z (by decide)
  · rw [e, ti_sI_ne (fun y => c y.2)] at z
    exact z
theorem an_B168 {T : Nat → Nat} {S : AS} (hT : TI T S) {x : Option Nat} {a : Int32} (hx : Tx T 100 x) (ha : In 0 59 a) (hM : MI S) : Ho (f_M_answer_B168 S x a) (fun q => Rl T [12500] S 0 0 T q.2 ∧ MI q.2) := by
  have g0 : Rl T [12500] S 0 0 T S := Rlweak (Rlrf hT) (fun z hz => by cases hz) (Nat.le_refl _) (Nat.le_refl _)
  have b195 : ∀ S', Rl T [12500] S 0 0 T S' → MI S' → Ho (f_M_answer_B195 S' x a) (fun q => Rl T [12500] S 0 0 T q.2 ∧ MI q.2) := fun S' g m => by
    unfold f_M_answer_B195
    refine r_gR g.1 hx rfl rfl (fun v1 h1 => ?_)
    refine r_aI g.1 h1 rfl rfl ha (by decide) (fun v2 _ => r_some ⟨g, m⟩)
  unfold f_M_answer_B168
  refine r_gR hT hx rfl rfl (fun v3 h3 => ?_)
  refine r_aI hT h3 rfl rfl ha (by decide) (fun v4 _ => ?_)
  refine r_if (fun _ => ?_) (fun _ => b195 S g0 hM)
  refine r_gR hT hx rfl rfl (fun v5 h5 => ?_)
  refine r_aI hT h5 rfl rfl ha (by decide) (fun v6 _ => ?_)
  refine r_if (fun _ => ?_) (fun _ => b195 S g0 hM)
  refine r_gR hT hx rfl rfl (fun v7 h7 => ?_)
  refine r_bIs (w' := [12500]) (Rlrf hT) h7 rfl (p := 80) rfl rfl ha (by decide) (fun _ _ _ q => by cases q; decide) (fun _ => rfl) (by decide) (by decide +kernel) (fun _ => by unfold phc; omega) (fun S8 g8 e8 => ?_)
  exact b195 S8 g8 (MI_deny hM hx g8 e8)
def kw_an : List Nat := [10082, 12700, 12600, 12900, 10100, 10200, 10300, 10400, 12400, 10030, 10077, 10081, 10500, 10600, 12500, 12800, 13100, 13200, 13300, 13400, 13500, 13600, 17800, 17900, 18000]
theorem mul3b : ∀ a, a < 60 → ∀ i, i < 3 → In 0 179 ((3 : Int32) * Int32.ofNat a + Int32.ofNat i) := mul3
theorem an_B37 {T : Nat → Nat} {S : AS} (hT : TI T S) {x : Option Nat} {a x2 x3 y1 y2 y3 : Int32} (hx : Tx T 100 x) (hph : Ph S ≤ 1100) (hM : MI S) (h : ¬ y1 = 0 → ¬ y2 = 0 → ¬ y3 = 0 → In 0 59 a ∧ a.toInt < (sI S 57 19).toInt ∧ sI S 80 a.toNatClampNeg = 0) : Ho (f_M_answer_B37 S x a x2 x3 x y1 y2 y3) (fun q => Rl T kw_an S 1 0 T q.2 ∧ MI q.2) := by
  have g0 := Rlrf hT
  unfold f_M_answer_B37
  refine r_rv hT hx rfl ?_
  refine r_mayAll (w' := [10082]) g0 hx (by decide +kernel) (fun S9 g9 f9 c1 c2 c3 => ?_) (fun S9 g9 _ => ?_)
  · obtain ⟨ha, hlt, h80⟩ := h c1 c2 c3
    have hM9 := MI_fr hM g9 hx (by decide)
    have hnat := natI ha.1
    obtain ⟨v, n, k78, kv, kn, kk⟩ := hM9.2.2.1 a.toNatClampNeg (by rw [f9 57 19 (by omega), hnat]; exact hlt)
    obtain ⟨k, k1, k79, k67⟩ := kk (by rw [f9 80 _ (by omega)]; exact h80)
    obtain ⟨nv, hnv, hnv8⟩ := fld g9.1 hx (j := 9) (b := 8) rfl
    have hv8 : v < 8 := by omega
    obtain ⟨n', hn', hn12⟩ := steps_n g9.1 hx (v := v) (by omega)
    have hnn : n' = n := by omega
    subst hnn
    obtain ⟨r1, r2⟩ := ri (n := 12 * v + k) (by omega)
    have kc : In 0 0 (sI S9 67 (Int32.ofNat (12 * v + k)).toNatClampNeg) := by rw [r2, k67]; decide
    clear c1 c2 c3 h f9
    refine r_ifF (by decide) ?_
    refine r_gR g9.1 hx rfl rfl (fun v12 h12 => ?_)
    refine r_aIs g9.1 h12 rfl (p := 78) rfl rfl ha (by decide) (fun v13 _ e13 => ?_)
    refine r_gR g9.1 hx rfl rfl (fun v14 h14 => ?_)
    refine r_aIs g9.1 h14 rfl (p := 79) rfl rfl ha (by decide) (fun v15 _ e15 => ?_)
    refine r_val ?_
    rw [e13, k78, e15, k79, mulv v hv8 k (by omega)]
    refine r_gR g9.1 hx rfl rfl (fun v17 h17 => ?_)
    refine r_aI g9.1 h17 rfl rfl ha (by decide) (fun v18 _ => ?_)
    refine r_bIs (w' := [10082, 12700]) g9 h17 rfl (p := 82) rfl rfl ha (by decide) (fun _ _ _ q => by cases q) (fun _ => rfl) (by decide) (by decide +kernel) (fun _ => by unfold phc; omega) (fun S19 g19 e19 => ?_)
    have l19 : Rl T [12700] S9 0 0 T S19 := by
      rw [e19]
      obtain ⟨p1, p2, -⟩ := sgp g9.1 h17 (p := 82) rfl
      exact RlwI (Rlrf g9.1) (by rw [← e19]; exact g19.1) p1 (by omega) (by rw [cl_a (by decide)]; decide) (by unfold phc; omega)
    clear e19
    have hM19 := MI_fr hM9 l19 hx (by decide)
    have s19 : same5 S9 S19 := same5_Rl l19 hx (by decide)
    have f79 : ∀ b, sI S19 79 b = sI S9 79 b := fr80 l19 hx 124 79 24 rfl rfl (by decide) (by decide +kernel)
    have f78 : ∀ b, sI S19 78 b = sI S9 78 b := fr80 l19 hx 123 78 23 rfl rfl (by decide) (by decide +kernel)
    refine r_gR g19.1 hx rfl rfl (fun v20 h20 => ?_)
    refine r_aIs g19.1 h20 rfl (p := 75) rfl rfl ha (by decide) (fun v21 b21 _ => ?_)
    have q21 : In 0 5 v21 := b21 _ _ rfl
    refine r_gR g19.1 hx rfl rfl (fun v22 h22 => ?_)
    refine r_aIs g19.1 h22 rfl (p := 68) rfl rfl r1 (by decide) (fun v23 _ e23 => ?_)
    have kc19 : In 0 0 (sI S19 67 (Int32.ofNat (12 * v + k)).toNatClampNeg) := by rw [s19 67 _ (by omega)]; exact kc
    have q23 : In 0 2 v23 := SR_a0 hM19.1 r1 kc19 e23
    refine r_rv g19.1 hx rfl ?_
    refine r_b2 (t_M_answers g19.1 hx q21 q23 (phS hph g19 (by decide))) (fun v26 S25 h24 => ?_)
    obtain ⟨l25, -⟩ := h24
    have g25 : Rl T kw_an S 1 0 T S25 := Rltrans g19 l25 (by decide +kernel)
    have hM25 := MI_fr hM19 l25 hx (by decide)
    have s25 : same5 S19 S25 := same5_Rl l25 hx (by decide)
    have f78b : sI S25 78 a.toNatClampNeg = Int32.ofNat v := by rw [fr80 l25 hx 123 78 23 rfl rfl (by decide) (by decide +kernel), f78]; exact k78
    have s95 : same5 S9 S25 := fun p i hp => (s25 p i hp).trans (s19 p i hp)
    clear s19 s25 f79 f78 hM19 l19 l25 g19
    have go : ∀ (S' : AS), Rl T kw_an S 1 0 T S' → Rl T [12600, 12900] S25 0 0 T S' → ∀ y : Int32, (y = -1 ∨ ∃ t, t < n' ∧ y = Int32.ofNat t) → Ho ((f_M_go S' x a y).bind fun S37 => f_M_answer_B168 S37 x a) (fun q => Rl T kw_an S 1 0 T q.2 ∧ MI q.2) := by
      intro S' g' l' y hy
      have hM' := MI_fr hM25 l' hx (by decide)
      have s' : same5 S9 S' := fun p i hp => ((same5_Rl l' hx (by decide)) p i hp).trans (s95 p i hp)
      have h78' : sI S' 78 a.toNatClampNeg = Int32.ofNat v := by rw [fr80 l' hx 123 78 23 rfl rfl (by decide) (by decide +kernel)]; exact f78b
      have hv' : (v : Int) < (sI S' 57 9).toInt := by rw [s' 57 9 (by omega)]; exact kv
      have hn2 : (sI S' 66 v).toInt = (n' : Int) := by rw [s' 66 v (by omega)]; exact hn'
      obtain ⟨n1, hnx, ρ, hrk⟩ := hM'.2.1 v n' hv' hn2
      refine r_bind (t_M_go (v := v) (n := n') g'.1 hx ha (phS hph g' (by decide)) hM'.1 hv8 hn12 h78' hnx hrk hy) (fun S37 hq => ?_)
      have hM37 := MI_go hM' hx h78' hv' hn2 hq
      have g37 : Rl T kw_an S 1 0 T S37 := Rltrans g' hq.1 (by decide +kernel)
      obtain ⟨b, hb, l1, m1⟩ := an_B168 g37.1 hx ha hM37
      exact ⟨b, hb, Rltrans g37 l1 (by decide +kernel), m1⟩
    have nxt : ∀ y : Int32, (∀ S', same5 S9 S' → SR S' → In (-1) 11 y) → nx S9 (12 * v) k y.toNatClampNeg ∨ y.toInt < 0 → In (-1) 11 y → (y = -1 ∨ ∃ t, t < n' ∧ y = Int32.ofNat t) := by
      intro y _ h1 h2
      by_cases c : y.toInt < 0
      · exact Or.inl (Int32.toInt_inj.mp (by rw [show (-1 : Int32).toInt = -1 from by decide]; have := h2.1; omega))
      · rcases h1 with h1 | h1
        · obtain ⟨n1, hnx, -⟩ := hM9.2.1 v n' kv hn'
          have hnat2 := natI (i := y) (by omega)
          have := nxin_t hnx k1 (by rw [k67]; decide) h1
          exact Or.inr ⟨y.toNatClampNeg, this, ofNat_of hnat2.symm⟩
        · exact absurd h1 c
    refine r_if (fun _ => ?_) (fun _ => ?_)
    · refine r_gR g25.1 hx rfl rfl (fun v27 h27 => ?_)
      refine r_aI g25.1 h27 rfl rfl ha (by decide) (fun v28 _ => ?_)
      refine r_bIs (w' := kw_an) g25 h27 rfl (p := 81) rfl rfl ha (by decide) (fun _ _ _ q => by cases q) (fun _ => rfl) (by decide) (by decide +kernel) (fun _ => by unfold phc; omega) (fun S29 g29 e29 => ?_)
      have l29 : Rl T [12600, 12900] S25 0 0 T S29 := by
        rw [e29]
        obtain ⟨p1, p2, -⟩ := sgp g25.1 h27 (p := 81) rfl
        exact RlwI (Rlrf g25.1) (by rw [← e29]; exact g29.1) p1 (by omega) (by rw [cl_a (by decide)]; decide) (by unfold phc; omega)
      clear e29
      have s29 : same5 S9 S29 := fun p i hp => ((same5_Rl l29 hx (by decide)) p i hp).trans (s95 p i hp)
      have hM29 := MI_fr hM25 l29 hx (by decide)
      refine r_gR g29.1 hx rfl rfl (fun v30 h30 => ?_)
      refine r_aI g29.1 h30 rfl rfl ha (by decide) (fun v31 _ => ?_)
      refine r_gR g29.1 hx rfl rfl (fun v32 h32 => ?_)
      refine r_aI g29.1 h32 rfl rfl r1 (by decide) (fun v33 _ => ?_)
      refine r_if (fun _ => ?_) (fun _ => ?_)
      · refine r_gR g29.1 hx rfl rfl (fun v34 h34 => ?_)
        refine r_aIs g29.1 h34 rfl (p := 71) rfl rfl r1 (by decide) (fun v35 _ e35 => ?_)
        have kc29 : In 0 0 (sI S29 67 (Int32.ofNat (12 * v + k)).toNatClampNeg) := by rw [s29 67 _ (by omega)]; exact kc
        have r35 : In (-1) 11 v35 := SR_n hM29.1 r1 kc29 (by decide) e35
        refine r_rv g29.1 hx rfl ?_
        refine go S29 g29 l29 v35 (nxt v35 (fun _ _ _ => r35) ?_ r35)
        by_cases c : v35.toInt < 0
        · exact Or.inr c
        · refine Or.inl (Or.inr ?_)
          rw [natI (i := v35) (by omega), e35, r2, s29 71 _ (by omega)]
      · obtain ⟨b, hb, l1, m1⟩ := an_B168 g29.1 hx ha hM29
        exact ⟨b, hb, Rltrans g29 l1 (by decide +kernel), m1⟩
    · refine r_gR g25.1 hx rfl rfl (fun v38 h38 => ?_)
      refine r_gR g25.1 hx rfl rfl (fun v39 h39 => ?_)
      refine r_aIs g25.1 h39 rfl (p := 68) rfl rfl r1 (by decide) (fun v40 _ e40 => ?_)
      have kc25 : In 0 0 (sI S25 67 (Int32.ofNat (12 * v + k)).toNatClampNeg) := by rw [s95 67 _ (by omega)]; exact kc
      have q40 : In 0 2 v40 := SR_a0 hM25.1 r1 kc25 e40
      refine r_gIs g25.1 hx rfl (p := 57) rfl (fun v41 _ _ => ?_)
      obtain ⟨na, hna, rfl⟩ := ofNat_In (n := 59) ha
      obtain ⟨nb, hnb, rfl⟩ := ofNat_In (n := 2) q40
      refine r_bIs (w' := kw_an) g25 h38 rfl (p := 84) rfl rfl (mul3 na (by omega) nb (by omega)) (by decide) (fun _ _ _ q => by cases q) (fun _ => rfl) (by decide) (by decide +kernel) (fun _ => by unfold phc; omega) (fun S42 g42 e42 => ?_)
      have l42 : Rl T [12600, 12900] S25 0 0 T S42 := by
        rw [e42]
        obtain ⟨p1, p2, -⟩ := sgp g25.1 h38 (p := 84) rfl
        exact RlwI (Rlrf g25.1) (by rw [← e42]; exact g42.1) p1 (by omega) (by rw [cl_a (by decide)]; decide) (by unfold phc; omega)
      clear e42
      have s42 : same5 S9 S42 := fun p i hp => ((same5_Rl l42 hx (by decide)) p i hp).trans (s95 p i hp)
      have hM42 := MI_fr hM25 l42 hx (by decide)
      refine r_gR g42.1 hx rfl rfl (fun v43 h43 => ?_)
      refine r_aIs g42.1 h43 rfl (p := 70) rfl rfl r1 (by decide) (fun v44 _ e44 => ?_)
      have kc42 : In 0 0 (sI S42 67 (Int32.ofNat (12 * v + k)).toNatClampNeg) := by rw [s42 67 _ (by omega)]; exact kc
      have r44 : In (-1) 11 v44 := SR_y hM42.1 r1 kc42 (by decide) e44
      refine r_rv g42.1 hx rfl ?_
      refine go S42 g42 l42 v44 (nxt v44 (fun _ _ _ => r44) ?_ r44)
      by_cases c : v44.toInt < 0
      · exact Or.inr c
      · refine Or.inl (Or.inl ?_)
        rw [natI (i := v44) (by omega), e44, r2, s42 70 _ (by omega)]
  · refine r_ifT rfl (r_some ⟨Rlweak g9 (by decide +kernel) (by decide) (by decide), MI_fr hM g9 hx (by decide)⟩)
theorem t_M_answer {T : Nat → Nat} {S : AS} (hT : TI T S) {x : Option Nat} {a x2 x3 : Int32} (hx : Tx T 100 x) (hph : Ph S ≤ 1100) (hM : MI S) : Ho (f_M_answer S x a x2 x3) (fun q => Rl T kw_an S 1 0 T q.2 ∧ MI q.2) := by
  have key : ∀ v49 v51 : Int32, (¬ v49 = 0 → In 0 59 a ∧ a.toInt < (sI S 57 19).toInt) → Ho (if v49 = 0 then f_M_answer_B36 S x a x2 x3 x v49 v51 else (gR S 23 25 x).bind fun v52 => (aI S 40 v52 a).bind fun v53 => if v53 = 0 then f_M_answer_B37 S x a x2 x3 x v49 v51 (1 : Int32) else f_M_answer_B36 S x a x2 x3 x v49 v51) (fun q => Rl T kw_an S 1 0 T q.2 ∧ MI q.2) := by
    intro v49 v51 h
    have b36 : Ho (f_M_answer_B36 S x a x2 x3 x v49 v51) (fun q => Rl T kw_an S 1 0 T q.2 ∧ MI q.2) := by
      unfold f_M_answer_B36
      exact an_B37 hT hx hph hM (fun _ _ q => absurd rfl q)
    refine r_if (fun _ => b36) (fun c => ?_)
    obtain ⟨ha, hlt⟩ := h c
    refine r_gR hT hx rfl rfl (fun v52 h52 => ?_)
    refine r_aIs hT h52 rfl (p := 80) rfl rfl ha (by decide) (fun v53 _ e53 => ?_)
    refine r_if (fun c0 => ?_) (fun _ => b36)
    exact an_B37 hT hx hph hM (fun _ _ _ => ⟨ha, hlt, by rw [← e53]; exact c0⟩)
  unfold f_M_answer
  refine r_rv hT hx rfl ?_
  refine r_spl (u_isAttempt hT hx) (fun h => ?_) ?_
  · refine r_Mi (fun _ _ => ?_) ?_
    · exact key 1 1 (fun _ => h)
    · exact key 1 0 (fun _ => h)
  · refine r_Mi (fun _ _ => ?_) ?_
    · exact key 0 1 (fun q => absurd rfl q)
    · exact key 0 0 (fun q => absurd rfl q)
theorem t_M_asked {T : Nat → Nat} {S : AS} (hT : TI T S) {x : Option Nat} {a : Int32} (hx : Tx T 100 x) (hM : MI S) : Ho (f_M_asked S x a) (fun q => Rl T [10082] S 0 0 T q.2 ∧ MI q.2) := by
  have g0 := Rlrf hT
  have key : ∀ y : Int32, In 0 1 y → (¬ y = 0 → In 0 59 a ∧ a.toInt < (sI S 57 19).toInt) → Ho ((kr_rv S 23 x).bind fun _ => kr_b2 (f_M_may S x y) fun v6 S5 => if v6 = 0 then some ((0 : Int32), S5) else (gR S5 23 25 x).bind fun v7 => (aI S5 40 v7 a).bind fun v8 => if v8 = 0 then (gR S5 23 12 x).bind fun v9 => (gR S5 23 23 x).bind fun v10 => (aI S5 40 v10 a).bind fun v11 => (gR S5 23 24 x).bind fun v12 => (aI S5 40 v12 a).bind fun v13 => (aI S5 40 v9 (((12 : Int32) * v11) + v13)).bind fun v14 => some (v14, S5) else some ((-1 : Int32), S5)) (fun q => Rl T [10082] S 0 0 T q.2 ∧ MI q.2) := by
    intro y hy h
    refine r_rv hT hx rfl ?_
    refine r_may (w' := [10082]) g0 hx hy (by decide +kernel) (fun S9 g9 f9 c => ?_) (fun S9 g9 _ => r_ifT rfl (r_some ⟨g9, MI_fr hM g9 hx (by decide)⟩))
    obtain ⟨ha, hlt⟩ := h c
    have hM9 := MI_fr hM g9 hx (by decide)
    refine r_ifF (by decide) ?_
    refine r_gR g9.1 hx rfl rfl (fun v7 h7 => ?_)
    refine r_aIs g9.1 h7 rfl (p := 80) rfl rfl ha (by decide) (fun v8 _ e8 => ?_)
    refine r_if (fun c0 => ?_) (fun _ => r_some ⟨g9, hM9⟩)
    have hnat := natI ha.1
    obtain ⟨v, n, k78, kv, kn, kk⟩ := hM9.2.2.1 a.toNatClampNeg (by rw [f9 57 19 (by omega), hnat]; exact hlt)
    obtain ⟨k, k1, k79, k67⟩ := kk (by rw [← e8]; exact c0)
    obtain ⟨nv, hnv, hnv8⟩ := fld g9.1 hx (j := 9) (b := 8) rfl
    obtain ⟨n', hn', hn12⟩ := steps_n g9.1 hx (v := v) (by omega)
    have hnn : n' = n := by omega
    subst hnn
    obtain ⟨r1, r2⟩ := ri (n := 12 * v + k) (by omega)
    refine r_gR g9.1 hx rfl rfl (fun v9 h9 => ?_)
    refine r_gR g9.1 hx rfl rfl (fun v10 h10 => ?_)
    refine r_aIs g9.1 h10 rfl (p := 78) rfl rfl ha (by decide) (fun v11 _ e11 => ?_)
    refine r_gR g9.1 hx rfl rfl (fun v12 h12 => ?_)
    refine r_aIs g9.1 h12 rfl (p := 79) rfl rfl ha (by decide) (fun v13 _ e13 => ?_)
    rw [e11, k78, e13, k79, mulv v (by omega) k (by omega)]
    exact r_aI g9.1 h9 rfl rfl r1 (by decide) (fun v14 _ => r_some ⟨g9, hM9⟩)
  unfold f_M_asked
  refine r_rv hT hx rfl ?_
  exact r_spl (u_isAttempt hT hx) (fun h => key 1 (by decide) (fun _ => h)) (key 0 (by decide) (fun q => absurd rfl q))
end
section
/-! ===== step: what it asks ===== -/
def most (k : Int32) : Int32 := if k = 0 then 2 else if k = 1 then 0 else if k = 2 then 20 else if k = 3 then 2 else if k = 4 then 6 else 0
def OKS (k a b y n : Int32) : Prop := In 0 6 k ∧ (0 ≤ a ∧ a ≤ most k) ∧ (if k = 0 then In 1 3 b else b = 0) ∧ (k.toInt < 5 → In (-1) 11 y ∧ In (-1) 11 n)
theorem ho_most (S : AS) (k : Int32) : f_K_mostFirst S k = some (most k, S) := by
  unfold f_K_mostFirst most
  by_cases c0 : k = 0
  · rw [if_pos c0, if_pos c0]
  · rw [if_neg c0, if_neg c0]
    by_cases c1 : k = 1
    · rw [if_pos c1, if_pos c1]
    · rw [if_neg c1, if_neg c1]
      by_cases c2 : k = 2
      · rw [if_pos c2, if_pos c2]
      · rw [if_neg c2, if_neg c2]
        by_cases c3 : k = 3
        · rw [if_pos c3, if_pos c3]
        · rw [if_neg c3, if_neg c3]
          by_cases c4 : k = 4
          · rw [if_pos c4, if_pos c4]
          · rw [if_neg c4, if_neg c4]
/-- a range, decided -/
theorem r_KwX {β : Type} {S : AS} {a lo hi : Int32} {F : Int32 → AS → Option β} {Q : β → Prop} (h1 : lo ≤ a → a ≤ hi → Ho (F 1 S) Q) (h0 : ¬ (lo ≤ a ∧ a ≤ hi) → Ho (F 0 S) Q) : Ho (kr_b2 (f_K_isWithin S a lo hi) F) Q := by
  unfold f_K_isWithin
  by_cases c1 : a < lo
  · rw [if_pos c1]; exact h0 (fun q => absurd q.1 (Int32.not_le.mpr c1))
  · by_cases c2 : hi < a
    · rw [if_neg c1, if_pos c2]; exact h0 (fun q => absurd q.2 (Int32.not_le.mpr c2))
    · rw [if_neg c1, if_neg c2]; exact h1 (Int32.not_lt.mp c1) (Int32.not_lt.mp c2)
theorem r_MiX {β : Type} {S : AS} {a lo hi : Int32} {F : Int32 → AS → Option β} {Q : β → Prop} (h1 : lo ≤ a → a ≤ hi → Ho (F 1 S) Q) (h0 : ¬ (lo ≤ a ∧ a ≤ hi) → Ho (F 0 S) Q) : Ho (kr_b2 (f_M_isIn S a lo hi) F) Q := by
  unfold f_M_isIn
  by_cases c1 : a < lo
  · rw [if_pos c1]; exact h0 (fun q => absurd q.1 (Int32.not_le.mpr c1))
  · by_cases c2 : hi < a
    · rw [if_neg c1, if_pos c2]; exact h0 (fun q => absurd q.2 (Int32.not_le.mpr c2))
    · rw [if_neg c1, if_neg c2]; exact h1 (Int32.not_lt.mp c1) (Int32.not_lt.mp c2)
theorem In_iff {lo hi a : Int32} : (lo ≤ a ∧ a ≤ hi) ↔ In lo.toInt hi.toInt a := by
  rw [Int32.le_iff_toInt_le, Int32.le_iff_toInt_le]
theorem r_KnX {β : Type} {S : AS} {a : Int32} {F : Int32 → AS → Option β} {Q : β → Prop} (h1 : In (-1) 11 a → Ho (F 1 S) Q) (h0 : ¬ In (-1) 11 a → Ho (F 0 S) Q) : Ho (kr_b2 (f_K_isNext S a) F) Q := by
  have : ∃ v, f_K_isNext S a = some (v, S) ∧ ((v = 1 ∧ In (-1) 11 a) ∨ (v = 0 ∧ ¬ In (-1) 11 a)) := by
    obtain ⟨⟨v, S'⟩, e, h⟩ : Ho (f_K_isNext S a) (fun q => q.2 = S ∧ ((q.1 = 1 ∧ In (-1) 11 a) ∨ (q.1 = 0 ∧ ¬ In (-1) 11 a))) := by
      unfold f_K_isNext
      exact r_KwX (fun p q => ⟨(1, S), rfl, rfl, Or.inl ⟨rfl, In_iff.mp ⟨p, q⟩⟩⟩) (fun p => ⟨(0, S), rfl, rfl, Or.inr ⟨rfl, fun q => p (In_iff.mpr q)⟩⟩)
    obtain ⟨h1, h2⟩ := h
    cases h1
    exact ⟨v, e, h2⟩
  obtain ⟨v, e, h⟩ := this
  rw [e, b2_s]
  rcases h with ⟨rfl, h⟩ | ⟨rfl, h⟩
  · exact h1 h
  · exact h0 h
theorem r_MnX {β : Type} {S : AS} {a : Int32} {F : Int32 → AS → Option β} {Q : β → Prop} (h1 : In (-1) 11 a → Ho (F 1 S) Q) (h0 : ¬ In (-1) 11 a → Ho (F 0 S) Q) : Ho (kr_b2 (f_M_isNext S a) F) Q := by
  have : ∃ v, f_M_isNext S a = some (v, S) ∧ ((v = 1 ∧ In (-1) 11 a) ∨ (v = 0 ∧ ¬ In (-1) 11 a)) := by
    obtain ⟨⟨v, S'⟩, e, h⟩ : Ho (f_M_isNext S a) (fun q => q.2 = S ∧ ((q.1 = 1 ∧ In (-1) 11 a) ∨ (q.1 = 0 ∧ ¬ In (-1) 11 a))) := by
      unfold f_M_isNext
      exact r_MiX (fun p q => ⟨(1, S), rfl, rfl, Or.inl ⟨rfl, In_iff.mp ⟨p, q⟩⟩⟩) (fun p => ⟨(0, S), rfl, rfl, Or.inr ⟨rfl, fun q => p (In_iff.mpr q)⟩⟩)
    obtain ⟨h1, h2⟩ := h
    cases h1
    exact ⟨v, e, h2⟩
  obtain ⟨v, e, h⟩ := this
  rw [e, b2_s]
  rcases h with ⟨rfl, h⟩ | ⟨rfl, h⟩
  · exact h1 h
  · exact h0 h
theorem t_isStep (S : AS) (k a b y n : Int32) : Ho (f_K_isStep S k a b y n) (fun q => q.2 = S ∧ ((q.1 = 1 ∧ OKS k a b y n) ∨ (q.1 = 0 ∧ ¬ OKS k a b y n))) := by
  have no : ¬ OKS k a b y n → Ho (some ((0 : Int32), S)) (fun q => q.2 = S ∧ ((q.1 = 1 ∧ OKS k a b y n) ∨ (q.1 = 0 ∧ ¬ OKS k a b y n))) := fun h => r_some ⟨rfl, Or.inr ⟨rfl, h⟩⟩
  have tl : In 0 6 k → (0 ≤ a ∧ a ≤ most k) → (if k = 0 then In 1 3 b else b = 0) → Ho (if (5 : Int32) ≤ k then f_K_isStep_B71 S else kr_b2 (f_K_isNext S y) fun v4 S3 => if v4 = 0 then some ((0 : Int32), S3) else kr_b2 (f_K_isNext S3 n) fun v6 S5 => if v6 = 0 then some ((0 : Int32), S5) else f_K_isStep_B71 S5) (fun q => q.2 = S ∧ ((q.1 = 1 ∧ OKS k a b y n) ∨ (q.1 = 0 ∧ ¬ OKS k a b y n))) := by
    intro h1 h2 h3
    refine r_if (fun c5 => ?_) (fun c5 => ?_)
    · refine r_some ⟨rfl, Or.inl ⟨rfl, h1, h2, h3, fun q => ?_⟩⟩
      have := Int32.le_iff_toInt_le.mp c5
      rw [show (5 : Int32).toInt = 5 from by decide] at this
      omega
    · have k5 : k.toInt < 5 := by
        have := Int32.lt_iff_toInt_lt.mp (Int32.not_le.mp c5)
        rw [show (5 : Int32).toInt = 5 from by decide] at this
        exact this
      refine r_KnX (fun hy => ?_) (fun hy => r_ifT rfl (no (fun q => hy (q.2.2.2 k5).1)))
      refine r_ifF (by decide) ?_
      refine r_KnX (fun hn => ?_) (fun hn => r_ifT rfl (no (fun q => hn (q.2.2.2 k5).2)))
      exact r_ifF (by decide) (r_some ⟨rfl, Or.inl ⟨rfl, h1, h2, h3, fun _ => ⟨hy, hn⟩⟩⟩)
  unfold f_K_isStep
  refine r_KwX (fun p q => ?_) (fun h => r_ifT rfl (no (fun z => h (In_iff.mpr z.1))))
  have h1 : In 0 6 k := In_iff.mp ⟨p, q⟩
  refine r_ifF (by decide) ?_
  rw [ho_most, b2_s]
  refine r_KwX (fun p2 q2 => ?_) (fun h => r_ifT rfl (no (fun z => h z.2.1)))
  refine r_ifF (by decide) ?_
  refine r_if (fun c0 => ?_) (fun c0 => ?_)
  · unfold f_K_isStep_B34 f_K_isStep_B43
    refine r_ifT c0 ?_
    refine r_KwX (fun p3 q3 => ?_) (fun h => r_ifT rfl (no (fun z => h (In_iff.mpr (by have := z.2.2.1; rw [if_pos c0] at this; exact this)))))
    exact r_ifF (by decide) (tl h1 ⟨p2, q2⟩ (by rw [if_pos c0]; exact In_iff.mp ⟨p3, q3⟩))
  · unfold f_K_isStep_B34 f_K_isStep_B43
    refine r_ifF c0 ?_
    refine r_KwX (fun p3 q3 => ?_) (fun h => r_ifT rfl (no (fun z => h (by have := z.2.2.1; rw [if_neg c0] at this; rw [this]; decide))))
    refine r_ifF (by decide) (tl h1 ⟨p2, q2⟩ ?_)
    rw [if_neg c0]
    have := In_iff.mp ⟨p3, q3⟩
    obtain ⟨z1, z2⟩ := this
    rw [show (0 : Int32).toInt = 0 from by decide] at z1 z2
    exact Int32.toInt_inj.mp (by rw [show (0 : Int32).toInt = 0 from by decide]; omega)
theorem t_M_step_ok {S : AS} {x : Option Nat} {k a b y n : Int32} {Q : Int32 × AS → Prop} (h1 : OKS k a b y n → Ho (f_M_step_B109 S x k a b y n) Q) (h0 : ¬ OKS k a b y n → Ho (f_M_step_B113 S x k a b y n) Q) : Ho (f_M_step S x k a b y n) Q := by
  have b80 : ¬ OKS k a b y n → Ho (f_M_step_B80 S x k a b y n) Q := fun h => by
    unfold f_M_step_B80 f_M_step_B81
    exact r_ifT rfl (h0 h)
  have b76 : In 0 6 k → (0 ≤ a ∧ a ≤ most k) → (if k = 0 then In 1 3 b else b = 0) → Ho (f_M_step_B76 S x k a b y n) Q := by
    intro g1 g2 g3
    unfold f_M_step_B76 f_M_step_B81
    refine r_ifF (by decide) ?_
    refine r_if (fun c5 => h1 ⟨g1, g2, g3, fun q => ?_⟩) (fun c5 => ?_)
    · have := Int32.le_iff_toInt_le.mp c5
      rw [show (5 : Int32).toInt = 5 from by decide] at this
      omega
    · have k5 : k.toInt < 5 := by
        have := Int32.lt_iff_toInt_lt.mp (Int32.not_le.mp c5)
        rw [show (5 : Int32).toInt = 5 from by decide] at this
        exact this
      refine r_MnX (fun hy => ?_) (fun hy => r_ifT rfl (h0 (fun q => hy (q.2.2.2 k5).1)))
      refine r_ifF (by decide) ?_
      refine r_MnX (fun hn => ?_) (fun hn => r_ifT rfl (h0 (fun q => hn (q.2.2.2 k5).2)))
      exact r_ifF (by decide) (h1 ⟨g1, g2, g3, fun _ => ⟨hy, hn⟩⟩)
  have b34 : ∀ m, m = most k → Ho (f_M_step_B34 S x k a b y n m) Q := by
    intro m hm
    subst hm
    unfold f_M_step_B34
    refine r_MiX (fun p q => ?_) (fun h => r_ifT rfl (b80 (fun z => h (In_iff.mpr z.1))))
    have g1 : In 0 6 k := In_iff.mp ⟨p, q⟩
    refine r_ifF (by decide) ?_
    refine r_MiX (fun p2 q2 => ?_) (fun h => r_ifT rfl (b80 (fun z => h z.2.1)))
    refine r_ifF (by decide) ?_
    refine r_if (fun c0 => ?_) (fun c0 => ?_)
    · refine r_MiX (fun p3 q3 => ?_) (fun h => r_ifT rfl (b80 (fun z => h (In_iff.mpr (by have := z.2.2.1; rw [if_pos c0] at this; exact this)))))
      exact r_ifF (by decide) (b76 g1 ⟨p2, q2⟩ (by rw [if_pos c0]; exact In_iff.mp ⟨p3, q3⟩))
    · refine r_if (fun cb => b76 g1 ⟨p2, q2⟩ (by rw [if_neg c0]; exact cb)) (fun cb => b80 (fun z => cb (by have := z.2.2.1; rw [if_neg c0] at this; exact this)))
  unfold f_M_step f_M_step_B9
  unfold most at b34
  refine r_if (fun c0 => b34 _ (by rw [if_pos c0])) (fun c0 => ?_)
  refine r_if (fun c3 => b34 _ (by rw [if_neg c0, if_neg (by rw [c3]; decide), if_neg (by rw [c3]; decide), if_pos c3])) (fun c3 => ?_)
  refine r_if (fun c2 => b34 _ (by rw [if_neg c0, if_neg (by rw [c2]; decide), if_pos c2])) (fun c2 => ?_)
  refine r_if (fun c4 => b34 _ (by rw [if_neg c0, if_neg (by rw [c4]; decide), if_neg c2, if_neg c3, if_pos c4])) (fun c4 => ?_)
  refine b34 _ ?_
  rw [if_neg c0]
  by_cases c1 : k = 1
  · rw [if_pos c1]
  · rw [if_neg c1, if_neg c2, if_neg c3, if_neg c4]
end
section
/-! ===== step, clear, publish, leave: what they leave of what holds between calls ===== -/
theorem x_mayBoth {T : Nat → Nat} {S : AS} {x : Option Nat} {a b : Int32} (hT : TI T S) (hx : Tx T 100 x) : f_M_mayBoth S x a b = some (if a = 0 then (0, wI S 57 82 1) else if b = 0 then (0, wI S 57 82 2) else (1, wI S 57 82 0)) := by
  obtain ⟨h1, h2, rfl⟩ := sgp hT hx (p := 57) rfl
  have hk : sK S 57 = 23 := (Tx.K hT h1 h2).trans rfl
  have b18 : ∀ v : Int32, f_M_mayBoth_B18 S (some 57) (some 57) v = some ((if v = 0 then 1 else 0), wI S 57 82 v) := fun v => by
    unfold f_M_mayBoth_B18
    rw [ti_pI hk, Option.bind_some, ti_gI (κ := 23) (by exact hk), Option.bind_some, ti_sI_eq]
    by_cases c : v = 0
    · rw [if_pos c, if_pos c]
    · rw [if_neg c, if_neg c]
  unfold f_M_mayBoth
  by_cases c1 : a = 0
  · rw [if_pos c1, if_pos c1, b18, if_neg (by decide)]
  · rw [if_neg c1, if_neg c1]
    by_cases c2 : b = 0
    · rw [if_pos c2, if_pos c2, b18, if_neg (by decide)]
    · rw [if_neg c2, if_neg c2, b18, if_pos rfl]
theorem x_may {T : Nat → Nat} {S : AS} {x : Option Nat} {a : Int32} (hT : TI T S) (hx : Tx T 100 x) (ha : In 0 1 a) : f_M_may S x a = some (a, wI S 57 82 (if a = 0 then 1 else 0)) := by
  obtain ⟨h1, h2, rfl⟩ := sgp hT hx (p := 57) rfl
  have hk : sK S 57 = 23 := (Tx.K hT h1 h2).trans rfl
  have hz : kr_z a = some () := by
    unfold kr_z
    rw [if_pos (In01 ha)]
  unfold f_M_may
  by_cases c : a = 0
  · rw [if_pos c, if_pos c, ti_pI hk, Option.bind_some, hz]
    rfl
  · rw [if_neg c, if_neg c, ti_pI hk, Option.bind_some, hz]
    rfl
theorem thr_Rl {T : Nat → Nat} {S : AS} {x : Option Nat} (hT : TI T S) (hx : Tx T 100 x) (v : Int32) : Rl T [10082] S 0 0 T (wI S 57 82 v) := by
  obtain ⟨h1, h2, -⟩ := sgp hT hx (p := 57) rfl
  exact RlwI (Rlrf hT) (TIwI hT h1 (fun _ _ q => by cases q) (fun _ _ _ q => by cases q) (by decide)) h1 (by decide) (by decide +kernel) (by unfold phc; decide)
def STP (S S' : AS) (n : Nat) (k a b y z : Int32) : Prop := ∀ p i, sI S' p i = if p = 57 ∧ i = 82 then 0 else if p = 66 ∧ i = 8 then Int32.ofNat (n + 1) else if (67 ≤ p ∧ p ≤ 71) ∧ i = 96 + n then (if p = 67 then k else if p = 68 then a else if p = 69 then b else if p = 70 then y else z) else sI S p i
def kw_st : List Nat := [10082, 11000, 11100, 11200, 11300, 11400, 11500]
theorem most_r {k : Int32} {a : Int32} (h : 0 ≤ a ∧ a ≤ most k) : In 0 20 a ∧ ((k = 0 ∨ k = 3) → In 0 2 a) := by
  have h' := In_iff.mp h
  rw [show (0 : Int32).toInt = 0 from by decide] at h'
  unfold most at h'
  refine ⟨?_, fun q => ?_⟩
  · split at h'
    · exact In_w h' (by decide) (by decide)
    · split at h'
      · exact In_w h' (by decide) (by decide)
      · split at h'
        · exact In_w h' (by decide) (by decide)
        · split at h'
          · exact In_w h' (by decide) (by decide)
          · split at h'
            · exact In_w h' (by decide) (by decide)
            · exact In_w h' (by decide) (by decide)
  · rcases q with rfl | rfl
    · rw [if_pos rfl] at h'
      exact In_w h' (by decide) (by decide)
    · rw [if_neg (by decide), if_neg (by decide), if_neg (by decide), if_pos rfl] at h'
      exact In_w h' (by decide) (by decide)
theorem t_M_stepX {T : Nat → Nat} {S : AS} {x : Option Nat} {k a b y z : Int32} {n : Nat} (hT : TI T S) (hx : Tx T 100 x) (hn : n ≤ 12) (hs8 : (sI S 66 8).toInt = (n : Int)) : Ho (f_M_step S x k a b y z) (fun q => Rl T kw_st S 0 0 T q.2 ∧ ((¬ OKS k a b y z ∧ q = (0, wI S 57 82 1)) ∨ (OKS k a b y z ∧ 12 ≤ n ∧ q = (0, wI S 57 82 2)) ∨ (OKS k a b y z ∧ n < 12 ∧ q.1 = Int32.ofNat n ∧ STP S q.2 n k a b y z))) := by
  have thr : ∀ v, Rl T kw_st S 0 0 T (wI S 57 82 v) := fun v => Rlweak (thr_Rl hT hx v) (by decide +kernel) (Nat.le_refl _) (Nat.le_refl _)
  refine t_M_step_ok (fun hok => ?_) (fun hno => ?_)
  · unfold f_M_step_B109 f_M_step_B114
    refine rd8 hT hx hs8 ?_
    refine r_if (fun c => ?_) (fun c => ?_)
    · have := Int32.le_iff_toInt_le.mp c
      rw [(gl2 n (by omega)).1, show (12 : Int32).toInt = 12 from by decide] at this
      unfold f_M_step_B136
      refine r_rv hT hx rfl ?_
      rw [x_mayBoth hT hx, if_neg (by decide), if_pos rfl, b2_s]
      exact r_ifT rfl (r_some ⟨thr 2, Or.inr (Or.inl ⟨hok, by omega, rfl⟩)⟩)
    · have hn12 : n < 12 := by
        refine Nat.not_le.mp (fun q => c (Int32.le_iff_toInt_le.mpr ?_))
        rw [(gl2 n (by omega)).1, show (12 : Int32).toInt = 12 from by decide]
        omega
      unfold f_M_step_B136
      refine r_rv hT hx rfl ?_
      rw [x_mayBoth hT hx, if_neg (by decide), if_neg (by decide), b2_s]
      refine r_ifF (by decide) ?_
      have g1 := thr 0
      have s1 : ∀ p i, sI (wI S 57 82 0) p i = if p = 57 ∧ i = 82 then 0 else sI S p i := fun p i => rfl
      generalize wI S 57 82 0 = S2 at *
      refine rd8 g1.1 hx (n := n) (by rw [s1, if_neg (by omega)]; exact hs8) ?_
      refine r_val ?_
      have hix : In 0 107 ((96 : Int32) + Int32.ofNat n) := ⟨by rw [(i96 hn12).1]; omega, by rw [(i96 hn12).1]; omega⟩
      obtain ⟨o1, o2, o3, o4⟩ := hok
      obtain ⟨m1, m2⟩ := most_r o2
      refine r_gR g1.1 hx rfl rfl (fun v7 h7 => ?_)
      refine r_bIs (w' := kw_st) g1 h7 rfl (p := 67) rfl rfl hix (by decide) (fun _ _ _ q => by cases q; exact o1) (fun _ => rfl) (by decide) (by decide +kernel) (fun _ => by unfold phc; omega) (fun S3 g3 e3 => ?_)
      refine r_gR g3.1 hx rfl rfl (fun v9 h9 => ?_)
      refine r_bIs (w' := kw_st) g3 h9 rfl (p := 68) rfl rfl hix (by decide) (fun _ _ _ q => by cases q; exact m1) (fun _ => rfl) (by decide) (by decide +kernel) (fun _ => by unfold phc; omega) (fun S4 g4 e4 => ?_)
      refine r_gR g4.1 hx rfl rfl (fun v11 h11 => ?_)
      refine r_bIs (w' := kw_st) g4 h11 rfl (p := 69) rfl rfl hix (by decide) (fun _ _ _ q => by cases q) (fun _ => rfl) (by decide) (by decide +kernel) (fun _ => by unfold phc; omega) (fun S5 g5 e5 => ?_)
      refine r_gR g5.1 hx rfl rfl (fun v13 h13 => ?_)
      refine r_bIs (w' := kw_st) g5 h13 rfl (p := 70) rfl rfl hix (by decide) (fun _ _ _ q => by cases q) (fun _ => rfl) (by decide) (by decide +kernel) (fun _ => by unfold phc; omega) (fun S6 g6 e6 => ?_)
      refine r_gR g6.1 hx rfl rfl (fun v15 h15 => ?_)
      refine r_bIs (w' := kw_st) g6 h15 rfl (p := 71) rfl rfl hix (by decide) (fun _ _ _ q => by cases q) (fun _ => rfl) (by decide) (by decide +kernel) (fun _ => by unfold phc; omega) (fun S7 g7 e7 => ?_)
      rw [(i96 hn12).2] at e3 e4 e5 e6 e7
      have f7 : ∀ p i, sI S7 p i = if (67 ≤ p ∧ p ≤ 71) ∧ i = 96 + n then (if p = 67 then k else if p = 68 then a else if p = 69 then b else if p = 70 then y else z) else sI S2 p i := by
        intro p i
        rw [e7, sI_if, e6, sI_if, e5, sI_if, e4, sI_if, e3, sI_if]
        by_cases ci : i = 96 + n
        · by_cases c1 : p = 67
          · rw [if_neg (by omega), if_neg (by omega), if_neg (by omega), if_neg (by omega), if_pos ⟨c1, ci⟩, if_pos ⟨by omega, ci⟩, if_pos c1]
          · by_cases c2 : p = 68
            · rw [if_neg (by omega), if_neg (by omega), if_neg (by omega), if_pos ⟨c2, ci⟩, if_pos ⟨by omega, ci⟩, if_neg c1, if_pos c2]
            · by_cases c3 : p = 69
              · rw [if_neg (by omega), if_neg (by omega), if_pos ⟨c3, ci⟩, if_pos ⟨by omega, ci⟩, if_neg c1, if_neg c2, if_pos c3]
              · by_cases c4 : p = 70
                · rw [if_neg (by omega), if_pos ⟨c4, ci⟩, if_pos ⟨by omega, ci⟩, if_neg c1, if_neg c2, if_neg c3, if_pos c4]
                · by_cases c5 : p = 71
                  · rw [if_pos ⟨c5, ci⟩, if_pos ⟨by omega, ci⟩, if_neg c1, if_neg c2, if_neg c3, if_neg c4]
                  · rw [if_neg (by omega), if_neg (by omega), if_neg (by omega), if_neg (by omega), if_neg (by omega), if_neg (by omega)]
        · rw [if_neg (by omega), if_neg (by omega), if_neg (by omega), if_neg (by omega), if_neg (by omega), if_neg (by omega)]
      clear e3 e4 e5 e6 e7
      have h8' : (sI S7 66 8).toInt = (n : Int) := by rw [f7, if_neg (by omega), s1, if_neg (by omega)]; exact hs8
      refine r_gR g7.1 hx rfl rfl (fun v17 h17 => ?_)
      refine r_aIs g7.1 h17 rfl (p := 66) rfl rfl (by decide : In 0 8 (8 : Int32)) (by decide) (fun v18 _ e18 => ?_)
      rw [toNat8] at e18
      have e18' : v18 + (1 : Int32) = Int32.ofNat (n + 1) := by
        rw [e18, ofNat_of h8']
        exact (Int32.ofNat_add n 1).symm
      rw [e18']
      refine r_bIs (w' := kw_st) g7 h17 rfl (p := 66) rfl rfl (by decide : In 0 8 (8 : Int32)) (by decide) (fun _ _ _ q => by cases q; exact ⟨by rw [(gl2 (n + 1) (by omega)).1]; omega, by rw [(gl2 (n + 1) (by omega)).1]; omega⟩) (fun _ => rfl) (by decide) (by decide +kernel) (fun _ => by unfold phc; omega) (fun S8 g8 e8 => ?_)
      rw [toNat8] at e8
      refine rd8 g8.1 hx (n := n + 1) (by rw [e8, ti_sI_eq, (gl2 (n + 1) (by omega)).1]) ?_
      have en : Int32.ofNat (n + 1) - (1 : Int32) = Int32.ofNat n := by
        have : ∀ n, n < 13 → Int32.ofNat (n + 1) - (1 : Int32) = Int32.ofNat n := by decide +kernel
        exact this n (by omega)
      rw [en]
      refine r_some ⟨g8, Or.inr (Or.inr ⟨⟨o1, o2, o3, o4⟩, hn12, rfl, fun p i => ?_⟩)⟩
      show sI S8 p i = _
      rw [e8, sI_if, f7, s1]
      by_cases c1 : p = 57 ∧ i = 82
      · rw [if_neg (by omega), if_neg (by omega), if_pos c1, if_pos c1]
      · rw [if_neg c1, if_neg c1]
  · unfold f_M_step_B113 f_M_step_B114
    refine rd8 hT hx hs8 ?_
    have fin : ∀ y2 : Int32, Ho (f_M_step_B136 S x k a b y z x 0 y2) (fun q => Rl T kw_st S 0 0 T q.2 ∧ ((¬ OKS k a b y z ∧ q = (0, wI S 57 82 1)) ∨ (OKS k a b y z ∧ 12 ≤ n ∧ q = (0, wI S 57 82 2)) ∨ (OKS k a b y z ∧ n < 12 ∧ q.1 = Int32.ofNat n ∧ STP S q.2 n k a b y z))) := fun y2 => by
      unfold f_M_step_B136
      refine r_rv hT hx rfl ?_
      rw [x_mayBoth hT hx, if_pos rfl, b2_s]
      exact r_ifT rfl (r_some ⟨thr 1, Or.inl ⟨hno, rfl⟩⟩)
    exact r_if (fun _ => fin 0) (fun _ => fin 1)
theorem t_M_clearX {T : Nat → Nat} {S : AS} {x : Option Nat} {n : Nat} (hT : TI T S) (hx : Tx T 100 x) (hn : n ≤ 12) (hs8 : (sI S 66 8).toInt = (n : Int)) : Ho (f_M_clear S x) (fun q => Rl T kw_st S 0 0 T q.2 ∧ q = (Int32.ofNat n, wI (wI S 57 82 0) 66 8 0)) := by
  obtain ⟨h1, h2, -⟩ := sgp hT hx (p := 57) rfl
  unfold f_M_clear
  refine r_pIs (w' := kw_st) (Rlrf hT) hx (fun _ _ q => by cases q) (by decide +kernel) (by unfold phc; decide) (fun S1 g1 e1 => ?_)
  refine r_gR g1.1 hx rfl rfl (fun v2 h2' => ?_)
  refine r_aIs g1.1 h2' rfl (p := 66) rfl rfl (by decide : In 0 8 (8 : Int32)) (by decide) (fun v3 _ e3 => ?_)
  refine r_gR g1.1 hx rfl rfl (fun v4 h4 => ?_)
  refine r_bIs (w' := kw_st) g1 h4 rfl (p := 66) rfl rfl (by decide : In 0 8 (8 : Int32)) (by decide) (fun _ _ _ q => by cases q; decide) (fun _ => rfl) (by decide) (by decide +kernel) (fun _ => by unfold phc; omega) (fun S5 g5 e5 => ?_)
  rw [toNat8] at e3 e5
  rw [e1, ti_sI_ne (by omega)] at e3
  rw [e1] at e5
  refine r_some ⟨g5, ?_⟩
  rw [e5, e3, ofNat_of hs8]
/-! rows below the draft -/
def lowS (S S' : AS) : Prop := ∀ p i, ((p = 66 ∧ i < 8) ∨ ((p = 67 ∨ p = 68 ∨ p = 70 ∨ p = 71) ∧ i < 96) ∨ (p = 57 ∧ i = 9)) → sI S' p i = sI S p i
theorem AC_low {T : Nat → Nat} {S S' : AS} {x : Option Nat} (hT : TI T S) (hx : Tx T 100 x) (h : AC S) (e : lowS S S') : AC S' := by
  intro v n hv hn
  rw [e 57 9 (by omega)] at hv
  obtain ⟨nv, hnv, hnv8⟩ := fld hT hx (j := 9) (b := 8) rfl
  have hv8 : v < 8 := by omega
  rw [e 66 v (by omega)] at hn
  obtain ⟨n', hn', hn12⟩ := steps_n hT hx (v := v) (by omega)
  obtain ⟨h1, h2, ρ, h3⟩ := h v n hv hn
  have hn2 : n ≤ 12 := by omega
  have et : ∀ k, k < 12 → (te S' (12 * v) k ↔ te S (12 * v) k) := fun k hk => by
    unfold te
    rw [e 67 _ (by omega)]
  have en : ∀ k t, k < 12 → (nx S' (12 * v) k t ↔ nx S (12 * v) k t) := fun k t hk => by
    unfold nx
    rw [e 70 _ (by omega), e 71 _ (by omega)]
  refine ⟨h1, fun k hk h5 => ?_, ρ, h3.1, fun k hk q1 t q2 q3 => ?_⟩
  · rw [e 67 _ (by omega)] at h5
    rw [e 70 _ (by omega), e 71 _ (by omega)]
    exact h2 k hk h5
  · have q1' := (et k (by omega)).mp q1
    have q2' := (en k t (by omega)).mp q2
    have htn : t < n := nxin_t h2 hk (by have := q1'.2; omega) q2'
    exact h3.2 k hk q1' t q2' ((et t (by omega)).mp q3)
theorem AKa_low {T : Nat → Nat} {S S' : AS} {x : Option Nat} {a : Nat} (hT : TI T S) (hx : Tx T 100 x) (h : AKa S a) (e : lowS S S') (h8 : sI S' 78 a = sI S 78 a) (h9 : sI S' 79 a = sI S 79 a) (h0 : sI S' 80 a = 0 → sI S 80 a = 0) : AKa S' a := by
  obtain ⟨v, n, a1, a2, a3, a4⟩ := h
  obtain ⟨nv, hnv, hnv8⟩ := fld hT hx (j := 9) (b := 8) rfl
  have hv8 : v < 8 := by omega
  obtain ⟨n', hn', hn12⟩ := steps_n hT hx (v := v) (by omega)
  refine ⟨v, n, by rw [h8]; exact a1, by rw [e 57 9 (by omega)]; exact a2, by rw [e 66 v (by omega)]; exact a3, fun q => ?_⟩
  obtain ⟨k, k1, k2, k3⟩ := a4 (h0 q)
  exact ⟨k, k1, by rw [h9]; exact k2, by rw [e 67 _ (by omega)]; exact k3⟩
theorem MI_step {T : Nat → Nat} {S : AS} {x : Option Nat} {k a b y z : Int32} {n : Nat} {q : Int32 × AS} (hT : TI T S) (hx : Tx T 100 x) (hn : n ≤ 12) (hM : MI S) (h : Rl T kw_st S 0 0 T q.2 ∧ ((¬ OKS k a b y z ∧ q = (0, wI S 57 82 1)) ∨ (OKS k a b y z ∧ 12 ≤ n ∧ q = (0, wI S 57 82 2)) ∨ (OKS k a b y z ∧ n < 12 ∧ q.1 = Int32.ofNat n ∧ STP S q.2 n k a b y z))) : MI q.2 := by
  obtain ⟨hR, h | h | ⟨hok, hn12, -, hp⟩⟩ := h
  · rw [h.2]
    exact MI_fr hM (thr_Rl hT hx 1) hx (by decide)
  · rw [h.2.2]
    exact MI_fr hM (thr_Rl hT hx 2) hx (by decide)
  · obtain ⟨o1, o2, o3, o4⟩ := hok
    have e : lowS S q.2 := fun p i hpi => by rw [hp, if_neg (by omega), if_neg (by omega), if_neg (by omega)]
    have o : ∀ p i, p ≠ 66 → p ≠ 67 → p ≠ 68 → p ≠ 69 → p ≠ 70 → p ≠ 71 → ¬ (p = 57 ∧ i = 82) → sI q.2 p i = sI S p i := fun p i h1 h2 h3 h4 h5 h6 h7 => by rw [hp, if_neg h7, if_neg (by omega), if_neg (by omega)]
    refine ⟨fun i hi => ?_, AC_low hT hx hM.2.1 e, fun c hc => ?_, by have h1 := hR.2.2.2.1.2.2.2; have h2 := hM.2.2.2; omega⟩
    · by_cases ci : i = 96 + n
      · have q7 : sI q.2 67 i = k := by rw [hp, if_neg (by omega), if_neg (by omega), if_pos ⟨by omega, ci⟩, if_pos rfl]
        have q8 : sI q.2 68 i = a := by rw [hp, if_neg (by omega), if_neg (by omega), if_pos ⟨by omega, ci⟩, if_neg (by decide), if_pos rfl]
        have q0 : sI q.2 70 i = y := by rw [hp, if_neg (by omega), if_neg (by omega), if_pos ⟨by omega, ci⟩, if_neg (by decide), if_neg (by decide), if_neg (by decide), if_pos rfl]
        have q1 : sI q.2 71 i = z := by rw [hp, if_neg (by omega), if_neg (by omega), if_pos ⟨by omega, ci⟩, if_neg (by decide), if_neg (by decide), if_neg (by decide), if_neg (by decide)]
        rw [q7, q8, q0, q1]
        exact ⟨(most_r o2).2, o4⟩
      · have g : ∀ p, p = 67 ∨ p = 68 ∨ p = 70 ∨ p = 71 → sI q.2 p i = sI S p i := fun p h => by rw [hp, if_neg (by omega), if_neg (by omega), if_neg (by omega)]
        rw [g 67 (by omega), g 68 (by omega), g 70 (by omega), g 71 (by omega)]
        exact hM.1 i hi
    · rw [o 57 19 (by omega) (by omega) (by omega) (by omega) (by omega) (by omega) (by omega)] at hc
      exact AKa_low hT hx (hM.2.2.1 c hc) e (o 78 c (by omega) (by omega) (by omega) (by omega) (by omega) (by omega) (by omega)) (o 79 c (by omega) (by omega) (by omega) (by omega) (by omega) (by omega) (by omega)) (fun z => by rw [← o 80 c (by omega) (by omega) (by omega) (by omega) (by omega) (by omega) (by omega)]; exact z)
theorem MI_clear {T : Nat → Nat} {S S' : AS} {x : Option Nat} (hT : TI T S) (hx : Tx T 100 x) (hM : MI S) (hR : Rl T kw_st S 0 0 T S') (h : S' = wI (wI S 57 82 0) 66 8 0) : MI S' := by
  have o : ∀ p i, ¬ (p = 66 ∧ i = 8) → ¬ (p = 57 ∧ i = 82) → sI S' p i = sI S p i := fun p i h1 h2 => by rw [h, ti_sI_ne h1, ti_sI_ne h2]
  have e : lowS S S' := fun p i hpi => o p i (by omega) (by omega)
  refine ⟨fun i hi => ?_, AC_low hT hx hM.2.1 e, fun c hc => ?_, by have h1 := hR.2.2.2.1.2.2.2; have h2 := hM.2.2.2; omega⟩
  · rw [o 67 i (by omega) (by omega), o 68 i (by omega) (by omega), o 70 i (by omega) (by omega), o 71 i (by omega) (by omega)]
    exact hM.1 i hi
  · rw [o 57 19 (by omega) (by omega)] at hc
    exact AKa_low hT hx (hM.2.2.1 c hc) e (o 78 c (by omega) (by omega)) (o 79 c (by omega) (by omega)) (fun z => by rw [← o 80 c (by omega) (by omega)]; exact z)
theorem MI_publish {T : Nat → Nat} {S : AS} {x : Option Nat} {n v : Nat} {q : Int32 × AS} (hT : TI T S) (hx : Tx T 100 x) (hn : n ≤ 12) (hv : sI S 57 9 = Int32.ofNat v) (hM : MI S) (h : Rl T (10082 :: kw_pub) S 0 0 T q.2 ∧ ((PUB S n ∧ q.1 = Int32.ofNat v ∧ PUBS (wI S 57 82 0) q.2 v n) ∨ (¬ PUB S n ∧ q = (0, wI S 57 82 1)))) (hv8 : v ≤ 8) : MI q.2 := by
  obtain ⟨hR, ⟨hP, -, hp⟩ | h⟩ := h
  · obtain ⟨n0, hv7, hnx, ρ, hrk⟩ := hP
    have hv9 : (sI S 57 9).toInt = (v : Int) := by rw [hv, (gl2 v (by omega)).1]
    have hv8' : v < 8 := by omega
    have o : ∀ p i, ¬ (p = 57 ∧ i = 9) → ¬ (p = 57 ∧ i = 82) → p ≠ 66 → ¬ ((67 ≤ p ∧ p ≤ 71) ∧ 12 * v ≤ i ∧ i < 12 * v + n) → sI q.2 p i = sI S p i := fun p i h1 h2 h3 h4 => by rw [hp, if_neg h1, if_neg (by omega), if_neg (by omega), if_neg h4, ti_sI_ne h2]
    have cpy : ∀ p i, (67 ≤ p ∧ p ≤ 71) → i < n → sI q.2 p (12 * v + i) = sI S p (96 + i) := fun p i h1 h2 => by
      rw [hp, if_neg (by omega), if_neg (by omega), if_neg (by omega), if_pos (by omega), ti_sI_ne (by omega)]
      congr 1
      omega
    have o66 : ∀ i, i ≠ 8 → i ≠ v → sI q.2 66 i = sI S 66 i := fun i h1 h2 => by rw [hp, if_neg (by omega), if_neg (by omega), if_neg (by omega), if_neg (by omega), ti_sI_ne (by omega)]
    have n66 : sI q.2 66 v = Int32.ofNat n := by rw [hp, if_neg (by omega), if_neg (by omega), if_pos ⟨rfl, rfl⟩]
    have v9 : (sI q.2 57 9).toInt = (v + 1 : Nat) := by rw [hp, if_pos ⟨rfl, rfl⟩, (gl2 (v + 1) (by omega)).1]
    refine ⟨fun i hi => ?_, fun w m hw hm => ?_, fun c hc => ?_, by have h1 := hR.2.2.2.1.2.2.2; have h2 := hM.2.2.2; omega⟩
    · by_cases ci : 12 * v ≤ i ∧ i < 12 * v + n
      · obtain ⟨j, rfl⟩ : ∃ j, i = 12 * v + j := ⟨i - 12 * v, by omega⟩
        rw [cpy 67 j (by omega) (by omega), cpy 68 j (by omega) (by omega), cpy 70 j (by omega) (by omega), cpy 71 j (by omega) (by omega)]
        exact hM.1 (96 + j) (by omega)
      · rw [o 67 i (by omega) (by omega) (by omega) (by omega), o 68 i (by omega) (by omega) (by omega) (by omega), o 70 i (by omega) (by omega) (by omega) (by omega), o 71 i (by omega) (by omega) (by omega) (by omega)]
        exact hM.1 i hi
    · rw [v9] at hw
      by_cases cw : w = v
      · subst cw
        have hmn : m = n := by
          rw [n66, (gl2 n (by omega)).1] at hm
          omega
        subst hmn
        have et : ∀ k, k < m → (te q.2 (12 * w) k ↔ te S 96 k) := fun k hk => by
          unfold te
          rw [cpy 67 k (by omega) hk]
        have en : ∀ k t, k < m → (nx q.2 (12 * w) k t ↔ nx S 96 k t) := fun k t hk => by
          unfold nx
          rw [cpy 70 k (by omega) hk, cpy 71 k (by omega) hk]
        refine ⟨n0, fun k hk h5 => ?_, ρ, hrk.1, fun k hk q1 t q2 q3 => ?_⟩
        · rw [cpy 67 k (by omega) hk] at h5
          rw [cpy 70 k (by omega) hk, cpy 71 k (by omega) hk]
          exact hnx k hk h5
        · have q1' := (et k hk).mp q1
          have q2' := (en k t hk).mp q2
          have htn : t < m := nxin_t hnx hk (by have := q1'.2; omega) q2'
          exact hrk.2 k hk q1' t q2' ((et t htn).mp q3)
      · have hwv : w < v := by omega
        rw [o66 w (by omega) cw] at hm
        obtain ⟨m', hm', hm12⟩ := steps_n hT hx (v := w) (by omega)
        obtain ⟨h1, h2, ρ', h3⟩ := hM.2.1 w m (by omega) hm
        have lo : ∀ p k, (67 ≤ p ∧ p ≤ 71) → k < 12 → sI q.2 p (12 * w + k) = sI S p (12 * w + k) := fun p k hp' hk => o p _ (by omega) (by omega) (by omega) (by omega)
        have et : ∀ k, k < 12 → (te q.2 (12 * w) k ↔ te S (12 * w) k) := fun k hk => by
          unfold te
          rw [lo 67 k (by omega) hk]
        have en : ∀ k t, k < 12 → (nx q.2 (12 * w) k t ↔ nx S (12 * w) k t) := fun k t hk => by
          unfold nx
          rw [lo 70 k (by omega) hk, lo 71 k (by omega) hk]
        refine ⟨h1, fun k hk h5 => ?_, ρ', h3.1, fun k hk q1 t q2 q3 => ?_⟩
        · rw [lo 67 k (by omega) (by omega)] at h5
          rw [lo 70 k (by omega) (by omega), lo 71 k (by omega) (by omega)]
          exact h2 k hk h5
        · have q1' := (et k (by omega)).mp q1
          have q2' := (en k t (by omega)).mp q2
          have htn : t < m := nxin_t h2 hk (by have := q1'.2; omega) q2'
          exact h3.2 k hk q1' t q2' ((et t (by omega)).mp q3)
    · rw [o 57 19 (by omega) (by omega) (by omega) (by omega)] at hc
      obtain ⟨w, m, a1, a2, a3, a4⟩ := hM.2.2.1 c hc
      have hwv : w < v := by omega
      obtain ⟨m', hm', hm12⟩ := steps_n hT hx (v := w) (by omega)
      refine ⟨w, m, by rw [o 78 c (by omega) (by omega) (by omega) (by omega)]; exact a1, by rw [v9]; omega, by rw [o66 w (by omega) (by omega)]; exact a3, fun z => ?_⟩
      rw [o 80 c (by omega) (by omega) (by omega) (by omega)] at z
      obtain ⟨k, k1, k2, k3⟩ := a4 z
      exact ⟨k, k1, by rw [o 79 c (by omega) (by omega) (by omega) (by omega)]; exact k2, by rw [o 67 _ (by omega) (by omega) (by omega) (by omega)]; exact k3⟩
  · rw [h.2]
    exact MI_fr hM (thr_Rl hT hx 1) hx (by decide)
end
section
/-! ===== leave ===== -/
theorem MI_80 {S S' : AS} (hM : MI S) (e : ∀ p i, p ≠ 80 → sI S' p i = sI S p i) (h0 : ∀ b, sI S' 80 b = 0 → sI S 80 b = 0) : MI S' := by
  have s5 : same5 S S' := fun p i hp => e p i (by omega)
  refine ⟨SR_same hM.1 s5, AC_same hM.2.1 s5, fun b hb => ?_, ?_⟩
  · rw [e 57 19 (by decide)] at hb
    exact AKa_same (hM.2.2.1 b hb) s5 (e 78 b (by decide)) (e 79 b (by decide)) (h0 b)
  · rw [Gf_eq (funext fun i => e 57 i (by decide)) (funext fun i => e 98 i (by decide))]
    exact hM.2.2.2
def kw_lv : List Nat := [10077, 10081, 10082, 10700, 12500, 13500, 15100, 16900, 17300, 17800, 17900, 18000]
theorem lv_L52 {T : Nat → Nat} {S0 Sb : AS} {x : Option Nat} {a z : Int32} (hx : Tx T 100 x) (ha : In 0 5 a) {na : Nat} (hna : na ≤ 60) (hn : (sI Sb 57 19).toInt = (na : Int)) (hM : MI Sb) :
    ∀ m i fu, i + m = na → m < fu → ∀ S, Rl T kw_lv S0 0 0 T S → (∀ p i, p ≠ 80 → sI S p i = sI Sb p i) → (∀ b, sI S 80 b = 0 → sI Sb 80 b = 0) → Ho (f_M_leave_L52 fu S x a z (Int32.ofNat i)) (fun q => Rl T kw_lv S0 0 0 T q.2 ∧ MI q.2) := by
  intro m
  induction m with
  | zero =>
    intro i fu h1 h2 S hR hp h0
    obtain ⟨fu, rfl⟩ : ∃ g, fu = g + 1 := ⟨fu - 1, by omega⟩
    have hi : i = na := by omega
    subst hi
    show Ho (f_M_leave_C52 _ _ _ _ _ _) _
    unfold f_M_leave_C52
    refine r_gIs hR.1 hx rfl (p := 57) rfl (fun v13 _ e13 => ?_)
    have e13' : v13 = Int32.ofNat i := by rw [e13, hp 57 19 (by decide)]; exact ofNat_of hn
    rw [e13']
    refine r_ifT (Int32.le_refl _) ?_
    obtain ⟨q, hq, gq, -⟩ := tR_M_leave_L103 (S0 := S) kr_FU S x a z (0 : Int32) (Rlweak (Rlrf hR.1) (fun z hz => by cases hz) (Nat.le_refl _) (Nat.le_refl _)) hx ha (by decide) (by decide)
    exact ⟨q, hq, Rltrans hR gq (by decide +kernel), MI_fr (MI_80 hM hp h0) gq hx (by decide)⟩
  | succ m ih =>
    intro i fu h1 h2 S hR hp h0
    obtain ⟨fu, rfl⟩ : ∃ g, fu = g + 1 := ⟨fu - 1, by omega⟩
    have hi : i < 60 := by omega
    have e1 : Int32.ofNat i + (1 : Int32) = Int32.ofNat (i + 1) := (Int32.ofNat_add i 1).symm
    have rI : In 0 59 (Int32.ofNat i) := ⟨by rw [(gl2 i (by omega)).1]; omega, by rw [(gl2 i (by omega)).1]; omega⟩
    have tI : (Int32.ofNat i).toNatClampNeg = i := (gl2 i (by omega)).2
    show Ho (f_M_leave_C52 _ _ _ _ _ _) _
    unfold f_M_leave_C52
    refine r_gIs hR.1 hx rfl (p := 57) rfl (fun v13 _ e13 => ?_)
    have e13' : v13 = Int32.ofNat na := by rw [e13, hp 57 19 (by decide)]; exact ofNat_of hn
    rw [e13']
    refine r_ifF (fun q => by have := (le_n (by omega) (by omega)).mp q; omega) ?_
    refine r_gR hR.1 hx rfl rfl (fun v14 h14 => ?_)
    have wr : ∀ y : Int32, In 0 2 y → (y = 0 → sI S 80 i = 0) → Ho (f_M_leave_B94 (f_M_leave_L52 fu) S x a z (Int32.ofNat i) v14 (Int32.ofNat i) y) (fun q => Rl T kw_lv S0 0 0 T q.2 ∧ MI q.2) := by
      intro y hy hy0
      unfold f_M_leave_B94
      refine r_bIs (w' := kw_lv) hR h14 rfl (p := 80) rfl rfl rI (by decide) (fun _ _ _ q => by cases q; exact hy) (fun _ => rfl) (by decide) (by decide +kernel) (fun _ => by unfold phc; omega) (fun S1 g1 e => ?_)
      rw [tI] at e
      refine r_val ?_
      rw [e1]
      refine ih (i + 1) fu (by omega) (by omega) S1 g1 (fun p j hpj => by rw [e, ti_sI_ne (fun q => hpj q.1)]; exact hp p j hpj) (fun b hb => ?_)
      by_cases c : b = i
      · subst c
        rw [e, ti_sI_eq] at hb
        exact h0 b (hy0 hb)
      · rw [e, ti_sI_ne (fun q => c q.2)] at hb
        exact h0 b hb
    have same : Ho (f_M_leave_B88 (f_M_leave_L52 fu) S x a z (Int32.ofNat i) v14 (Int32.ofNat i)) (fun q => Rl T kw_lv S0 0 0 T q.2 ∧ MI q.2) := by
      unfold f_M_leave_B88
      refine r_gR hR.1 hx rfl rfl (fun v3 h3 => ?_)
      refine r_aIs hR.1 h3 rfl (p := 80) rfl rfl rI (by decide) (fun v4 b4 e4 => ?_)
      rw [tI] at e4
      exact wr v4 (b4 _ _ rfl) (fun q => by rw [← e4]; exact q)
    refine r_gR hR.1 hx rfl rfl (fun v15 h15 => ?_)
    refine r_aI hR.1 h15 rfl rfl rI (by decide) (fun v16 _ => ?_)
    refine r_if (fun _ => ?_) (fun _ => same)
    refine r_gR hR.1 hx rfl rfl (fun v17 h17 => ?_)
    refine r_aI hR.1 h17 rfl rfl rI (by decide) (fun v18 _ => ?_)
    exact r_if (fun _ => wr 2 (by decide) (fun q => absurd q (by decide))) (fun _ => same)
theorem t_M_leave2 {T : Nat → Nat} {S : AS} (hT : TI T S) {x : Option Nat} {a : Int32} (hx : Tx T 100 x) (hph : Ph S ≤ 1100) (hM : MI S) : Ho (f_M_leave S x a) (fun q => Rl T kw_lv S 0 0 T q.2 ∧ MI q.2) := by
  have g0 := Rlrf hT
  have b32 : ∀ S9, Rl T [10082] S 0 0 T S9 → MI S9 → In 0 5 a → ∀ (v30 : Option Nat), Tx T 107 v30 → ∀ y : Int32, In 0 1 y → Ho (f_M_leave_B32 S9 x a v30 a y) (fun q => Rl T kw_lv S 0 0 T q.2 ∧ MI q.2) := by
    intro S9 g9 m9 ha v30 h30 y hy
    unfold f_M_leave_B32
    refine r_bZs (w' := [10082, 10700]) g9 h30 rfl (p := 64) rfl rfl ha (by decide) hy (fun _ _ _ q => by cases q; exact hy) (fun _ => rfl) (by decide) (by decide +kernel) (fun _ => by unfold phc; omega) (fun S19 g19 e19 => ?_)
    have l19 : Rl T [10700] S9 0 0 T S19 := by
      rw [e19]
      obtain ⟨p1, p2, -⟩ := sgp g9.1 h30 (p := 64) rfl
      exact RlwI (Rlrf g9.1) (by rw [← e19]; exact g19.1) p1 (by omega) (by rw [cl_a (by decide)]; decide) (by unfold phc; omega)
    have m19 := MI_fr m9 l19 hx (by decide)
    refine r_gR g19.1 hx rfl rfl (fun v20 h20 => ?_)
    refine r_aI g19.1 h20 rfl rfl ha (by decide) (fun v21 _ => ?_)
    refine r_if (fun _ => r_some ⟨Rlweak g19 (by decide +kernel) (by decide) (by decide), m19⟩) (fun _ => ?_)
    refine r_rv g19.1 hx rfl ?_
    refine r_b2 (t_M_endAllOf g19.1 hx (phS hph g19 (by decide))) (fun v24 S23 hh => ?_)
    obtain ⟨l23, -⟩ := hh
    have m23 := MI_fr m19 l23 hx (by decide)
    have g23 : Rl T kw_lv S 0 0 T S23 := Rltrans g19 l23 (by decide +kernel)
    obtain ⟨na, hna, hna60⟩ := fld g23.1 hx (j := 19) (b := 60) rfl
    exact lv_L52 hx ha hna60 hna m23 na 0 kr_FU (by omega) (by show na < 2000; omega) S23 g23 (fun _ _ _ => rfl) (fun _ q => q)
  have key : ∀ y : Int32, In 0 1 y → (¬ y = 0 → In 0 5 a) → Ho ((kr_rv S 23 x).bind fun _ => kr_b2 (f_M_may S x y) fun v29 S28 => if v29 = 0 then some ((0 : Int32), S28) else (gR S28 23 7 x).bind fun v30 => (gR S28 23 7 x).bind fun v31 => (aI S28 41 v31 a).bind fun v32 => if v32 = 0 then f_M_leave_B32 S28 x a v30 a (1 : Int32) else f_M_leave_B32 S28 x a v30 a (0 : Int32)) (fun q => Rl T kw_lv S 0 0 T q.2 ∧ MI q.2) := by
    intro y hy h
    refine r_rv hT hx rfl ?_
    refine r_may (w' := [10082]) g0 hx hy (by decide +kernel) (fun S9 g9 f9 c => ?_) (fun S9 g9 _ => r_ifT rfl (r_some ⟨Rlweak g9 (by decide +kernel) (by decide) (by decide), MI_fr hM g9 hx (by decide)⟩))
    have ha := h c
    have m9 := MI_fr hM g9 hx (by decide)
    refine r_ifF (by decide) ?_
    refine r_gR g9.1 hx rfl rfl (fun v30 h30 => ?_)
    refine r_gR g9.1 hx rfl rfl (fun v31 h31 => ?_)
    refine r_aI g9.1 h31 rfl rfl ha (by decide) (fun v32 _ => ?_)
    exact r_if (fun _ => b32 S9 g9 m9 ha v30 h30 1 (by decide)) (fun _ => b32 S9 g9 m9 ha v30 h30 0 (by decide))
  unfold f_M_leave
  exact r_spl (u_isSix S a) (fun h => key 1 (by decide) (fun _ => h)) (key 0 (by decide) (fun q => absurd rfl q))
/-! ===== the start ===== -/
def kr_T0l : List Nat := [0, 52, 0, 0, 1, 2, 3, 4, 5, 6, 7, 40, 41, 41, 41, 41, 41, 20, 21, 22, 8, 9, 23, 24, 25, 10, 11, 26, 12, 13, 14, 15, 16, 13, 14, 15, 16, 13, 14, 15, 16, 13, 14, 15, 16, 13, 14, 15, 16, 13, 14, 15, 16, 17, 17, 17, 17, 100, 101, 102, 103, 104, 105, 106, 107, 108, 110, 111, 112, 113, 114, 115, 116, 117, 118, 120, 121, 122, 123, 124, 125, 126, 127, 128, 129, 131, 132, 133, 134, 135, 136, 137, 138, 140, 141, 142, 143, 144, 145, 147, 148, 149, 150, 151, 153, 154, 155, 156, 157, 158, 159, 164, 165, 166, 167, 168, 169, 171, 172, 173, 174, 175, 176, 178, 179, 180, 50]
def kr_T0 (k : Nat) : Nat := kr_T0l.getD k 0
end
section
/-! ===== families are never more than tokens ===== -/
def FT (S : AS) : Prop := (sI S 23 2).toInt ≤ (sI S 24 2).toInt
theorem sz_up {T : Nat → Nat} {S S' : AS} {q : Nat} {hi : Int} (hT : TI T S) (hq : q < 7) (hc : rf (20 + q) 2 = some (0, hi)) (h3 : hi ≤ 1000) (e : sI S' (lp q) 2 = sI S (lp q) 2 + 1) : (sI S' (lp q) 2).toInt = (sI S (lp q) 2).toInt + 1 := by
  rw [e]
  exact toInt_add1 (sizeIn hT hq hc) (by decide) (by omega)
theorem FT_fr {T T' : Nat → Nat} {w : List Nat} {S S' : AS} {c s : Nat} (h : FT S) (hR : Rl T w S c s T' S') (hw : ¬ 2402 ∈ w) : FT S' := by
  have h1 := Rlsize (q := 4) hR (by decide) hw
  have h2 := hR.2.2.2.2.2.2.2.1
  unfold FT at *
  rw [show sI S' 23 2 = sI S 23 2 from h1]
  omega
theorem tF_addToken {T : Nat → Nat} {S : AS} (hT : TI T S) {a0 : Option Nat} {a1 : Option Nat} (h_a0 : Tx T 1 a0) (h_a1 : Tx T 45 a1) (hfszlt5 : (sI S (lp 5) 2).toInt < 200) : Ho (f_K_addToken S a0 a1) (fun q => ∃ T', Rl T kw_K77 S 1 300 T' q ∧ (sI q 24 2).toInt = (sI S 24 2).toInt + 1) := by
  have g0 := Rlrf hT
  unfold f_K_addToken
  refine r_gR g0.1 h_a1 rfl rfl (fun v1 h1 => ?_)
  refine r_gR g0.1 h_a0 rfl rfl (fun v2 h2 => ?_)
  refine r_rv g0.1 h2 rfl ?_
  refine r_size 5 g0.1 h2 (by decide) (fun v5 e3 => ?_)
  refine r_pI (w' := kw_K75) g0 h1 rfl (by decide) (fun _ _ q => by cases q) rfl (by decide) (by decide +kernel) (by unfold phc; decide) (fun s5 g6 => ?_)
  refine r_gR g6.1 h_a1 rfl rfl (fun v7 h7 => ?_)
  refine r_gIe g6.1 h7 rfl (fun v8 b8 e9 => ?_)
  refine r_gIe g6.1 h_a1 rfl (fun v9 b10 e11 => ?_)
  refine r_pI (w' := kw_K76) g6 h7 rfl (by decide) (fun _ _ q => by cases q) rfl (by decide) (by decide +kernel) (by unfold phc; decide) (fun s12 g13 => ?_)
  refine r_gR g13.1 h_a0 rfl rfl (fun v11 h14 => ?_)
  refine r_rv g13.1 h14 rfl ?_
  refine r_b2 (ho_add (w' := kw_K77) 5 g13 h14 (by decide) h_a1 rfl (Int.lt_of_lt_of_le (sz1 5 g13 (by decide) (by decide +kernel) hfszlt5) (by decide)) (by decide) (by decide +kernel)) (fun v14 s15 h19 => ?_)
  obtain ⟨T16, g17, e18, e18s⟩ := h19
  have g20 : Rl T kw_K77 S 1 300 T16 s15 := g17
  have z1 := sz_up (q := 5) (hi := 200) g13.1 (by decide) rfl (by decide) e18s
  have z2 := Rlsize (q := 5) g13 (by decide) (by decide +kernel)
  refine r_some ⟨_, g20, ?_⟩
  rw [z2] at z1
  exact z1
theorem tF_addFirst {T : Nat → Nat} {S : AS} (hT : TI T S) {a0 : Option Nat} {a1 : Option Nat} (h_a0 : Tx T 1 a0) (h_a1 : Tx T 44 a1) (hfszlt5 : (sI S (lp 5) 2).toInt < 200) : Ho (f_K_addFirstHandToken S a0 a1) (fun q => ∃ T', Rl T kw_K77 S 2 320 T' q ∧ (sI q 24 2).toInt = (sI S 24 2).toInt + 1) := by
  have g0 := Rlrf hT
  unfold f_K_addFirstHandToken
  refine r_nO g0 (by decide) (fun s1 g2 r3 k4 => ?_)
  refine r_gIe g2.1 h_a1 rfl (fun v2 b5 e6 => ?_)
  refine r_gIe g2.1 h_a1 rfl (fun v3 b7 e8 => ?_)
  refine r_gIe g2.1 h_a1 rfl (fun v4 b9 e10 => ?_)
  refine r_gR g2.1 h_a0 rfl rfl (fun v5 h11 => ?_)
  refine r_gIe g2.1 h11 rfl (fun v6 b12 e13 => ?_)
  refine r_gIe g2.1 h_a0 rfl (fun v7 b14 e15 => ?_)
  refine r_bind (ho_Token g2 r3 h_a1) (fun s16 h20 => ?_)
  obtain ⟨T18, g17, m19⟩ := h20
  have g21 : Rl T [] S 1 20 T18 s16 := g17
  have u22 := Tx.up h_a0 m19.2.1
  refine r_rv g21.1 u22 rfl ?_
  refine r_bind (tF_addToken g21.1 u22 (⟨_, rfl, m19.1, by decide⟩ : Tx T18 45 (some (sN S))) (Int.lt_of_lt_of_le (sz1 5 g21 (by decide) (by decide +kernel) hfszlt5) (by decide))) (fun s25 h26 => ?_)
  obtain ⟨T27, h28, h28s⟩ := h26
  have g29 : Rl T kw_K77 S 2 320 T27 s25 := Rltrans g21 h28 (by decide +kernel)
  have z2 := Rlsize (q := 5) g21 (by decide) (by decide +kernel)
  refine r_some ⟨_, g29, ?_⟩
  rw [h28s]
  exact congrArg (fun z : Int32 => z.toInt + 1) z2
theorem tF_makeFamily {T : Nat → Nat} {S : AS} (hT : TI T S) {a0 : Option Nat} {a1 : Option Nat} (h_a0 : Tx T 1 a0) (h_a1 : Tx T 44 a1) (hfszlt4 : (sI S (lp 4) 2).toInt < 200) (hfszlt5 : (sI S (lp 5) 2).toInt < 200) : Ho (f_K_makeFamily S a0 a1) (fun q => ∃ T', Rl T kw_K82 S 3 620 T' q ∧ (sI q 23 2).toInt = (sI S 23 2).toInt + 1 ∧ (sI q 24 2).toInt = (sI S 24 2).toInt + 1) := by
  have g0 := Rlrf hT
  unfold f_K_makeFamily
  refine r_gR g0.1 h_a0 rfl rfl (fun v1 h1 => ?_)
  refine r_rv g0.1 h1 rfl ?_
  refine r_size 4 g0.1 h1 (by decide) (fun v4 e2 => ?_)
  refine r_pI (w' := kw_K78) g0 h_a1 rfl (by decide) (fun _ _ q => by cases q) rfl (by decide) (by decide +kernel) (by unfold phc; decide) (fun s4 g5 => ?_)
  refine r_pZ (w' := kw_K79) g5 h_a1 rfl (by decide) (In_w (by decide : In 1 1 (1 : Int32)) (by decide) (by decide)) (fun _ _ q => by cases q; exact (In_w (by decide : In 1 1 (1 : Int32)) (by decide) (by decide))) rfl (by decide) (by decide +kernel) (by unfold phc; decide) (fun s6 g7 => ?_)
  refine r_gR g7.1 h_a0 rfl rfl (fun v7 h8 => ?_)
  refine r_rv g7.1 h8 rfl ?_
  refine r_b2 (ho_add (w' := kw_K80) 4 g7 h8 (by decide) h_a1 rfl (Int.lt_of_lt_of_le (sz1 4 g7 (by decide) (by decide +kernel) hfszlt4) (by decide)) (by decide) (by decide +kernel)) (fun v10 s9 h13 => ?_)
  obtain ⟨T10, g11, e12, e12s⟩ := h13
  have g14 : Rl T kw_K80 S 1 300 T10 s9 := g11
  have z1 := sz_up (q := 4) (hi := 200) g7.1 (by decide) rfl (by decide) e12s
  have z2 := Rlsize (q := 4) g7 (by decide) (by decide +kernel)
  rw [z2] at z1
  have u15 := Tx.up h_a0 e12
  have u16 := Tx.up h_a1 e12
  refine r_gR g14.1 u15 rfl rfl (fun v11 h19 => ?_)
  refine r_gIe g14.1 u16 rfl (fun v12 b20 e21 => ?_)
  refine r_gIe g14.1 u15 rfl (fun v13 b22 e23 => ?_)
  refine r_rv g14.1 h19 rfl ?_
  refine r_bind (t_Audit_write g14.1 h19) (fun s24 h25 => ?_)
  have g26 : Rl T kw_K81 S 1 300 T10 s24 := Rltrans g14 h25 (by decide +kernel)
  have z3 := Rlsize (q := 4) h25 (by decide) (by decide +kernel)
  have z4 := Rlsize (q := 5) g26 (by decide) (by decide +kernel)
  refine r_rv g26.1 u15 rfl ?_
  refine r_bind (tF_addFirst g26.1 u15 u16 (Int.lt_of_lt_of_le (sz1 5 g26 (by decide) (by decide +kernel) hfszlt5) (by decide))) (fun s27 h28 => ?_)
  obtain ⟨T29, h30, h30s⟩ := h28
  have g31 : Rl T kw_K82 S 3 620 T29 s27 := Rltrans g26 h30 (by decide +kernel)
  have z5 := Rlsize (q := 4) h30 (by decide) (by decide +kernel)
  refine r_some ⟨_, g31, ?_, ?_⟩
  · have : sI s27 23 2 = sI s9 23 2 := z5.trans z3
    rw [this]
    exact z1
  · rw [h30s]
    exact congrArg (fun z : Int32 => z.toInt + 1) z4
theorem tF_redeem {T : Nat → Nat} {S : AS} (hT : TI T S) {a0 : Option Nat} {a1 : Int32} (h_a0 : Tx T 1 a0) (hF : FT S) : Ho (f_K_redeem S a0 a1) (fun q => PY T kw_K83 S 3 620 ["java/lang/IllegalStateException", "java/lang/IndexOutOfBoundsException"] (fun _ _ => True) q ∧ FT q.2) := by
  have g0 := Rlrf hT
  have w0 : Rl T kw_K83 S 3 620 T S := Rlweak g0 (by decide +kernel) (by decide) (by decide)
  have x0 : Rl T kw_K83 S 3 620 T (wX S) := Rlweak (RlwX g0) (by decide +kernel) (by decide) (by decide)
  have fx : FT (wX S) := hF
  have ret : ∀ v : Int32, Ho (some (Sum.inl v, S)) (fun q : (Int32 ⊕ String) × AS => PY T kw_K83 S 3 620 ["java/lang/IllegalStateException", "java/lang/IndexOutOfBoundsException"] (fun _ _ => True) q ∧ FT q.2) := fun v => r_some ⟨⟨_, w0, Or.inl ⟨_, rfl, trivial⟩⟩, hF⟩
  unfold f_K_redeem
  refine r_gR g0.1 h_a0 rfl rfl (fun v6 h1 => ?_)
  refine r_rv g0.1 h1 rfl ?_
  refine r_size 3 g0.1 h1 (by decide) (fun v9 e2 => ?_)
  have q3 : In 0 60 v9 := by rw [e2]; exact sizeIn (q := 3) g0.1 (by decide) rfl
  refine r_rI (fun p4 c5 => ?_) ⟨⟨_, x0, Or.inr ⟨_, rfl, by decide +kernel⟩⟩, fx⟩
  refine r_gR g0.1 h_a0 rfl rfl (fun v12 h8 => ?_)
  refine r_rv g0.1 h8 rfl ?_
  refine r_P (ho_get 3 g0.1 h8 (by decide) p4 (sz_lt2 c5 e2)) (fun v15 (h9 : Tx T 44 v15) => ?_)
  refine r_cc g0.1 h9 rfl ?_
  refine r_gIe g0.1 h9 rfl (fun v17 b10 e11 => ?_)
  refine r_if (fun c12 => ?_) (fun c12 => ?_)
  · refine r_gR g0.1 h9 rfl rfl (fun v18 h14 => ?_)
    refine r_gIe g0.1 h14 rfl (fun v19 b15 e16 => ?_)
    refine r_if (fun c18 => ret _) (fun c18 => ?_)
    refine r_gIe g0.1 h_a0 rfl (fun v20 b21 e22 => ?_)
    refine r_gIe g0.1 h9 rfl (fun v21 b23 e24 => ?_)
    refine r_if (fun c25 => ?_) (fun c25 => ret _)
    refine r_gR g0.1 h_a0 rfl rfl (fun v22 h26 => ?_)
    refine r_rv g0.1 h26 rfl ?_
    refine r_size 5 g0.1 h26 (by decide) (fun v25 e27 => ?_)
    refine r_if (fun c29 => ?_) (fun c29 => ?_)
    · unfold f_K_redeem_B81
      exact r_rS (fun c => absurd rfl c) ⟨⟨_, x0, Or.inr ⟨_, rfl, by decide +kernel⟩⟩, fx⟩
    · have z31 : (sI S (lp 5) 2).toInt < (200 : Int32).toInt := sz0 5 g0 (by decide) (by decide +kernel) e27 c29
      have z32 : (sI S (lp 5) 2).toInt < 200 := z31
      have z4 : (sI S (lp 4) 2).toInt < 200 := Int.lt_of_le_of_lt hF z32
      unfold f_K_redeem_B81
      refine r_rS (fun _ => ?_) ⟨⟨_, x0, Or.inr ⟨_, rfl, by decide +kernel⟩⟩, fx⟩
      refine r_rv g0.1 h_a0 rfl ?_
      refine r_bind (tF_makeFamily g0.1 h_a0 h9 z4 z32) (fun s2 h3 => ?_)
      obtain ⟨T4, h5, h5a, h5b⟩ := h3
      have u8 := Tx.up h9 h5.ty
      refine r_gIe h5.1 u8 rfl (fun v5 b9 e10 => ?_)
      refine r_some ⟨⟨_, Rlweak h5 (by decide +kernel) (by decide) (by decide), Or.inl ⟨_, rfl, trivial⟩⟩, ?_⟩
      show (sI s2 23 2).toInt ≤ (sI s2 24 2).toInt
      rw [h5a, h5b]
      have : (sI S 23 2).toInt ≤ (sI S 24 2).toInt := hF
      omega
  · refine r_rv g0.1 h_a0 rfl ?_
    refine r_X (t_K_endFamily g0.1 h_a0 h9) (fun z28 s34 g35 h33 => ?_) (fun e _ gg he => absurd he (by simp))
    exact r_some ⟨⟨_, Rlweak g35 (by decide +kernel) (by decide) (by decide), Or.inl ⟨_, rfl, trivial⟩⟩, FT_fr hF g35 (by decide +kernel)⟩
/-! ===== a long is written; the calls' wrappers ===== -/
theorem sJ_ne {S : AS} {k j a b : Nat} {v : Int64} (h : ¬ (a = k ∧ b = j)) : sJ (wJ S k j v) a b = sJ S a b := by
  show (if a = k ∧ b = j then v else sJ S a b) = _
  rw [if_neg h]
theorem RlwJ {T0 T : Nat → Nat} {w : List Nat} {S0 S : AS} {c s k j : Nat} {v : Int64} (h : Rl T0 w S0 c s T S) : Rl T0 (99999 :: w) S0 c s T (wJ S k j v) :=
  ⟨h.1, h.2.1, h.2.2.1, h.2.2.2.1, fun a b p q => h.fI a b p (fun z => q (List.mem_cons_of_mem _ z)), fun a b p q => h.fR a b p (fun z => q (List.mem_cons_of_mem _ z)), fun a b p q => absurd List.mem_cons_self q, h.2.2.2.2.2.2.2.1, h.2.2.2.2.2.2.2.2⟩
theorem r_bJ {β : Type} {T0 T : Nat → Nat} {w : List Nat} {S0 S : AS} {c s : Nat} {x : Option Nat} {v : Int64} {F : AS → Option β} {Q : β → Prop} (hR : Rl T0 w S0 c s T S) (hx : Tx T 50 x) (h : Rl T0 (99999 :: w) S0 c s T (wJ S 126 0 v) → Ho (F (wJ S 126 0 v)) Q) : Ho ((bJ S x (0 : Int32) v).bind F) Q := by
  obtain ⟨h1, h2, rfl⟩ := sgp hR.1 hx (p := 126) rfl
  have e := (hR.1.t1 126 (by rw [h1]; exact h2)).2.2.2 1 (by rw [h1]; rfl)
  have : bJ S (some 126) (0 : Int32) v = some (wJ S 126 0 v) := by
    unfold bJ
    rw [Option.bind_some, if_pos ⟨(Tx.K hR.1 h1 h2).trans rfl, by decide, by rw [e]; decide⟩, show (0 : Int32).toNatClampNeg = 0 from by decide]
  rw [this]
  exact h (RlwJ hR)
theorem r_bhX {α β : Type} {T : Nat → Nat} {w : List Nat} {S : AS} {c s : Nat} {es : List String} {x : Option ((α ⊕ String) × AS)} {G : String → AS → Option β} {F : α → AS → Option β} {P : α → Prop} {Q : β → Prop} (hc : Ho x (PX T w S c s es P)) (h : ∀ v S', Rl T w S c s T S' → P v → Ho (F v S') Q) (he : ∀ e S', Rl T w S c s T S' → e ∈ es → Ho (G e S') Q) : Ho (kr_bh x G F) Q := by
  obtain ⟨⟨v, S'⟩, rfl, h1, h2⟩ := hc
  rcases h2 with ⟨v', e1, e3⟩ | ⟨e, e1, e3⟩
  · cases e1
    exact h v' S' h1 e3
  · cases e1
    exact he e S' h1 e3
theorem r_bhY {α β : Type} {T : Nat → Nat} {w : List Nat} {S : AS} {c s : Nat} {es : List String} {x : Option ((α ⊕ String) × AS)} {G : String → AS → Option β} {F : α → AS → Option β} {P : α → (Nat → Nat) → Prop} {Q : β → Prop} (hc : Ho x (PY T w S c s es P)) (h : ∀ v T' S', Rl T w S c s T' S' → P v T' → Ho (F v S') Q) (he : ∀ e T' S', Rl T w S c s T' S' → e ∈ es → Ho (G e S') Q) : Ho (kr_bh x G F) Q := by
  obtain ⟨⟨v, S'⟩, rfl, T', h1, h2⟩ := hc
  rcases h2 with ⟨v', e1, e3⟩ | ⟨e, e1, e3⟩
  · cases e1
    exact h v' T' S' h1 e3
  · cases e1
    exact he e T' S' h1 e3
theorem r_bhT {α β : Type} {S : AS} {es : List String} {x : Option ((α ⊕ String) × AS)} {G : String → AS → Option β} {F : α → AS → Option β} {P : α → Prop} {Q : β → Prop} (hc : Ho x (PT S es P)) (h : ∀ v, P v → Ho (F v S) Q) (he : ∀ e, e ∈ es → Ho (G e (wX S)) Q) : Ho (kr_bh x G F) Q := by
  obtain ⟨⟨v, S'⟩, rfl, hp⟩ := hc
  rcases hp with ⟨v', e1, e2, e3⟩ | ⟨e, e1, e2, e3⟩
  · cases e1
    cases e2
    exact h v' e3
  · cases e1
    cases e2
    exact he e e3
/-- a run of a wrapper that ends somehow, its state kept by its list -/
def PW (T : Nat → Nat) (w : List Nat) (S : AS) (c s : Nat) (S' : AS) : Prop := ∃ T', Rl T (99999 :: w) S c s T' S'
theorem PW_of {T T' : Nat → Nat} {w : List Nat} {S S' : AS} {c s : Nat} (h : Rl T w S c s T' S') : PW T w S c s S' := ⟨T', Rlweak h (fun _ z => List.mem_cons_of_mem _ z) (Nat.le_refl _) (Nat.le_refl _)⟩
end
section
/-! ===== between the law's calls ===== -/
def IV (n : Nat) (T : Nat → Nat) (S : AS) : Prop := TI T S ∧ MI S ∧ Ph S ≤ 241 + (n : Int) ∧ FT S ∧ sC S ≤ 123 + 20 * n ∧ sS S ≤ 10526 + 1000 * n
theorem r_sx {β : Type} {X : Nat → Int32} {L : Nat} {i : Int32} {F : Int32 → Option β} {Q : β → Prop} (hv : ∃ v, kr_sx X L i = some v) (h : ∀ v, kr_sx X L i = some v → Ho (F v) Q) : Ho ((kr_sx X L i).bind F) Q := by
  obtain ⟨v, hv⟩ := hv
  rw [hv]
  exact h v hv
theorem k_keeps {T T' : Nat → Nat} {w : List Nat} {S S' : AS} {c s : Nat} {x : Option Nat} (hT : TI T S) (hR : Rl T (99999 :: w) S c s T' S') (hx : Tx T 100 x) (hw : ∀ z ∈ w, z < 10000 ∨ 50000 ≤ z) : (∀ i, i < 100 → sI S' 57 i = sI S 57 i) ∧ (∀ j τ p, ft 100 j = some τ → sg τ = some p → 40 ≤ kd τ → 100 ≤ τ → τ < 190 → ∀ i, sI S' p i = sI S p i) := by
  have nm : ∀ z, 10000 ≤ z → z < 50000 → ¬ z ∈ 99999 :: w := fun z h1 h2 q => by
    rcases List.mem_cons.mp q with q | q
    · omega
    · have := hw z q
      omega
  obtain ⟨e1, e2, -⟩ := sgp hT hx (p := 57) rfl
  refine ⟨fun i hi => hR.fI 57 i (by rw [e1]; exact e2) (by rw [e1, show cl 100 i = 10000 + i from if_pos (by decide)]; exact nm _ (by omega) (by omega)), fun j τ p a b c d e i => ?_⟩
  obtain ⟨q1, q2⟩ := sg_p hT hx a b
  refine hR.fI p i (by rw [q1]; exact q2) ?_
  rw [q1, show cl τ i = 100 * τ from if_neg (by omega)]
  exact nm _ (by omega) (by omega)
theorem IV_K {n : Nat} {T T' : Nat → Nat} {w : List Nat} {S S' : AS} {x : Option Nat} (h : IV n T S) (hR : Rl T (99999 :: w) S 10 700 T' S') (hx : Tx T 100 x) (hw : ∀ z ∈ w, z < 10000 ∨ 50000 ≤ z) : MI S' ∧ Ph S' ≤ 241 + (n : Int) := by
  obtain ⟨hT, hM, hP, -⟩ := h
  obtain ⟨k57, kk⟩ := k_keeps hT hR hx hw
  have s5 : same5 S S' := fun p i hp => by
    rcases hp with rfl | rfl | rfl | rfl | rfl | ⟨rfl, rfl⟩
    · exact kk 10 110 66 rfl rfl (by decide) (by decide) (by decide) i
    · exact kk 11 111 67 rfl rfl (by decide) (by decide) (by decide) i
    · exact kk 12 112 68 rfl rfl (by decide) (by decide) (by decide) i
    · exact kk 14 114 70 rfl rfl (by decide) (by decide) (by decide) i
    · exact kk 15 115 71 rfl rfl (by decide) (by decide) (by decide) i
    · exact k57 9 (by decide)
  have k98 : sI S' 98 = sI S 98 := funext fun i => kk 45 145 98 rfl rfl (by decide) (by decide) (by decide) i
  refine ⟨⟨SR_same hM.1 s5, AC_same hM.2.1 s5, fun a ha => ?_, ?_⟩, ?_⟩
  · rw [k57 19 (by decide)] at ha
    exact AKa_same (hM.2.2.1 a ha) s5 (kk 23 123 78 rfl rfl (by decide) (by decide) (by decide) a) (kk 24 124 79 rfl rfl (by decide) (by decide) (by decide) a) (fun q => by rw [← kk 25 125 80 rfl rfl (by decide) (by decide) (by decide) a]; exact q)
  · have : Gf S' = Gf S := by
      unfold Gf
      rw [k57 46 (by decide), k57 39 (by decide), k98]
    rw [this]
    exact hM.2.2.2
  · have : Ph S' = Ph S := by
      unfold Ph
      rw [k57 77 (by decide), k57 30 (by decide), k57 46 (by decide), k57 62 (by decide), show sI S' 89 = sI S 89 from funext fun i => kk 35 135 89 rfl rfl (by decide) (by decide) (by decide) i, show sI S' 103 = sI S 103 from funext fun i => kk 51 151 103 rfl rfl (by decide) (by decide) (by decide) i]
    rw [this]
    exact hP
theorem IV_M {n : Nat} {T T1 : Nat → Nat} {w w2 : List Nat} {S S1 S2 : AS} (h : IV n T S) (hR : Rl T (99999 :: w) S 10 700 T1 S1) (hP : Ph S1 ≤ 241 + (n : Int)) (hF : FT S1) (g : Rl T1 w2 S1 1 0 T1 S2) (hM : MI S2) (hw : ¬ 2402 ∈ w2) : IV (n + 1) T1 S2 := by
  obtain ⟨-, -, -, -, h5, h6⟩ := h
  have a := hR.2.2.2.1
  have b := g.2.2.2.1
  refine ⟨g.1, hM, ?_, FT_fr hF g hw, ?_, ?_⟩
  · have := b.2.2.1
    omega
  · have := a.1
    have := b.1
    omega
  · have := a.2.1
    have := b.2.1
    omega
theorem bh_none {β : Type} {c : Prop} [Decidable c] {a b : Option β} {Q : β → Prop} (h : ¬ c) (h1 : Ho b Q) : Ho (if c then a else b) Q := r_ifF h h1
end
section
/-! ===== the wrappers of the class's calls ===== -/
theorem r_bhR {α β : Type} {T : Nat → Nat} {w : List Nat} {S : AS} {c s : Nat} {es : List String} {x : Option ((α ⊕ String) × AS)} {G : String → AS → Option β} {F : α → AS → Option β} {P : α → (Nat → Nat) → Prop} {Q : β → Prop} (hc : Ho x (fun q => PY T w S c s es P q ∧ FT q.2)) (h : ∀ v T' S', Rl T w S c s T' S' → FT S' → Ho (F v S') Q) (he : ∀ e T' S', Rl T w S c s T' S' → e ∈ es → FT S' → Ho (G e S') Q) : Ho (kr_bh x G F) Q := by
  obtain ⟨⟨v, S'⟩, rfl, ⟨T', h1, h2⟩, hf⟩ := hc
  rcases h2 with ⟨v', e1, e3⟩ | ⟨e, e1, e3⟩
  · cases e1
    exact h v' T' S' h1 hf
  · cases e1
    exact he e T' S' h1 e3 hf
theorem w_pass {T : Nat → Nat} {S : AS} (hT : TI T S) {a0 : Option Nat} {a1 : Int32} {a2 : Option Nat} (h0 : Tx T 1 a0) (hk : Tx T 50 a2) : Ho (f_W_pass S a0 a1 a2) (fun q => PW T kw_K41 S 10 700 q.2) := by
  unfold f_W_pass
  refine r_rv hT h0 rfl ?_
  refine r_bhX (t_K_pass hT h0) (fun v S1 g _ => ?_) (fun e S1 g he => ?_)
  · exact r_bJ g hk (fun g2 => r_some ⟨_, Rlweak g2 (fun _ z => z) (by decide) (by decide)⟩)
  · simp only [List.mem_cons, List.not_mem_nil, or_false] at he
    rcases he with rfl | rfl
    · exact r_ifT rfl (r_some (PW_of (Rlweak g (by decide +kernel) (by decide) (by decide))))
    · exact r_ifF (by decide +kernel) (r_ifT rfl (r_some (PW_of (Rlweak g (by decide +kernel) (by decide) (by decide)))))
theorem w_enroll {T : Nat → Nat} {S : AS} (hT : TI T S) {a0 : Option Nat} {a1 : Int32} {a2 : Int32} {a3 : Option Nat} (h0 : Tx T 1 a0) (hk : Tx T 50 a3) : Ho (f_W_enroll S a0 a1 a2 a3) (fun q => PW T kw_K11 S 10 700 q.2) := by
  unfold f_W_enroll
  refine r_rv hT h0 rfl ?_
  refine r_bhX (t_K_enroll hT h0) (fun v S1 g _ => ?_) (fun e S1 g he => ?_)
  · exact r_bJ g hk (fun g2 => r_some ⟨_, Rlweak g2 (fun _ z => z) (by decide) (by decide)⟩)
  · simp only [List.mem_cons, List.not_mem_nil, or_false] at he
    rcases he with rfl | rfl
    · exact r_ifF (by decide +kernel) (r_ifT rfl (r_some (PW_of (Rlweak g (by decide +kernel) (by decide) (by decide)))))
    · exact r_ifT rfl (r_some (PW_of (Rlweak g (by decide +kernel) (by decide) (by decide))))
theorem w_factor {T : Nat → Nat} {S : AS} (hT : TI T S) {a0 : Option Nat} {a1 : Int32} {a2 : Int32} {a3 : Option Nat} (h0 : Tx T 1 a0) (hk : Tx T 50 a3) : Ho (f_W_factor S a0 a1 a2 a3) (fun q => PW T [] S 10 700 q.2) := by
  unfold f_W_factor
  refine r_rv hT h0 rfl ?_
  have g0 := Rlrf hT
  refine r_bhT (t_K_factor hT h0) (fun v _ => ?_) (fun e he => ?_)
  · exact r_bJ g0 hk (fun g2 => r_some ⟨_, Rlweak g2 (fun _ z => z) (by decide) (by decide)⟩)
  · simp only [List.mem_cons, List.not_mem_nil, or_false] at he
    rcases he with rfl | rfl
    · exact r_ifF (by decide +kernel) (r_ifT rfl (r_some (PW_of (Rlweak (RlwX g0) (by decide +kernel) (by decide) (by decide)))))
    · exact r_ifT rfl (r_some (PW_of (Rlweak (RlwX g0) (by decide +kernel) (by decide) (by decide))))
theorem w_step {T : Nat → Nat} {S : AS} (hT : TI T S) {a0 : Option Nat} {a1 : Int32} {a2 : Int32} {a3 : Int32} {a4 : Int32} {a5 : Int32} {a6 : Option Nat} (h0 : Tx T 1 a0) (hk : Tx T 50 a6) : Ho (f_W_step S a0 a1 a2 a3 a4 a5 a6) (fun q => PW T kw_K13 S 10 700 q.2) := by
  unfold f_W_step
  refine r_rv hT h0 rfl ?_
  refine r_bhX (t_K_step hT h0) (fun v S1 g _ => ?_) (fun e S1 g he => ?_)
  · exact r_bJ g hk (fun g2 => r_some ⟨_, Rlweak g2 (fun _ z => z) (by decide) (by decide)⟩)
  · simp only [List.mem_cons, List.not_mem_nil, or_false] at he
    rcases he with rfl | rfl
    · exact r_ifT rfl (r_some (PW_of (Rlweak g (by decide +kernel) (by decide) (by decide))))
    · exact r_ifF (by decide +kernel) (r_ifT rfl (r_some (PW_of (Rlweak g (by decide +kernel) (by decide) (by decide)))))
theorem w_publish {T : Nat → Nat} {S : AS} (hT : TI T S) {a0 : Option Nat} {a1 : Option Nat} (h0 : Tx T 1 a0) (hk : Tx T 50 a1) : Ho (f_W_publish S a0 a1) (fun q => PW T kw_K44 S 10 700 q.2) := by
  unfold f_W_publish
  refine r_rv hT h0 rfl ?_
  refine r_bhY (t_K_publish hT h0) (fun v T1 S1 g _ => ?_) (fun e T1 S1 g he => ?_)
  · exact r_bJ g (Tx.up hk g.ty) (fun g2 => r_some ⟨_, Rlweak g2 (fun _ z => z) (by decide) (by decide)⟩)
  · simp only [List.mem_cons, List.not_mem_nil, or_false] at he
    subst he
    exact r_ifT rfl (r_some (PW_of (Rlweak g (by decide +kernel) (by decide) (by decide))))
theorem w_weakest {T : Nat → Nat} {S : AS} (hT : TI T S) {a0 : Option Nat} {a1 : Int32} {a2 : Option Nat} (h0 : Tx T 1 a0) (hk : Tx T 50 a2) : Ho (f_W_weakest S a0 a1 a2) (fun q => PW T kw_K14 S 10 700 q.2) := by
  unfold f_W_weakest
  refine r_rv hT h0 rfl ?_
  refine r_bhY (t_K_weakest hT h0) (fun v T1 S1 g _ => ?_) (fun e T1 S1 g he => ?_)
  · exact r_bJ g (Tx.up hk g.ty) (fun g2 => r_some ⟨_, Rlweak g2 (fun _ z => z) (by decide) (by decide)⟩)
  · simp only [List.mem_cons, List.not_mem_nil, or_false] at he
    subst he
    exact r_ifT rfl (r_some (PW_of (Rlweak g (by decide +kernel) (by decide) (by decide))))
theorem w_points {T : Nat → Nat} {S : AS} (hT : TI T S) {a0 : Option Nat} {a1 : Int32} {a2 : Int32} {a3 : Int32} {a4 : Option Nat} (h0 : Tx T 1 a0) (hk : Tx T 50 a4) : Ho (f_W_points S a0 a1 a2 a3 a4) (fun q => PW T kw_K47 S 10 700 q.2) := by
  unfold f_W_points
  refine r_rv hT h0 rfl ?_
  refine r_bhX (t_K_points hT h0) (fun v S1 g _ => ?_) (fun e S1 g he => ?_)
  · exact r_bJ g hk (fun g2 => r_some ⟨_, Rlweak g2 (fun _ z => z) (by decide) (by decide)⟩)
  · simp only [List.mem_cons, List.not_mem_nil, or_false] at he
    subst he
    exact r_ifT rfl (r_some (PW_of (Rlweak g (by decide +kernel) (by decide) (by decide))))
theorem w_begin {T : Nat → Nat} {S : AS} (hT : TI T S) {a0 : Option Nat} {a1 : Int32} {a2 : Int32} {a3 : Int32} {a4 : Option Nat} (h0 : Tx T 1 a0) (hk : Tx T 50 a4) : Ho (f_W_begin S a0 a1 a2 a3 a4) (fun q => PW T kw_K57 S 10 700 q.2) := by
  unfold f_W_begin
  refine r_rv hT h0 rfl ?_
  refine r_bhY (t_K_begin hT h0) (fun v T1 S1 g _ => ?_) (fun e T1 S1 g he => ?_)
  · exact r_bJ g (Tx.up hk g.ty) (fun g2 => r_some ⟨_, Rlweak g2 (fun _ z => z) (by decide) (by decide)⟩)
  · simp only [List.mem_cons, List.not_mem_nil, or_false] at he
    rcases he with rfl | rfl
    · exact r_ifF (by decide +kernel) (r_ifT rfl (r_some (PW_of (Rlweak g (by decide +kernel) (by decide) (by decide)))))
    · exact r_ifT rfl (r_some (PW_of (Rlweak g (by decide +kernel) (by decide) (by decide))))
theorem w_answer {T : Nat → Nat} {S : AS} (hT : TI T S) {a0 : Option Nat} {a1 : Int32} {a2 : Int32} {a3 : Int32} {a4 : Option Nat} (h0 : Tx T 1 a0) (hk : Tx T 50 a4) : Ho (f_W_answer S a0 a1 a2 a3 a4) (fun q => PW T kw_K63 S 10 700 q.2) := by
  unfold f_W_answer
  refine r_rv hT h0 rfl ?_
  refine r_bhY (t_K_answer hT h0) (fun v T1 S1 g _ => ?_) (fun e T1 S1 g he => ?_)
  · exact r_bJ g (Tx.up hk g.ty) (fun g2 => r_some ⟨_, Rlweak g2 (fun _ z => z) (by decide) (by decide)⟩)
  · simp only [List.mem_cons, List.not_mem_nil, or_false] at he
    rcases he with rfl | rfl | rfl
    · exact r_ifF (by decide +kernel) (r_ifT rfl (r_some (PW_of (Rlweak g (by decide +kernel) (by decide) (by decide)))))
    · exact r_ifF (by decide +kernel) (r_ifF (by decide +kernel) (r_ifT rfl (r_some (PW_of (Rlweak g (by decide +kernel) (by decide) (by decide))))))
    · exact r_ifT rfl (r_some (PW_of (Rlweak g (by decide +kernel) (by decide) (by decide))))
theorem w_state {T : Nat → Nat} {S : AS} (hT : TI T S) {a0 : Option Nat} {a1 : Int32} {a2 : Option Nat} (h0 : Tx T 1 a0) (hk : Tx T 50 a2) : Ho (f_W_state S a0 a1 a2) (fun q => PW T [] S 10 700 q.2) := by
  unfold f_W_state
  refine r_rv hT h0 rfl ?_
  have g0 := Rlrf hT
  refine r_bhT (t_K_state hT h0) (fun v _ => ?_) (fun e he => ?_)
  · exact r_bJ g0 hk (fun g2 => r_some ⟨_, Rlweak g2 (fun _ z => z) (by decide) (by decide)⟩)
  · simp only [List.mem_cons, List.not_mem_nil, or_false] at he
    subst he
    exact r_ifT rfl (r_some (PW_of (Rlweak (RlwX g0) (by decide +kernel) (by decide) (by decide))))
theorem w_asked {T : Nat → Nat} {S : AS} (hT : TI T S) {a0 : Option Nat} {a1 : Int32} {a2 : Option Nat} (h0 : Tx T 1 a0) (hk : Tx T 50 a2) : Ho (f_W_asked S a0 a1 a2) (fun q => PW T [] S 10 700 q.2) := by
  unfold f_W_asked
  refine r_rv hT h0 rfl ?_
  have g0 := Rlrf hT
  refine r_bhT (t_K_asked hT h0) (fun v _ => ?_) (fun e he => ?_)
  · exact r_bJ g0 hk (fun g2 => r_some ⟨_, Rlweak g2 (fun _ z => z) (by decide) (by decide)⟩)
  · simp only [List.mem_cons, List.not_mem_nil, or_false] at he
    subst he
    exact r_ifT rfl (r_some (PW_of (Rlweak (RlwX g0) (by decide +kernel) (by decide) (by decide))))
theorem w_sessionOf {T : Nat → Nat} {S : AS} (hT : TI T S) {a0 : Option Nat} {a1 : Int32} {a2 : Option Nat} (h0 : Tx T 1 a0) (hk : Tx T 50 a2) : Ho (f_W_sessionOf S a0 a1 a2) (fun q => PW T [] S 10 700 q.2) := by
  unfold f_W_sessionOf
  refine r_rv hT h0 rfl ?_
  have g0 := Rlrf hT
  refine r_bhT (t_K_sessionOf hT h0) (fun v _ => ?_) (fun e he => ?_)
  · exact r_bJ g0 hk (fun g2 => r_some ⟨_, Rlweak g2 (fun _ z => z) (by decide) (by decide)⟩)
  · simp only [List.mem_cons, List.not_mem_nil, or_false] at he
    subst he
    exact r_ifT rfl (r_some (PW_of (Rlweak (RlwX g0) (by decide +kernel) (by decide) (by decide))))
theorem w_risk {T : Nat → Nat} {S : AS} (hT : TI T S) {a0 : Option Nat} {a1 : Int32} {a2 : Option Nat} (h0 : Tx T 1 a0) (hk : Tx T 50 a2) : Ho (f_W_risk S a0 a1 a2) (fun q => PW T [] S 10 700 q.2) := by
  unfold f_W_risk
  refine r_rv hT h0 rfl ?_
  have g0 := Rlrf hT
  refine r_bhT (t_K_risk hT h0) (fun v _ => ?_) (fun e he => ?_)
  · exact r_bJ g0 hk (fun g2 => r_some ⟨_, Rlweak g2 (fun _ z => z) (by decide) (by decide)⟩)
  · simp only [List.mem_cons, List.not_mem_nil, or_false] at he
    subst he
    exact r_ifT rfl (r_some (PW_of (Rlweak (RlwX g0) (by decide +kernel) (by decide) (by decide))))
theorem w_trialRisk {T : Nat → Nat} {S : AS} (hT : TI T S) {a0 : Option Nat} {a1 : Int32} {a2 : Option Nat} (h0 : Tx T 1 a0) (hk : Tx T 50 a2) : Ho (f_W_trialRisk S a0 a1 a2) (fun q => PW T [] S 10 700 q.2) := by
  unfold f_W_trialRisk
  refine r_rv hT h0 rfl ?_
  have g0 := Rlrf hT
  refine r_bhT (t_K_trialRisk hT h0) (fun v _ => ?_) (fun e he => ?_)
  · exact r_bJ g0 hk (fun g2 => r_some ⟨_, Rlweak g2 (fun _ z => z) (by decide) (by decide)⟩)
  · simp only [List.mem_cons, List.not_mem_nil, or_false] at he
    subst he
    exact r_ifT rfl (r_some (PW_of (Rlweak (RlwX g0) (by decide +kernel) (by decide) (by decide))))
theorem w_isLive {T : Nat → Nat} {S : AS} (hT : TI T S) {a0 : Option Nat} {a1 : Int32} {a2 : Option Nat} (h0 : Tx T 1 a0) (hk : Tx T 50 a2) : Ho (f_W_isLive S a0 a1 a2) (fun q => PW T [] S 10 700 q.2) := by
  unfold f_W_isLive
  refine r_rv hT h0 rfl ?_
  have g0 := Rlrf hT
  refine r_bhT (t_K_isLive hT h0) (fun v _ => ?_) (fun e he => ?_)
  · refine r_if (fun _ => ?_) (fun _ => ?_)
    · unfold f_W_isLive_B15
      exact r_bJ g0 hk (fun g2 => r_some ⟨_, Rlweak g2 (fun _ z => z) (by decide) (by decide)⟩)
    · unfold f_W_isLive_B15
      exact r_bJ g0 hk (fun g2 => r_some ⟨_, Rlweak g2 (fun _ z => z) (by decide) (by decide)⟩)
  · simp only [List.mem_cons, List.not_mem_nil, or_false] at he
    subst he
    exact r_ifT rfl (r_some (PW_of (Rlweak (RlwX g0) (by decide +kernel) (by decide) (by decide))))
theorem w_isLiveByAudit {T : Nat → Nat} {S : AS} (hT : TI T S) {a0 : Option Nat} {a1 : Int32} {a2 : Option Nat} (h0 : Tx T 1 a0) (hk : Tx T 50 a2) : Ho (f_W_isLiveByAudit S a0 a1 a2) (fun q => PW T [] S 10 700 q.2) := by
  unfold f_W_isLiveByAudit
  refine r_rv hT h0 rfl ?_
  have g0 := Rlrf hT
  refine r_bhT (t_K_isLiveByAudit hT h0) (fun v _ => ?_) (fun e he => ?_)
  · refine r_if (fun _ => ?_) (fun _ => ?_)
    · unfold f_W_isLiveByAudit_B15
      exact r_bJ g0 hk (fun g2 => r_some ⟨_, Rlweak g2 (fun _ z => z) (by decide) (by decide)⟩)
    · unfold f_W_isLiveByAudit_B15
      exact r_bJ g0 hk (fun g2 => r_some ⟨_, Rlweak g2 (fun _ z => z) (by decide) (by decide)⟩)
  · simp only [List.mem_cons, List.not_mem_nil, or_false] at he
    subst he
    exact r_ifT rfl (r_some (PW_of (Rlweak (RlwX g0) (by decide +kernel) (by decide) (by decide))))
theorem w_level {T : Nat → Nat} {S : AS} (hT : TI T S) {a0 : Option Nat} {a1 : Int32} {a2 : Option Nat} (h0 : Tx T 1 a0) (hk : Tx T 50 a2) : Ho (f_W_level S a0 a1 a2) (fun q => PW T [] S 10 700 q.2) := by
  unfold f_W_level
  refine r_rv hT h0 rfl ?_
  have g0 := Rlrf hT
  refine r_bhT (t_K_level hT h0) (fun v _ => ?_) (fun e he => ?_)
  · exact r_bJ g0 hk (fun g2 => r_some ⟨_, Rlweak g2 (fun _ z => z) (by decide) (by decide)⟩)
  · simp only [List.mem_cons, List.not_mem_nil, or_false] at he
    subst he
    exact r_ifT rfl (r_some (PW_of (Rlweak (RlwX g0) (by decide +kernel) (by decide) (by decide))))
theorem w_stepUp {T : Nat → Nat} {S : AS} (hT : TI T S) {a0 : Option Nat} {a1 : Int32} {a2 : Int32} {a3 : Int32} {a4 : Int32} {a5 : Option Nat} (h0 : Tx T 1 a0) (hk : Tx T 50 a5) : Ho (f_W_stepUp S a0 a1 a2 a3 a4 a5) (fun q => PW T kw_K67 S 10 700 q.2) := by
  unfold f_W_stepUp
  refine r_rv hT h0 rfl ?_
  refine r_bhX (t_K_stepUp hT h0) (fun v S1 g _ => ?_) (fun e S1 g he => ?_)
  · exact r_bJ g hk (fun g2 => r_some ⟨_, Rlweak g2 (fun _ z => z) (by decide) (by decide)⟩)
  · simp only [List.mem_cons, List.not_mem_nil, or_false] at he
    rcases he with rfl | rfl | rfl
    · exact r_ifF (by decide +kernel) (r_ifT rfl (r_some (PW_of (Rlweak g (by decide +kernel) (by decide) (by decide)))))
    · exact r_ifF (by decide +kernel) (r_ifF (by decide +kernel) (r_ifT rfl (r_some (PW_of (Rlweak g (by decide +kernel) (by decide) (by decide))))))
    · exact r_ifT rfl (r_some (PW_of (Rlweak g (by decide +kernel) (by decide) (by decide))))
theorem w_signOut {T : Nat → Nat} {S : AS} (hT : TI T S) {a0 : Option Nat} {a1 : Int32} {a2 : Option Nat} (h0 : Tx T 1 a0) (hk : Tx T 50 a2) : Ho (f_W_signOut S a0 a1 a2) (fun q => PW T kw_K38 S 10 700 q.2) := by
  unfold f_W_signOut
  refine r_rv hT h0 rfl ?_
  refine r_bhX (t_K_signOut hT h0) (fun v S1 g _ => ?_) (fun e S1 g he => ?_)
  · exact r_bJ g hk (fun g2 => r_some ⟨_, Rlweak g2 (fun _ z => z) (by decide) (by decide)⟩)
  · simp only [List.mem_cons, List.not_mem_nil, or_false] at he
    rcases he with rfl | rfl
    · exact r_ifF (by decide +kernel) (r_ifT rfl (r_some (PW_of (Rlweak g (by decide +kernel) (by decide) (by decide)))))
    · exact r_ifT rfl (r_some (PW_of (Rlweak g (by decide +kernel) (by decide) (by decide))))
theorem w_helper {T : Nat → Nat} {S : AS} (hT : TI T S) {a0 : Option Nat} {a1 : Int32} {a2 : Option Nat} (h0 : Tx T 1 a0) (hk : Tx T 50 a2) : Ho (f_W_helper S a0 a1 a2) (fun q => PW T kw_K68 S 10 700 q.2) := by
  unfold f_W_helper
  refine r_rv hT h0 rfl ?_
  refine r_bhX (t_K_helper hT h0) (fun v S1 g _ => ?_) (fun e S1 g he => ?_)
  · refine r_if (fun _ => ?_) (fun _ => ?_)
    · unfold f_W_helper_B15
      exact r_bJ g hk (fun g2 => r_some ⟨_, Rlweak g2 (fun _ z => z) (by decide) (by decide)⟩)
    · unfold f_W_helper_B15
      exact r_bJ g hk (fun g2 => r_some ⟨_, Rlweak g2 (fun _ z => z) (by decide) (by decide)⟩)
  · simp only [List.mem_cons, List.not_mem_nil, or_false] at he
    subst he
    exact r_ifT rfl (r_some (PW_of (Rlweak g (by decide +kernel) (by decide) (by decide))))
theorem w_act {T : Nat → Nat} {S : AS} (hT : TI T S) {a0 : Option Nat} {a1 : Int32} {a2 : Int32} {a3 : Option Nat} (h0 : Tx T 1 a0) (hk : Tx T 50 a3) : Ho (f_W_act S a0 a1 a2 a3) (fun q => PW T kw_K50 S 10 700 q.2) := by
  unfold f_W_act
  refine r_rv hT h0 rfl ?_
  refine r_bhY (t_K_act hT h0) (fun v T1 S1 g _ => ?_) (fun e T1 S1 g he => ?_)
  · exact r_bJ g (Tx.up hk g.ty) (fun g2 => r_some ⟨_, Rlweak g2 (fun _ z => z) (by decide) (by decide)⟩)
  · simp only [List.mem_cons, List.not_mem_nil, or_false] at he
    rcases he with rfl | rfl
    · exact r_ifF (by decide +kernel) (r_ifT rfl (r_some (PW_of (Rlweak g (by decide +kernel) (by decide) (by decide)))))
    · exact r_ifT rfl (r_some (PW_of (Rlweak g (by decide +kernel) (by decide) (by decide))))
theorem w_consent {T : Nat → Nat} {S : AS} (hT : TI T S) {a0 : Option Nat} {a1 : Int32} {a2 : Int32} {a3 : Int32} {a4 : Option Nat} (h0 : Tx T 1 a0) (hk : Tx T 50 a4) : Ho (f_W_consent S a0 a1 a2 a3 a4) (fun q => PW T kw_K71 S 10 700 q.2) := by
  unfold f_W_consent
  refine r_rv hT h0 rfl ?_
  refine r_bhX (t_K_consent hT h0) (fun v S1 g _ => ?_) (fun e S1 g he => ?_)
  · exact r_bJ g hk (fun g2 => r_some ⟨_, Rlweak g2 (fun _ z => z) (by decide) (by decide)⟩)
  · simp only [List.mem_cons, List.not_mem_nil, or_false] at he
    rcases he with rfl | rfl
    · exact r_ifF (by decide +kernel) (r_ifT rfl (r_some (PW_of (Rlweak g (by decide +kernel) (by decide) (by decide)))))
    · exact r_ifT rfl (r_some (PW_of (Rlweak g (by decide +kernel) (by decide) (by decide))))
theorem w_withdraw {T : Nat → Nat} {S : AS} (hT : TI T S) {a0 : Option Nat} {a1 : Int32} {a2 : Int32} {a3 : Option Nat} (h0 : Tx T 1 a0) (hk : Tx T 50 a3) : Ho (f_W_withdraw S a0 a1 a2 a3) (fun q => PW T kw_K72 S 10 700 q.2) := by
  unfold f_W_withdraw
  refine r_rv hT h0 rfl ?_
  refine r_bhX (t_K_withdraw hT h0) (fun v S1 g _ => ?_) (fun e S1 g he => ?_)
  · exact r_bJ g hk (fun g2 => r_some ⟨_, Rlweak g2 (fun _ z => z) (by decide) (by decide)⟩)
  · simp only [List.mem_cons, List.not_mem_nil, or_false] at he
    subst he
    exact r_ifT rfl (r_some (PW_of (Rlweak g (by decide +kernel) (by decide) (by decide))))
theorem w_need {T : Nat → Nat} {S : AS} (hT : TI T S) {a0 : Option Nat} {a1 : Int32} {a2 : Int32} {a3 : Option Nat} (h0 : Tx T 1 a0) (hk : Tx T 50 a3) : Ho (f_W_need S a0 a1 a2 a3) (fun q => PW T kw_K73 S 10 700 q.2) := by
  unfold f_W_need
  refine r_rv hT h0 rfl ?_
  refine r_bhX (t_K_need hT h0) (fun v S1 g _ => ?_) (fun e S1 g he => ?_)
  · exact r_bJ g hk (fun g2 => r_some ⟨_, Rlweak g2 (fun _ z => z) (by decide) (by decide)⟩)
  · simp only [List.mem_cons, List.not_mem_nil, or_false] at he
    rcases he with rfl | rfl
    · exact r_ifF (by decide +kernel) (r_ifT rfl (r_some (PW_of (Rlweak g (by decide +kernel) (by decide) (by decide)))))
    · exact r_ifT rfl (r_some (PW_of (Rlweak g (by decide +kernel) (by decide) (by decide))))
theorem w_authorize {T : Nat → Nat} {S : AS} (hT : TI T S) {a0 : Option Nat} {a1 : Int32} {a2 : Int32} {a3 : Int32} {a4 : Int32} {a5 : Option Nat} (h0 : Tx T 1 a0) (hk : Tx T 50 a5) : Ho (f_W_authorize S a0 a1 a2 a3 a4 a5) (fun q => PW T kw_K74 S 10 700 q.2) := by
  unfold f_W_authorize
  refine r_rv hT h0 rfl ?_
  refine r_bhY (t_K_authorize hT h0) (fun v T1 S1 g _ => ?_) (fun e T1 S1 g he => ?_)
  · exact r_bJ g (Tx.up hk g.ty) (fun g2 => r_some ⟨_, Rlweak g2 (fun _ z => z) (by decide) (by decide)⟩)
  · simp only [List.mem_cons, List.not_mem_nil, or_false] at he
    rcases he with rfl | rfl | rfl
    · exact r_ifF (by decide +kernel) (r_ifT rfl (r_some (PW_of (Rlweak g (by decide +kernel) (by decide) (by decide)))))
    · exact r_ifF (by decide +kernel) (r_ifF (by decide +kernel) (r_ifT rfl (r_some (PW_of (Rlweak g (by decide +kernel) (by decide) (by decide))))))
    · exact r_ifT rfl (r_some (PW_of (Rlweak g (by decide +kernel) (by decide) (by decide))))
theorem w_redeem {T : Nat → Nat} {S : AS} (hT : TI T S) {a0 : Option Nat} {a1 : Int32} {a2 : Option Nat} (h0 : Tx T 1 a0) (hk : Tx T 50 a2) (hF : FT S) : Ho (f_W_redeem S a0 a1 a2) (fun q => PW T kw_K83 S 10 700 q.2 ∧ FT q.2) := by
  unfold f_W_redeem
  refine r_rv hT h0 rfl ?_
  refine r_bhR (tF_redeem hT h0 hF) (fun v T1 S1 g hf => ?_) (fun e T1 S1 g he hf => ?_)
  · exact r_bJ g (Tx.up hk g.ty) (fun g2 => r_some ⟨⟨_, Rlweak g2 (fun _ z => z) (by decide) (by decide)⟩, hf⟩)
  · simp only [List.mem_cons, List.not_mem_nil, or_false] at he
    rcases he with rfl | rfl
    · exact r_ifF (by decide +kernel) (r_ifT rfl (r_some ⟨(PW_of (Rlweak g (by decide +kernel) (by decide) (by decide))), hf⟩))
    · exact r_ifT rfl (r_some ⟨(PW_of (Rlweak g (by decide +kernel) (by decide) (by decide))), hf⟩)
theorem w_refresh {T : Nat → Nat} {S : AS} (hT : TI T S) {a0 : Option Nat} {a1 : Int32} {a2 : Int32} {a3 : Option Nat} (h0 : Tx T 1 a0) (hk : Tx T 50 a3) : Ho (f_W_refresh S a0 a1 a2 a3) (fun q => PW T kw_K88 S 10 700 q.2) := by
  unfold f_W_refresh
  refine r_rv hT h0 rfl ?_
  refine r_bhY (t_K_refresh hT h0) (fun v T1 S1 g _ => ?_) (fun e T1 S1 g he => ?_)
  · exact r_bJ g (Tx.up hk g.ty) (fun g2 => r_some ⟨_, Rlweak g2 (fun _ z => z) (by decide) (by decide)⟩)
  · simp only [List.mem_cons, List.not_mem_nil, or_false] at he
    rcases he with rfl | rfl | rfl
    · exact r_ifF (by decide +kernel) (r_ifT rfl (r_some (PW_of (Rlweak g (by decide +kernel) (by decide) (by decide)))))
    · exact r_ifF (by decide +kernel) (r_ifF (by decide +kernel) (r_ifT rfl (r_some (PW_of (Rlweak g (by decide +kernel) (by decide) (by decide))))))
    · exact r_ifT rfl (r_some (PW_of (Rlweak g (by decide +kernel) (by decide) (by decide))))
theorem w_isGood {T : Nat → Nat} {S : AS} (hT : TI T S) {a0 : Option Nat} {a1 : Int32} {a2 : Option Nat} (h0 : Tx T 1 a0) (hk : Tx T 50 a2) : Ho (f_W_isGood S a0 a1 a2) (fun q => PW T [] S 10 700 q.2) := by
  unfold f_W_isGood
  refine r_rv hT h0 rfl ?_
  have g0 := Rlrf hT
  refine r_bhT (t_K_isGood hT h0) (fun v _ => ?_) (fun e he => ?_)
  · refine r_if (fun _ => ?_) (fun _ => ?_)
    · unfold f_W_isGood_B15
      exact r_bJ g0 hk (fun g2 => r_some ⟨_, Rlweak g2 (fun _ z => z) (by decide) (by decide)⟩)
    · unfold f_W_isGood_B15
      exact r_bJ g0 hk (fun g2 => r_some ⟨_, Rlweak g2 (fun _ z => z) (by decide) (by decide)⟩)
  · simp only [List.mem_cons, List.not_mem_nil, or_false] at he
    subst he
    exact r_ifT rfl (r_some (PW_of (Rlweak (RlwX g0) (by decide +kernel) (by decide) (by decide))))
theorem w_tokenOf {T : Nat → Nat} {S : AS} (hT : TI T S) {a0 : Option Nat} {a1 : Int32} {a2 : Option Nat} (h0 : Tx T 1 a0) (hk : Tx T 50 a2) : Ho (f_W_tokenOf S a0 a1 a2) (fun q => PW T [] S 10 700 q.2) := by
  unfold f_W_tokenOf
  refine r_rv hT h0 rfl ?_
  have g0 := Rlrf hT
  refine r_bhT (t_K_tokenOf hT h0) (fun v _ => ?_) (fun e he => ?_)
  · exact r_bJ g0 hk (fun g2 => r_some ⟨_, Rlweak g2 (fun _ z => z) (by decide) (by decide)⟩)
  · simp only [List.mem_cons, List.not_mem_nil, or_false] at he
    subst he
    exact r_ifT rfl (r_some (PW_of (Rlweak (RlwX g0) (by decide +kernel) (by decide) (by decide))))
theorem w_exchange {T : Nat → Nat} {S : AS} (hT : TI T S) {a0 : Option Nat} {a1 : Int32} {a2 : Int32} {a3 : Int32} {a4 : Option Nat} (h0 : Tx T 1 a0) (hk : Tx T 50 a4) : Ho (f_W_exchange S a0 a1 a2 a3 a4) (fun q => PW T kw_K77 S 10 700 q.2) := by
  unfold f_W_exchange
  refine r_rv hT h0 rfl ?_
  refine r_bhY (t_K_exchange hT h0) (fun v T1 S1 g _ => ?_) (fun e T1 S1 g he => ?_)
  · exact r_bJ g (Tx.up hk g.ty) (fun g2 => r_some ⟨_, Rlweak g2 (fun _ z => z) (by decide) (by decide)⟩)
  · simp only [List.mem_cons, List.not_mem_nil, or_false] at he
    rcases he with rfl | rfl | rfl
    · exact r_ifF (by decide +kernel) (r_ifT rfl (r_some (PW_of (Rlweak g (by decide +kernel) (by decide) (by decide)))))
    · exact r_ifF (by decide +kernel) (r_ifF (by decide +kernel) (r_ifT rfl (r_some (PW_of (Rlweak g (by decide +kernel) (by decide) (by decide))))))
    · exact r_ifT rfl (r_some (PW_of (Rlweak g (by decide +kernel) (by decide) (by decide))))
theorem w_token {T : Nat → Nat} {S : AS} (hT : TI T S) {a0 : Option Nat} {a1 : Int32} {a2 : Option Nat} (h0 : Tx T 1 a0) (hk : Tx T 50 a2) : Ho (f_W_token S a0 a1 a2) (fun q => PW T [] S 10 700 q.2) := by
  unfold f_W_token
  refine r_rv hT h0 rfl ?_
  have g0 := Rlrf hT
  refine r_bhT (t_K_token hT h0) (fun v _ => ?_) (fun e he => ?_)
  · exact r_bJ g0 hk (fun g2 => r_some ⟨_, Rlweak g2 (fun _ z => z) (by decide) (by decide)⟩)
  · simp only [List.mem_cons, List.not_mem_nil, or_false] at he
    subst he
    exact r_ifT rfl (r_some (PW_of (Rlweak (RlwX g0) (by decide +kernel) (by decide) (by decide))))
theorem w_turn {T : Nat → Nat} {S : AS} (hT : TI T S) {a0 : Option Nat} {a1 : Option Nat} (h0 : Tx T 1 a0) (hk : Tx T 50 a1) : Ho (f_W_turn S a0 a1) (fun q => PW T kw_K27 S 10 700 q.2) := by
  unfold f_W_turn
  refine r_rv hT h0 rfl ?_
  refine r_bhX (t_K_turn hT h0) (fun v S1 g _ => ?_) (fun e S1 g he => ?_)
  · exact r_bJ g hk (fun g2 => r_some ⟨_, Rlweak g2 (fun _ z => z) (by decide) (by decide)⟩)
  · simp only [List.mem_cons, List.not_mem_nil, or_false] at he
    subst he
    exact r_ifT rfl (r_some (PW_of (Rlweak g (by decide +kernel) (by decide) (by decide))))
theorem w_emergency {T : Nat → Nat} {S : AS} (hT : TI T S) {a0 : Option Nat} {a1 : Option Nat} (h0 : Tx T 1 a0) (hk : Tx T 50 a1) : Ho (f_W_emergency S a0 a1) (fun q => PW T kw_K89 S 10 700 q.2) := by
  unfold f_W_emergency
  refine r_rv hT h0 rfl ?_
  refine r_bhX (t_K_emergency hT h0) (fun v S1 g _ => ?_) (fun e S1 g he => ?_)
  · exact r_bJ g hk (fun g2 => r_some ⟨_, Rlweak g2 (fun _ z => z) (by decide) (by decide)⟩)
  · simp only [List.mem_cons, List.not_mem_nil, or_false] at he
    subst he
    exact r_ifT rfl (r_some (PW_of (Rlweak g (by decide +kernel) (by decide) (by decide))))
theorem w_isPublished {T : Nat → Nat} {S : AS} (hT : TI T S) {a0 : Option Nat} {a1 : Int32} {a2 : Option Nat} (h0 : Tx T 1 a0) (hk : Tx T 50 a2) : Ho (f_W_isPublished S a0 a1 a2) (fun q => PW T [] S 10 700 q.2) := by
  unfold f_W_isPublished
  refine r_rv hT h0 rfl ?_
  have g0 := Rlrf hT
  refine r_bhT (t_K_isPublished hT h0) (fun v _ => ?_) (fun e he => ?_)
  · refine r_if (fun _ => ?_) (fun _ => ?_)
    · unfold f_W_isPublished_B15
      exact r_bJ g0 hk (fun g2 => r_some ⟨_, Rlweak g2 (fun _ z => z) (by decide) (by decide)⟩)
    · unfold f_W_isPublished_B15
      exact r_bJ g0 hk (fun g2 => r_some ⟨_, Rlweak g2 (fun _ z => z) (by decide) (by decide)⟩)
  · simp only [List.mem_cons, List.not_mem_nil, or_false] at he
    subst he
    exact r_ifT rfl (r_some (PW_of (Rlweak (RlwX g0) (by decide +kernel) (by decide) (by decide))))
theorem w_line {T : Nat → Nat} {S : AS} (hT : TI T S) {a0 : Option Nat} {a1 : Int32} {a2 : Option Nat} (h0 : Tx T 1 a0) (hk : Tx T 50 a2) : Ho (f_W_line S a0 a1 a2) (fun q => PW T kw_K91 S 10 700 q.2) := by
  unfold f_W_line
  refine r_rv hT h0 rfl ?_
  refine r_bhX (t_K_line hT h0) (fun v S1 g _ => ?_) (fun e S1 g he => ?_)
  · exact r_bJ g hk (fun g2 => r_some ⟨_, Rlweak g2 (fun _ z => z) (by decide) (by decide)⟩)
  · simp only [List.mem_cons, List.not_mem_nil, or_false] at he
    subst he
    exact r_ifT rfl (r_some (PW_of (Rlweak g (by decide +kernel) (by decide) (by decide))))
theorem w_check {T : Nat → Nat} {S : AS} (hT : TI T S) {a0 : Option Nat} {a1 : Int32} {a2 : Int32} {a3 : Int32} {a4 : Option Nat} (h0 : Tx T 1 a0) (hk : Tx T 50 a4) : Ho (f_W_check S a0 a1 a2 a3 a4) (fun q => PW T kw_K93 S 10 700 q.2) := by
  unfold f_W_check
  refine r_rv hT h0 rfl ?_
  refine r_bhX (t_K_check hT h0) (fun v S1 g _ => ?_) (fun e S1 g he => ?_)
  · exact r_bJ g hk (fun g2 => r_some ⟨_, Rlweak g2 (fun _ z => z) (by decide) (by decide)⟩)
  · simp only [List.mem_cons, List.not_mem_nil, or_false] at he
    rcases he with rfl | rfl
    · exact r_ifF (by decide +kernel) (r_ifT rfl (r_some (PW_of (Rlweak g (by decide +kernel) (by decide) (by decide)))))
    · exact r_ifT rfl (r_some (PW_of (Rlweak g (by decide +kernel) (by decide) (by decide))))
theorem w_lag {T : Nat → Nat} {S : AS} (hT : TI T S) {a0 : Option Nat} {a1 : Int32} {a2 : Option Nat} (h0 : Tx T 1 a0) (hk : Tx T 50 a2) : Ho (f_W_lag S a0 a1 a2) (fun q => PW T [] S 10 700 q.2) := by
  unfold f_W_lag
  refine r_rv hT h0 rfl ?_
  have g0 := Rlrf hT
  refine r_bhT (t_K_lag hT h0) (fun v _ => ?_) (fun e he => ?_)
  · exact r_bJ g0 hk (fun g2 => r_some ⟨_, Rlweak g2 (fun _ z => z) (by decide) (by decide)⟩)
  · simp only [List.mem_cons, List.not_mem_nil, or_false] at he
    subst he
    exact r_ifT rfl (r_some (PW_of (Rlweak (RlwX g0) (by decide +kernel) (by decide) (by decide))))
theorem w_recover {T : Nat → Nat} {S : AS} (hT : TI T S) {a0 : Option Nat} {a1 : Int32} {a2 : Option Nat} (h0 : Tx T 1 a0) (hk : Tx T 50 a2) : Ho (f_W_recover S a0 a1 a2) (fun q => PW T kw_K94 S 10 700 q.2) := by
  unfold f_W_recover
  refine r_rv hT h0 rfl ?_
  refine r_bhY (t_K_recover hT h0) (fun v T1 S1 g _ => ?_) (fun e T1 S1 g he => ?_)
  · exact r_bJ g (Tx.up hk g.ty) (fun g2 => r_some ⟨_, Rlweak g2 (fun _ z => z) (by decide) (by decide)⟩)
  · simp only [List.mem_cons, List.not_mem_nil, or_false] at he
    rcases he with rfl | rfl
    · exact r_ifF (by decide +kernel) (r_ifT rfl (r_some (PW_of (Rlweak g (by decide +kernel) (by decide) (by decide)))))
    · exact r_ifT rfl (r_some (PW_of (Rlweak g (by decide +kernel) (by decide) (by decide))))
theorem w_vouch {T : Nat → Nat} {S : AS} (hT : TI T S) {a0 : Option Nat} {a1 : Int32} {a2 : Int32} {a3 : Option Nat} (h0 : Tx T 1 a0) (hk : Tx T 50 a3) : Ho (f_W_vouch S a0 a1 a2 a3) (fun q => PW T kw_K96 S 10 700 q.2) := by
  unfold f_W_vouch
  refine r_rv hT h0 rfl ?_
  refine r_bhX (t_K_vouch hT h0) (fun v S1 g _ => ?_) (fun e S1 g he => ?_)
  · exact r_bJ g hk (fun g2 => r_some ⟨_, Rlweak g2 (fun _ z => z) (by decide) (by decide)⟩)
  · simp only [List.mem_cons, List.not_mem_nil, or_false] at he
    rcases he with rfl | rfl
    · exact r_ifF (by decide +kernel) (r_ifT rfl (r_some (PW_of (Rlweak g (by decide +kernel) (by decide) (by decide)))))
    · exact r_ifT rfl (r_some (PW_of (Rlweak g (by decide +kernel) (by decide) (by decide))))
theorem w_stop {T : Nat → Nat} {S : AS} (hT : TI T S) {a0 : Option Nat} {a1 : Int32} {a2 : Int32} {a3 : Option Nat} (h0 : Tx T 1 a0) (hk : Tx T 50 a3) : Ho (f_W_stop S a0 a1 a2 a3) (fun q => PW T kw_K97 S 10 700 q.2) := by
  unfold f_W_stop
  refine r_rv hT h0 rfl ?_
  refine r_bhX (t_K_stop hT h0) (fun v S1 g _ => ?_) (fun e S1 g he => ?_)
  · exact r_bJ g hk (fun g2 => r_some ⟨_, Rlweak g2 (fun _ z => z) (by decide) (by decide)⟩)
  · simp only [List.mem_cons, List.not_mem_nil, or_false] at he
    rcases he with rfl | rfl
    · exact r_ifF (by decide +kernel) (r_ifT rfl (r_some (PW_of (Rlweak g (by decide +kernel) (by decide) (by decide)))))
    · exact r_ifT rfl (r_some (PW_of (Rlweak g (by decide +kernel) (by decide) (by decide))))
theorem w_finish {T : Nat → Nat} {S : AS} (hT : TI T S) {a0 : Option Nat} {a1 : Int32} {a2 : Option Nat} (h0 : Tx T 1 a0) (hk : Tx T 50 a2) : Ho (f_W_finish S a0 a1 a2) (fun q => PW T kw_K101 S 10 700 q.2) := by
  unfold f_W_finish
  refine r_rv hT h0 rfl ?_
  refine r_bhX (t_K_finish hT h0) (fun v S1 g _ => ?_) (fun e S1 g he => ?_)
  · exact r_bJ g hk (fun g2 => r_some ⟨_, Rlweak g2 (fun _ z => z) (by decide) (by decide)⟩)
  · simp only [List.mem_cons, List.not_mem_nil, or_false] at he
    rcases he with rfl | rfl
    · exact r_ifF (by decide +kernel) (r_ifT rfl (r_some (PW_of (Rlweak g (by decide +kernel) (by decide) (by decide)))))
    · exact r_ifT rfl (r_some (PW_of (Rlweak g (by decide +kernel) (by decide) (by decide))))
theorem w_link {T : Nat → Nat} {S : AS} (hT : TI T S) {a0 : Option Nat} {a1 : Int32} {a2 : Int32} {a3 : Option Nat} (h0 : Tx T 1 a0) (hk : Tx T 50 a3) : Ho (f_W_link S a0 a1 a2 a3) (fun q => PW T kw_K102 S 10 700 q.2) := by
  unfold f_W_link
  refine r_rv hT h0 rfl ?_
  refine r_bhX (t_K_link hT h0) (fun v S1 g _ => ?_) (fun e S1 g he => ?_)
  · exact r_bJ g hk (fun g2 => r_some ⟨_, Rlweak g2 (fun _ z => z) (by decide) (by decide)⟩)
  · simp only [List.mem_cons, List.not_mem_nil, or_false] at he
    rcases he with rfl | rfl
    · exact r_ifF (by decide +kernel) (r_ifT rfl (r_some (PW_of (Rlweak g (by decide +kernel) (by decide) (by decide)))))
    · exact r_ifT rfl (r_some (PW_of (Rlweak g (by decide +kernel) (by decide) (by decide))))
theorem w_foreign {T : Nat → Nat} {S : AS} (hT : TI T S) {a0 : Option Nat} {a1 : Int32} {a2 : Option Nat} (h0 : Tx T 1 a0) (hk : Tx T 50 a2) : Ho (f_W_foreign S a0 a1 a2) (fun q => PW T kw_K50 S 10 700 q.2) := by
  unfold f_W_foreign
  refine r_rv hT h0 rfl ?_
  refine r_bhY (t_K_foreign hT h0) (fun v T1 S1 g _ => ?_) (fun e T1 S1 g he => ?_)
  · exact r_bJ g (Tx.up hk g.ty) (fun g2 => r_some ⟨_, Rlweak g2 (fun _ z => z) (by decide) (by decide)⟩)
  · simp only [List.mem_cons, List.not_mem_nil, or_false] at he
    rcases he with rfl | rfl
    · exact r_ifF (by decide +kernel) (r_ifT rfl (r_some (PW_of (Rlweak g (by decide +kernel) (by decide) (by decide)))))
    · exact r_ifT rfl (r_some (PW_of (Rlweak g (by decide +kernel) (by decide) (by decide))))
theorem w_leave {T : Nat → Nat} {S : AS} (hT : TI T S) {a0 : Option Nat} {a1 : Int32} {a2 : Option Nat} (h0 : Tx T 1 a0) (hk : Tx T 50 a2) : Ho (f_W_leave S a0 a1 a2) (fun q => PW T kw_K106 S 10 700 q.2) := by
  unfold f_W_leave
  refine r_rv hT h0 rfl ?_
  refine r_bhX (t_K_leave hT h0) (fun v S1 g _ => ?_) (fun e S1 g he => ?_)
  · exact r_bJ g hk (fun g2 => r_some ⟨_, Rlweak g2 (fun _ z => z) (by decide) (by decide)⟩)
  · simp only [List.mem_cons, List.not_mem_nil, or_false] at he
    subst he
    exact r_ifT rfl (r_some (PW_of (Rlweak g (by decide +kernel) (by decide) (by decide))))
theorem w_audit {T : Nat → Nat} {S : AS} (hT : TI T S) {a0 : Option Nat} {a1 : Int32} {a2 : Option Nat} (h0 : Tx T 1 a0) (hk : Tx T 50 a2) : Ho (f_W_audit S a0 a1 a2) (fun q => PW T [] S 10 700 q.2) := by
  unfold f_W_audit
  refine r_rv hT h0 rfl ?_
  have g0 := Rlrf hT
  refine r_bhT (t_K_audit hT h0) (fun v _ => ?_) (fun e he => ?_)
  · exact r_bJ g0 hk (fun g2 => r_some ⟨_, Rlweak g2 (fun _ z => z) (by decide) (by decide)⟩)
  · simp only [List.mem_cons, List.not_mem_nil, or_false] at he
    subst he
    exact r_ifT rfl (r_some (PW_of (Rlweak (RlwX g0) (by decide +kernel) (by decide) (by decide))))
theorem w_sumAnew {T : Nat → Nat} {S : AS} (hT : TI T S) {a0 : Option Nat} {a1 : Int32} {a2 : Option Nat} (h0 : Tx T 1 a0) (hk : Tx T 50 a2) : Ho (f_W_sumAnew S a0 a1 a2) (fun q => PW T [] S 10 700 q.2) := by
  unfold f_W_sumAnew
  refine r_rv hT h0 rfl ?_
  have g0 := Rlrf hT
  refine r_bhT (t_K_sumAnew hT h0) (fun v _ => ?_) (fun e he => ?_)
  · exact r_bJ g0 hk (fun g2 => r_some ⟨_, Rlweak g2 (fun _ z => z) (by decide) (by decide)⟩)
  · simp only [List.mem_cons, List.not_mem_nil, or_false] at he
    subst he
    exact r_ifT rfl (r_some (PW_of (Rlweak (RlwX g0) (by decide +kernel) (by decide) (by decide))))
end
section
/-! ===== the reference's calls, with what holds between them ===== -/
theorem mm_pass {T : Nat → Nat} {S : AS} (hT : TI T S) {a0 : Option Nat} {a1 : Int32} (h0 : Tx T 100 a0) (hM : MI S) (hph : Ph S ≤ 1100) : Ho (f_M_pass S a0 a1) (fun q => Rl T kw_M9 S 1 0 T q.2 ∧ MI q.2) := by
  obtain ⟨q, h1, h2, -⟩ := t_M_pass hT h0 (Int.le_trans hph (by decide))
  exact ⟨q, h1, Rlweak h2 (fun _ z => z) (by decide) (Nat.le_refl _), MI_fr hM h2 h0 (by decide +kernel)⟩
theorem mm_enroll {T : Nat → Nat} {S : AS} (hT : TI T S) {a0 : Option Nat} {a1 : Int32} {a2 : Int32} (h0 : Tx T 100 a0) (hM : MI S) (hph : Ph S ≤ 1100) : Ho (f_M_enroll S a0 a1 a2) (fun q => Rl T kw_M13 S 1 0 T q.2 ∧ MI q.2) := by
  obtain ⟨q, h1, h2, -⟩ := t_M_enroll hT h0 
  exact ⟨q, h1, Rlweak h2 (fun _ z => z) (by decide) (Nat.le_refl _), MI_fr hM h2 h0 (by decide +kernel)⟩
theorem mm_factor {T : Nat → Nat} {S : AS} (hT : TI T S) {a0 : Option Nat} {a1 : Int32} {a2 : Int32} (h0 : Tx T 100 a0) (hM : MI S) (hph : Ph S ≤ 1100) : Ho (f_M_factor S a0 a1 a2) (fun q => Rl T kw_M4 S 1 0 T q.2 ∧ MI q.2) := by
  obtain ⟨q, h1, h2, -⟩ := t_M_factor hT h0 
  exact ⟨q, h1, Rlweak h2 (fun _ z => z) (by decide) (Nat.le_refl _), MI_fr hM h2 h0 (by decide +kernel)⟩
theorem mm_step {T : Nat → Nat} {S : AS} (hT : TI T S) {a0 : Option Nat} {a1 : Int32} {a2 : Int32} {a3 : Int32} {a4 : Int32} {a5 : Int32} (h0 : Tx T 100 a0) (hM : MI S) (hph : Ph S ≤ 1100) : Ho (f_M_step S a0 a1 a2 a3 a4 a5) (fun q => Rl T kw_st S 1 0 T q.2 ∧ MI q.2) := by
  obtain ⟨n, hn, hn12⟩ := steps_n hT h0 (v := 8) (by decide)
  obtain ⟨q, h1, h2⟩ := t_M_stepX hT h0 hn12 hn
  exact ⟨q, h1, Rlweak h2.1 (fun _ z => z) (by decide) (Nat.le_refl _), MI_step hT h0 hn12 hM h2⟩
theorem mm_clear {T : Nat → Nat} {S : AS} (hT : TI T S) {a0 : Option Nat}  (h0 : Tx T 100 a0) (hM : MI S) (hph : Ph S ≤ 1100) : Ho (f_M_clear S a0) (fun q => Rl T kw_st S 1 0 T q.2 ∧ MI q.2) := by
  obtain ⟨n, hn, hn12⟩ := steps_n hT h0 (v := 8) (by decide)
  obtain ⟨q, h1, h2, h3⟩ := t_M_clearX hT h0 hn12 hn
  exact ⟨q, h1, Rlweak h2 (fun _ z => z) (by decide) (Nat.le_refl _), MI_clear hT h0 hM h2 (by rw [h3])⟩
theorem mm_publish {T : Nat → Nat} {S : AS} (hT : TI T S) {a0 : Option Nat}  (h0 : Tx T 100 a0) (hM : MI S) (hph : Ph S ≤ 1100) : Ho (f_M_publish S a0) (fun q => Rl T (10082 :: kw_pub) S 1 0 T q.2 ∧ MI q.2) := by
  obtain ⟨n, hn, hn12⟩ := steps_n hT h0 (v := 8) (by decide)
  obtain ⟨v, hv, hv8⟩ := fld hT h0 (j := 9) (b := 8) rfl
  obtain ⟨q, h1, h2⟩ := t_M_publish hT h0 hM.1 hn12 hn (ofNat_of hv) hv8
  exact ⟨q, h1, Rlweak h2.1 (fun _ z => z) (by decide) (Nat.le_refl _), MI_publish hT h0 hn12 (ofNat_of hv) hM h2 hv8⟩
theorem mm_weakest {T : Nat → Nat} {S : AS} (hT : TI T S) {a0 : Option Nat} {a1 : Int32} (h0 : Tx T 100 a0) (hM : MI S) (hph : Ph S ≤ 1100) : Ho (f_M_weakest S a0 a1) (fun q => Rl T kw_M22 S 1 0 T q.2 ∧ MI q.2) := by
  obtain ⟨q, h1, h2, -⟩ := t_M_weakest hT h0 hM.1
  exact ⟨q, h1, Rlweak h2 (fun _ z => z) (by decide) (Nat.le_refl _), MI_fr hM h2 h0 (by decide +kernel)⟩
theorem mm_points {T : Nat → Nat} {S : AS} (hT : TI T S) {a0 : Option Nat} {a1 : Int32} {a2 : Int32} {a3 : Int32} (h0 : Tx T 100 a0) (hM : MI S) (hph : Ph S ≤ 1100) : Ho (f_M_points S a0 a1 a2 a3) (fun q => Rl T kw_M25 S 1 0 T q.2 ∧ MI q.2) := by
  obtain ⟨q, h1, h2, -⟩ := t_M_points hT h0 
  exact ⟨q, h1, Rlweak h2 (fun _ z => z) (by decide) (Nat.le_refl _), MI_fr hM h2 h0 (by decide +kernel)⟩
theorem mm_begin {T : Nat → Nat} {S : AS} (hT : TI T S) {a0 : Option Nat} {a1 : Int32} {a2 : Int32} {a3 : Int32} (h0 : Tx T 100 a0) (hM : MI S) (hph : Ph S ≤ 1100) : Ho (f_M_begin S a0 a1 a2 a3) (fun q => Rl T kw_bg S 1 0 T q.2 ∧ MI q.2) := by
  obtain ⟨q, h1, h2, h3⟩ := t_M_begin hT h0 hph hM
  exact ⟨q, h1, Rlweak h2 (fun _ z => z) (by decide) (Nat.le_refl _), h3⟩
theorem mm_answer {T : Nat → Nat} {S : AS} (hT : TI T S) {a0 : Option Nat} {a1 : Int32} {a2 : Int32} {a3 : Int32} (h0 : Tx T 100 a0) (hM : MI S) (hph : Ph S ≤ 1100) : Ho (f_M_answer S a0 a1 a2 a3) (fun q => Rl T kw_an S 1 0 T q.2 ∧ MI q.2) := by
  exact t_M_answer hT h0 hph hM
theorem mm_state {T : Nat → Nat} {S : AS} (hT : TI T S) {a0 : Option Nat} {a1 : Int32} (h0 : Tx T 100 a0) (hM : MI S) (hph : Ph S ≤ 1100) : Ho (f_M_state S a0 a1) (fun q => Rl T kw_M4 S 1 0 T q.2 ∧ MI q.2) := by
  obtain ⟨q, h1, h2, -⟩ := t_M_state hT h0 
  exact ⟨q, h1, Rlweak h2 (fun _ z => z) (by decide) (Nat.le_refl _), MI_fr hM h2 h0 (by decide +kernel)⟩
theorem mm_asked {T : Nat → Nat} {S : AS} (hT : TI T S) {a0 : Option Nat} {a1 : Int32} (h0 : Tx T 100 a0) (hM : MI S) (hph : Ph S ≤ 1100) : Ho (f_M_asked S a0 a1) (fun q => Rl T [10082] S 1 0 T q.2 ∧ MI q.2) := by
  obtain ⟨q, h1, h2, h3⟩ := t_M_asked hT h0 hM
  exact ⟨q, h1, Rlweak h2 (fun _ z => z) (by decide) (Nat.le_refl _), h3⟩
theorem mm_sessionOf {T : Nat → Nat} {S : AS} (hT : TI T S) {a0 : Option Nat} {a1 : Int32} (h0 : Tx T 100 a0) (hM : MI S) (hph : Ph S ≤ 1100) : Ho (f_M_sessionOf S a0 a1) (fun q => Rl T kw_M4 S 1 0 T q.2 ∧ MI q.2) := by
  obtain ⟨q, h1, h2, -⟩ := t_M_sessionOf hT h0 
  exact ⟨q, h1, Rlweak h2 (fun _ z => z) (by decide) (Nat.le_refl _), MI_fr hM h2 h0 (by decide +kernel)⟩
theorem mm_risk {T : Nat → Nat} {S : AS} (hT : TI T S) {a0 : Option Nat} {a1 : Int32} (h0 : Tx T 100 a0) (hM : MI S) (hph : Ph S ≤ 1100) : Ho (f_M_risk S a0 a1) (fun q => Rl T kw_M4 S 1 0 T q.2 ∧ MI q.2) := by
  obtain ⟨q, h1, h2, -⟩ := t_M_risk hT h0 
  exact ⟨q, h1, Rlweak h2 (fun _ z => z) (by decide) (Nat.le_refl _), MI_fr hM h2 h0 (by decide +kernel)⟩
theorem mm_trialRisk {T : Nat → Nat} {S : AS} (hT : TI T S) {a0 : Option Nat} {a1 : Int32} (h0 : Tx T 100 a0) (hM : MI S) (hph : Ph S ≤ 1100) : Ho (f_M_trialRisk S a0 a1) (fun q => Rl T kw_M4 S 1 0 T q.2 ∧ MI q.2) := by
  obtain ⟨q, h1, h2, -⟩ := t_M_trialRisk hT h0 
  exact ⟨q, h1, Rlweak h2 (fun _ z => z) (by decide) (Nat.le_refl _), MI_fr hM h2 h0 (by decide +kernel)⟩
theorem mm_sessions {T : Nat → Nat} {S : AS} (hT : TI T S) {a0 : Option Nat}  (h0 : Tx T 100 a0) (hM : MI S) (hph : Ph S ≤ 1100) : Ho (f_M_sessions S a0) (fun q => Rl T kw_M4 S 1 0 T q.2 ∧ MI q.2) := by
  obtain ⟨q, h1, h2, -⟩ := t_M_sessions hT h0 
  exact ⟨q, h1, Rlweak h2 (fun _ z => z) (by decide) (Nat.le_refl _), MI_fr hM h2 h0 (by decide +kernel)⟩
theorem mm_isLive {T : Nat → Nat} {S : AS} (hT : TI T S) {a0 : Option Nat} {a1 : Int32} (h0 : Tx T 100 a0) (hM : MI S) (hph : Ph S ≤ 1100) : Ho (f_M_isLive S a0 a1) (fun q => Rl T kw_M4 S 1 0 T q.2 ∧ MI q.2) := by
  obtain ⟨q, h1, h2, -⟩ := t_M_isLive hT h0 
  exact ⟨q, h1, Rlweak h2 (fun _ z => z) (by decide) (Nat.le_refl _), MI_fr hM h2 h0 (by decide +kernel)⟩
theorem mm_isLiveByAudit {T : Nat → Nat} {S : AS} (hT : TI T S) {a0 : Option Nat} {a1 : Int32} (h0 : Tx T 100 a0) (hM : MI S) (hph : Ph S ≤ 1100) : Ho (f_M_isLiveByAudit S a0 a1) (fun q => Rl T kw_M4 S 1 0 T q.2 ∧ MI q.2) := by
  obtain ⟨q, h1, h2, -⟩ := t_M_isLiveByAudit hT h0 
  exact ⟨q, h1, Rlweak h2 (fun _ z => z) (by decide) (Nat.le_refl _), MI_fr hM h2 h0 (by decide +kernel)⟩
theorem mm_level {T : Nat → Nat} {S : AS} (hT : TI T S) {a0 : Option Nat} {a1 : Int32} (h0 : Tx T 100 a0) (hM : MI S) (hph : Ph S ≤ 1100) : Ho (f_M_level S a0 a1) (fun q => Rl T kw_M4 S 1 0 T q.2 ∧ MI q.2) := by
  obtain ⟨q, h1, h2, -⟩ := t_M_level hT h0 
  exact ⟨q, h1, Rlweak h2 (fun _ z => z) (by decide) (Nat.le_refl _), MI_fr hM h2 h0 (by decide +kernel)⟩
theorem mm_stepUp {T : Nat → Nat} {S : AS} (hT : TI T S) {a0 : Option Nat} {a1 : Int32} {a2 : Int32} {a3 : Int32} {a4 : Int32} (h0 : Tx T 100 a0) (hM : MI S) (hph : Ph S ≤ 1100) : Ho (f_M_stepUp S a0 a1 a2 a3 a4) (fun q => Rl T kw_M47 S 1 0 T q.2 ∧ MI q.2) := by
  obtain ⟨q, h1, h2, -⟩ := t_M_stepUp hT h0 (Int.le_trans hph (by decide))
  exact ⟨q, h1, Rlweak h2 (fun _ z => z) (by decide) (Nat.le_refl _), MI_fr hM h2 h0 (by decide +kernel)⟩
theorem mm_signOut {T : Nat → Nat} {S : AS} (hT : TI T S) {a0 : Option Nat} {a1 : Int32} (h0 : Tx T 100 a0) (hM : MI S) (hph : Ph S ≤ 1100) : Ho (f_M_signOut S a0 a1) (fun q => Rl T kw_M48 S 1 0 T q.2 ∧ MI q.2) := by
  obtain ⟨q, h1, h2, -⟩ := t_M_signOut hT h0 (Int.le_trans hph (by decide))
  exact ⟨q, h1, Rlweak h2 (fun _ z => z) (by decide) (Nat.le_refl _), MI_fr hM h2 h0 (by decide +kernel)⟩
theorem mm_helper {T : Nat → Nat} {S : AS} (hT : TI T S) {a0 : Option Nat} {a1 : Int32} (h0 : Tx T 100 a0) (hM : MI S) (hph : Ph S ≤ 1100) : Ho (f_M_helper S a0 a1) (fun q => Rl T kw_M49 S 1 0 T q.2 ∧ MI q.2) := by
  obtain ⟨q, h1, h2, -⟩ := t_M_helper hT h0 
  exact ⟨q, h1, Rlweak h2 (fun _ z => z) (by decide) (Nat.le_refl _), MI_fr hM h2 h0 (by decide +kernel)⟩
theorem mm_act {T : Nat → Nat} {S : AS} (hT : TI T S) {a0 : Option Nat} {a1 : Int32} {a2 : Int32} (h0 : Tx T 100 a0) (hM : MI S) (hph : Ph S ≤ 1100) : Ho (f_M_act S a0 a1 a2) (fun q => Rl T kw_M50 S 1 0 T q.2 ∧ MI q.2) := by
  obtain ⟨q, h1, h2, -⟩ := t_M_act hT h0 (Int.le_trans hph (by decide))
  exact ⟨q, h1, Rlweak h2 (fun _ z => z) (by decide) (Nat.le_refl _), MI_fr hM h2 h0 (by decide +kernel)⟩
theorem mm_consent {T : Nat → Nat} {S : AS} (hT : TI T S) {a0 : Option Nat} {a1 : Int32} {a2 : Int32} {a3 : Int32} (h0 : Tx T 100 a0) (hM : MI S) (hph : Ph S ≤ 1100) : Ho (f_M_consent S a0 a1 a2 a3) (fun q => Rl T kw_M51 S 1 0 T q.2 ∧ MI q.2) := by
  obtain ⟨q, h1, h2, -⟩ := t_M_consent hT h0 
  exact ⟨q, h1, Rlweak h2 (fun _ z => z) (by decide) (Nat.le_refl _), MI_fr hM h2 h0 (by decide +kernel)⟩
theorem mm_withdraw {T : Nat → Nat} {S : AS} (hT : TI T S) {a0 : Option Nat} {a1 : Int32} {a2 : Int32} (h0 : Tx T 100 a0) (hM : MI S) (hph : Ph S ≤ 1100) : Ho (f_M_withdraw S a0 a1 a2) (fun q => Rl T kw_M52 S 1 0 T q.2 ∧ MI q.2) := by
  obtain ⟨q, h1, h2, -⟩ := t_M_withdraw hT h0 (Int.le_trans hph (by decide))
  exact ⟨q, h1, Rlweak h2 (fun _ z => z) (by decide) (Nat.le_refl _), MI_fr hM h2 h0 (by decide +kernel)⟩
theorem mm_need {T : Nat → Nat} {S : AS} (hT : TI T S) {a0 : Option Nat} {a1 : Int32} {a2 : Int32} (h0 : Tx T 100 a0) (hM : MI S) (hph : Ph S ≤ 1100) : Ho (f_M_need S a0 a1 a2) (fun q => Rl T kw_M53 S 1 0 T q.2 ∧ MI q.2) := by
  obtain ⟨q, h1, h2, -⟩ := t_M_need hT h0 
  exact ⟨q, h1, Rlweak h2 (fun _ z => z) (by decide) (Nat.le_refl _), MI_fr hM h2 h0 (by decide +kernel)⟩
theorem mm_authorize {T : Nat → Nat} {S : AS} (hT : TI T S) {a0 : Option Nat} {a1 : Int32} {a2 : Int32} {a3 : Int32} {a4 : Int32} (h0 : Tx T 100 a0) (hM : MI S) (hph : Ph S ≤ 1100) : Ho (f_M_authorize S a0 a1 a2 a3 a4) (fun q => Rl T kw_M60 S 1 0 T q.2 ∧ MI q.2) := by
  obtain ⟨q, h1, h2, -⟩ := t_M_authorize hT h0 hM.2.2.2
  exact ⟨q, h1, Rlweak h2 (fun _ z => z) (by decide) (Nat.le_refl _), MI_fr hM h2 h0 (by decide +kernel)⟩
theorem mm_redeem {T : Nat → Nat} {S : AS} (hT : TI T S) {a0 : Option Nat} {a1 : Int32} (h0 : Tx T 100 a0) (hM : MI S) (hph : Ph S ≤ 1100) : Ho (f_M_redeem S a0 a1) (fun q => Rl T kw_M77 S 1 0 T q.2 ∧ MI q.2) := by
  obtain ⟨q, h1, h2, -⟩ := t_M_redeem hT h0 hM.2.2.2 (Int.le_trans hph (by decide))
  exact ⟨q, h1, Rlweak h2 (fun _ z => z) (by decide) (Nat.le_refl _), MI_fr hM h2 h0 (by decide +kernel)⟩
theorem mm_refresh {T : Nat → Nat} {S : AS} (hT : TI T S) {a0 : Option Nat} {a1 : Int32} {a2 : Int32} (h0 : Tx T 100 a0) (hM : MI S) (hph : Ph S ≤ 1100) : Ho (f_M_refresh S a0 a1 a2) (fun q => Rl T kw_M82 S 1 0 T q.2 ∧ MI q.2) := by
  obtain ⟨q, h1, h2, -⟩ := t_M_refresh hT h0 (Int.le_trans hph (by decide))
  exact ⟨q, h1, Rlweak h2 (fun _ z => z) (by decide) (Nat.le_refl _), MI_fr hM h2 h0 (by decide +kernel)⟩
theorem mm_isGood {T : Nat → Nat} {S : AS} (hT : TI T S) {a0 : Option Nat} {a1 : Int32} (h0 : Tx T 100 a0) (hM : MI S) (hph : Ph S ≤ 1100) : Ho (f_M_isGood S a0 a1) (fun q => Rl T kw_M4 S 1 0 T q.2 ∧ MI q.2) := by
  obtain ⟨q, h1, h2, -⟩ := t_M_isGood hT h0 
  exact ⟨q, h1, Rlweak h2 (fun _ z => z) (by decide) (Nat.le_refl _), MI_fr hM h2 h0 (by decide +kernel)⟩
theorem mm_tokenOf {T : Nat → Nat} {S : AS} (hT : TI T S) {a0 : Option Nat} {a1 : Int32} (h0 : Tx T 100 a0) (hM : MI S) (hph : Ph S ≤ 1100) : Ho (f_M_tokenOf S a0 a1) (fun q => Rl T kw_M4 S 1 0 T q.2 ∧ MI q.2) := by
  obtain ⟨q, h1, h2, -⟩ := t_M_tokenOf hT h0 
  exact ⟨q, h1, Rlweak h2 (fun _ z => z) (by decide) (Nat.le_refl _), MI_fr hM h2 h0 (by decide +kernel)⟩
theorem mm_exchange {T : Nat → Nat} {S : AS} (hT : TI T S) {a0 : Option Nat} {a1 : Int32} {a2 : Int32} {a3 : Int32} (h0 : Tx T 100 a0) (hM : MI S) (hph : Ph S ≤ 1100) : Ho (f_M_exchange S a0 a1 a2 a3) (fun q => Rl T kw_M83 S 1 0 T q.2 ∧ MI q.2) := by
  obtain ⟨q, h1, h2, -⟩ := t_M_exchange hT h0 
  exact ⟨q, h1, Rlweak h2 (fun _ z => z) (by decide) (Nat.le_refl _), MI_fr hM h2 h0 (by decide +kernel)⟩
theorem mm_token {T : Nat → Nat} {S : AS} (hT : TI T S) {a0 : Option Nat} {a1 : Int32} (h0 : Tx T 100 a0) (hM : MI S) (hph : Ph S ≤ 1100) : Ho (f_M_token S a0 a1) (fun q => Rl T kw_M4 S 1 0 T q.2 ∧ MI q.2) := by
  obtain ⟨q, h1, h2, -⟩ := t_M_token hT h0 
  exact ⟨q, h1, Rlweak h2 (fun _ z => z) (by decide) (Nat.le_refl _), MI_fr hM h2 h0 (by decide +kernel)⟩
theorem mm_turn {T : Nat → Nat} {S : AS} (hT : TI T S) {a0 : Option Nat}  (h0 : Tx T 100 a0) (hM : MI S) (hph : Ph S ≤ 1100) : Ho (f_M_turn S a0) (fun q => Rl T kw_M86 S 1 0 T q.2 ∧ MI q.2) := by
  obtain ⟨q, h1, h2, -⟩ := t_M_turn hT h0 
  exact ⟨q, h1, Rlweak h2 (fun _ z => z) (by decide) (Nat.le_refl _), MI_fr hM h2 h0 (by decide +kernel)⟩
theorem mm_emergency {T : Nat → Nat} {S : AS} (hT : TI T S) {a0 : Option Nat}  (h0 : Tx T 100 a0) (hM : MI S) (hph : Ph S ≤ 1100) : Ho (f_M_emergency S a0) (fun q => Rl T kw_M91 S 1 0 T q.2 ∧ MI q.2) := by
  obtain ⟨q, h1, h2, -⟩ := t_M_emergency hT h0 (Int.le_trans hph (by decide))
  exact ⟨q, h1, Rlweak h2 (fun _ z => z) (by decide) (Nat.le_refl _), MI_fr hM h2 h0 (by decide +kernel)⟩
theorem mm_signing {T : Nat → Nat} {S : AS} (hT : TI T S) {a0 : Option Nat}  (h0 : Tx T 100 a0) (hM : MI S) (hph : Ph S ≤ 1100) : Ho (f_M_signing S a0) (fun q => Rl T kw_M4 S 1 0 T q.2 ∧ MI q.2) := by
  obtain ⟨q, h1, h2, -⟩ := t_M_signing hT h0 
  exact ⟨q, h1, Rlweak h2 (fun _ z => z) (by decide) (Nat.le_refl _), MI_fr hM h2 h0 (by decide +kernel)⟩
theorem mm_isPublished {T : Nat → Nat} {S : AS} (hT : TI T S) {a0 : Option Nat} {a1 : Int32} (h0 : Tx T 100 a0) (hM : MI S) (hph : Ph S ≤ 1100) : Ho (f_M_isPublished S a0 a1) (fun q => Rl T kw_M4 S 1 0 T q.2 ∧ MI q.2) := by
  obtain ⟨q, h1, h2, -⟩ := t_M_isPublished hT h0 
  exact ⟨q, h1, Rlweak h2 (fun _ z => z) (by decide) (Nat.le_refl _), MI_fr hM h2 h0 (by decide +kernel)⟩
theorem mm_line {T : Nat → Nat} {S : AS} (hT : TI T S) {a0 : Option Nat} {a1 : Int32} (h0 : Tx T 100 a0) (hM : MI S) (hph : Ph S ≤ 1100) : Ho (f_M_line S a0 a1) (fun q => Rl T kw_M93 S 1 0 T q.2 ∧ MI q.2) := by
  obtain ⟨q, h1, h2, -⟩ := t_M_line hT h0 
  exact ⟨q, h1, Rlweak h2 (fun _ z => z) (by decide) (Nat.le_refl _), MI_fr hM h2 h0 (by decide +kernel)⟩
theorem mm_check {T : Nat → Nat} {S : AS} (hT : TI T S) {a0 : Option Nat} {a1 : Int32} {a2 : Int32} {a3 : Int32} (h0 : Tx T 100 a0) (hM : MI S) (hph : Ph S ≤ 1100) : Ho (f_M_check S a0 a1 a2 a3) (fun q => Rl T kw_M95 S 1 0 T q.2 ∧ MI q.2) := by
  obtain ⟨q, h1, h2, -⟩ := t_M_check hT h0 
  exact ⟨q, h1, Rlweak h2 (fun _ z => z) (by decide) (Nat.le_refl _), MI_fr hM h2 h0 (by decide +kernel)⟩
theorem mm_lag {T : Nat → Nat} {S : AS} (hT : TI T S) {a0 : Option Nat} {a1 : Int32} (h0 : Tx T 100 a0) (hM : MI S) (hph : Ph S ≤ 1100) : Ho (f_M_lag S a0 a1) (fun q => Rl T kw_M4 S 1 0 T q.2 ∧ MI q.2) := by
  obtain ⟨q, h1, h2, -⟩ := t_M_lag hT h0 
  exact ⟨q, h1, Rlweak h2 (fun _ z => z) (by decide) (Nat.le_refl _), MI_fr hM h2 h0 (by decide +kernel)⟩
theorem mm_recover {T : Nat → Nat} {S : AS} (hT : TI T S) {a0 : Option Nat} {a1 : Int32} (h0 : Tx T 100 a0) (hM : MI S) (hph : Ph S ≤ 1100) : Ho (f_M_recover S a0 a1) (fun q => Rl T kw_M99 S 1 0 T q.2 ∧ MI q.2) := by
  obtain ⟨q, h1, h2, -⟩ := t_M_recover hT h0 
  exact ⟨q, h1, Rlweak h2 (fun _ z => z) (by decide) (Nat.le_refl _), MI_fr hM h2 h0 (by decide +kernel)⟩
theorem mm_vouch {T : Nat → Nat} {S : AS} (hT : TI T S) {a0 : Option Nat} {a1 : Int32} {a2 : Int32} (h0 : Tx T 100 a0) (hM : MI S) (hph : Ph S ≤ 1100) : Ho (f_M_vouch S a0 a1 a2) (fun q => Rl T kw_M101 S 1 0 T q.2 ∧ MI q.2) := by
  obtain ⟨q, h1, h2, -⟩ := t_M_vouch hT h0 
  exact ⟨q, h1, Rlweak h2 (fun _ z => z) (by decide) (Nat.le_refl _), MI_fr hM h2 h0 (by decide +kernel)⟩
theorem mm_stop {T : Nat → Nat} {S : AS} (hT : TI T S) {a0 : Option Nat} {a1 : Int32} {a2 : Int32} (h0 : Tx T 100 a0) (hM : MI S) (hph : Ph S ≤ 1100) : Ho (f_M_stop S a0 a1 a2) (fun q => Rl T kw_M102 S 1 0 T q.2 ∧ MI q.2) := by
  obtain ⟨q, h1, h2, -⟩ := t_M_stop hT h0 
  exact ⟨q, h1, Rlweak h2 (fun _ z => z) (by decide) (Nat.le_refl _), MI_fr hM h2 h0 (by decide +kernel)⟩
theorem mm_finish {T : Nat → Nat} {S : AS} (hT : TI T S) {a0 : Option Nat} {a1 : Int32} (h0 : Tx T 100 a0) (hM : MI S) (hph : Ph S ≤ 1100) : Ho (f_M_finish S a0 a1) (fun q => Rl T kw_M105 S 1 0 T q.2 ∧ MI q.2) := by
  obtain ⟨q, h1, h2, -⟩ := t_M_finish hT h0 (Int.le_trans hph (by decide))
  exact ⟨q, h1, Rlweak h2 (fun _ z => z) (by decide) (Nat.le_refl _), MI_fr hM h2 h0 (by decide +kernel)⟩
theorem mm_link {T : Nat → Nat} {S : AS} (hT : TI T S) {a0 : Option Nat} {a1 : Int32} {a2 : Int32} (h0 : Tx T 100 a0) (hM : MI S) (hph : Ph S ≤ 1100) : Ho (f_M_link S a0 a1 a2) (fun q => Rl T kw_M106 S 1 0 T q.2 ∧ MI q.2) := by
  obtain ⟨q, h1, h2, -⟩ := t_M_link hT h0 
  exact ⟨q, h1, Rlweak h2 (fun _ z => z) (by decide) (Nat.le_refl _), MI_fr hM h2 h0 (by decide +kernel)⟩
theorem mm_foreign {T : Nat → Nat} {S : AS} (hT : TI T S) {a0 : Option Nat} {a1 : Int32} (h0 : Tx T 100 a0) (hM : MI S) (hph : Ph S ≤ 1100) : Ho (f_M_foreign S a0 a1) (fun q => Rl T kw_M50 S 1 0 T q.2 ∧ MI q.2) := by
  obtain ⟨q, h1, h2, -⟩ := t_M_foreign hT h0 (Int.le_trans hph (by decide))
  exact ⟨q, h1, Rlweak h2 (fun _ z => z) (by decide) (Nat.le_refl _), MI_fr hM h2 h0 (by decide +kernel)⟩
theorem mm_leave {T : Nat → Nat} {S : AS} (hT : TI T S) {a0 : Option Nat} {a1 : Int32} (h0 : Tx T 100 a0) (hM : MI S) (hph : Ph S ≤ 1100) : Ho (f_M_leave S a0 a1) (fun q => Rl T kw_lv S 1 0 T q.2 ∧ MI q.2) := by
  obtain ⟨q, h1, h2, h3⟩ := t_M_leave2 hT h0 hph hM
  exact ⟨q, h1, Rlweak h2 (fun _ z => z) (by decide) (Nat.le_refl _), h3⟩
theorem mm_audits {T : Nat → Nat} {S : AS} (hT : TI T S) {a0 : Option Nat}  (h0 : Tx T 100 a0) (hM : MI S) (hph : Ph S ≤ 1100) : Ho (f_M_audits S a0) (fun q => Rl T kw_M4 S 1 0 T q.2 ∧ MI q.2) := by
  obtain ⟨q, h1, h2, -⟩ := t_M_audits hT h0 
  exact ⟨q, h1, Rlweak h2 (fun _ z => z) (by decide) (Nat.le_refl _), MI_fr hM h2 h0 (by decide +kernel)⟩
theorem mm_audit {T : Nat → Nat} {S : AS} (hT : TI T S) {a0 : Option Nat} {a1 : Int32} (h0 : Tx T 100 a0) (hM : MI S) (hph : Ph S ≤ 1100) : Ho (f_M_audit S a0 a1) (fun q => Rl T kw_M4 S 1 0 T q.2 ∧ MI q.2) := by
  obtain ⟨q, h1, h2, -⟩ := t_M_audit hT h0 
  exact ⟨q, h1, Rlweak h2 (fun _ z => z) (by decide) (Nat.le_refl _), MI_fr hM h2 h0 (by decide +kernel)⟩
theorem mm_sum {T : Nat → Nat} {S : AS} (hT : TI T S) {a0 : Option Nat}  (h0 : Tx T 100 a0) (hM : MI S) (hph : Ph S ≤ 1100) : Ho (f_M_sum S a0) (fun q => Rl T kw_M4 S 1 0 T q.2 ∧ MI q.2) := by
  obtain ⟨q, h1, h2, -⟩ := t_M_sum hT h0 
  exact ⟨q, h1, Rlweak h2 (fun _ z => z) (by decide) (Nat.le_refl _), MI_fr hM h2 h0 (by decide +kernel)⟩
theorem mm_sumAnew {T : Nat → Nat} {S : AS} (hT : TI T S) {a0 : Option Nat} {a1 : Int32} (h0 : Tx T 100 a0) (hM : MI S) (hph : Ph S ≤ 1100) : Ho (f_M_sumAnew S a0 a1) (fun q => Rl T kw_M4 S 1 0 T q.2 ∧ MI q.2) := by
  obtain ⟨q, h1, h2, -⟩ := t_M_sumAnew hT h0 
  exact ⟨q, h1, Rlweak h2 (fun _ z => z) (by decide) (Nat.le_refl _), MI_fr hM h2 h0 (by decide +kernel)⟩
end
section
/-! ===== the two fresh objects ===== -/
def kr_Y1 : Option AS := f_K_init (nO kr_S0 22) (some 4)
theorem kr_ya : kr_Y1.isSome = true := by decide +kernel
def kr_Z1 : AS := kr_Y1.get kr_ya
def kr_Y2 : Option AS := f_M_init (nO kr_Z1 23) (some 57)
theorem kr_yb : kr_Y2.isSome = true := by decide +kernel
def kr_Z2 : AS := kr_Y2.get kr_yb
def kr_Y3 : Option AS := nA kr_Z2 42 (1 : Int32)
theorem kr_yc : kr_Y3.isSome = true := by decide +kernel
def kr_Z : AS := kr_Y3.get kr_yc
theorem kr_n1 : sN kr_Z1 = 57 := by decide +kernel
theorem kr_n2 : sN kr_Z2 = 126 := by decide +kernel
theorem kr_zc : sC kr_Z = 123 ∧ sS kr_Z = 10526 := by decide +kernel
theorem kr_start (X : Nat → Int32) (L : Nat) : f_W_law X L kr_S0 = f_W_law_L23 X L kr_FU kr_Z (some 4) (some 57) (some 126) (0 : Int32) := by
  have e1 : f_K_init (nO kr_S0 22) (some (sN kr_S0)) = some kr_Z1 := (Option.some_get kr_ya).symm
  have e2 : f_M_init (nO kr_Z1 23) (some (sN kr_Z1)) = some kr_Z2 := by rw [kr_n1]; exact (Option.some_get kr_yb).symm
  have e3 : nA kr_Z2 42 (1 : Int32) = some kr_Z := (Option.some_get kr_yc).symm
  unfold f_W_law
  rw [Option.bind_some, e1, Option.bind_some, Option.bind_some, e2, Option.bind_some, e3, Option.bind_some, kr_n1, kr_n2]
  rfl
end
section
/-! ===== what holds at the start ===== -/
theorem gd_lt {α : Type} {l : List (Option α)} {j : Nat} {x : α} (h : l.getD j none = some x) : j < l.length := by
  by_cases c : j < l.length
  · exact c
  · rw [List.getD_eq_getElem?_getD, List.getElem?_eq_none (by omega)] at h
    cases h
theorem kr_T0lt {k : Nat} (h : kr_T0 k ≠ 0) : k < 127 := by
  by_cases c : k < 127
  · exact c
  · refine absurd ?_ h
    unfold kr_T0
    rw [List.getD_eq_getElem?_getD, List.getElem?_eq_none (by show 127 ≤ k; omega)]
    rfl
def z_t1 (k : Nat) : Bool := kr_T0 k == 0 || (decide (k < sN kr_Z) && sK kr_Z k == kd (kr_T0 k) && kd (kr_T0 k) != 0 && (match ln (kr_T0 k) with | none => true | some n => sL kr_Z k == n))
theorem z_t1a : (List.range 127).all z_t1 = true := by decide +kernel
def z_t2 (k : Nat) : Bool := (List.range (kr_ftT.getD (kr_T0 k) []).length).all fun j => match ft (kr_T0 k) j with | none => true | some τ => match sR kr_Z k j with | none => false | some a => kr_T0 a == τ && τ != 0
theorem z_t2a : (List.range 127).all z_t2 = true := by decide +kernel
def z_t3 (k : Nat) : Bool := (List.range (kr_fnT.getD (kr_T0 k) []).length).all fun j => match fn (kr_T0 k) j with | none => true | some τ => match sR kr_Z k j with | none => true | some a => kr_T0 a == τ && τ != 0
theorem z_t3a : (List.range 127).all z_t3 = true := by decide +kernel
def z_in (lo hi : Int) (v : Int32) : Bool := decide (lo ≤ v.toInt) && decide (v.toInt ≤ hi)
def z_t4 (k : Nat) : Bool := (List.range (kr_rfT.getD (kr_T0 k) []).length).all fun j => match rf (kr_T0 k) j with | none => true | some p => z_in p.1 p.2 (sI kr_Z k j)
theorem z_t4a : (List.range 127).all z_t4 = true := by decide +kernel
def z_t5 (k : Nat) : Bool := match ra (kr_T0 k) with | none => true | some p => (List.range p.1).all fun j => z_in p.2.1 p.2.2 (sI kr_Z k j)
theorem z_t5a : (List.range 127).all z_t5 = true := by decide +kernel
def z_t6 (q : Nat) : Bool := kr_T0 (lp q) == 20 + q && sR kr_Z (lp q) 1 == some 0 && sI kr_Z (lp q) 2 == 0
theorem z_t6a : (List.range 7).all z_t6 = true := by decide +kernel
def z_t7 (k : Nat) : Bool := match sg (kr_T0 k) with | none => true | some p => k == p
theorem z_t7a : (List.range 127).all z_t7 = true := by decide +kernel
theorem z_at {n : Nat} {f : Nat → Bool} (h : (List.range n).all f = true) {k : Nat} (hk : k < n) : f k = true := List.all_eq_true.mp h k (List.mem_range.mpr hk)
theorem z_TI : TI kr_T0 kr_Z := by
  refine ⟨?_, ?_, ?_, ?_, ?_, ?_, ?_, by decide +kernel, by decide +kernel⟩
  · intro k hk
    have h := z_at z_t1a (kr_T0lt hk)
    unfold z_t1 at h
    rw [Bool.or_eq_true] at h
    rcases h with h | h
    · exact absurd (beq_iff_eq.mp h) hk
    · simp only [Bool.and_eq_true] at h
      obtain ⟨⟨⟨a, b⟩, c⟩, d⟩ := h
      refine ⟨of_decide_eq_true a, beq_iff_eq.mp b, bne_iff_ne.mp c, fun n hn => ?_⟩
      rw [hn] at d
      exact beq_iff_eq.mp d
  · intro k j τ e
    have hk : kr_T0 k ≠ 0 := fun q => by rw [q, ft0] at e; cases e
    have h := z_at (z_at z_t2a (kr_T0lt hk)) (gd_lt e)
    simp only [e] at h
    cases c : sR kr_Z k j with
    | none => rw [c] at h; cases h
    | some a =>
      rw [c] at h
      simp only [Bool.and_eq_true] at h
      exact ⟨a, rfl, beq_iff_eq.mp h.1, bne_iff_ne.mp h.2⟩
  · intro k j τ e
    have hk : kr_T0 k ≠ 0 := fun q => by rw [q, fn0] at e; cases e
    have h := z_at (z_at z_t3a (kr_T0lt hk)) (gd_lt e)
    simp only [e] at h
    cases c : sR kr_Z k j with
    | none => exact Or.inl rfl
    | some a =>
      rw [c] at h
      simp only [Bool.and_eq_true] at h
      exact Or.inr ⟨a, rfl, beq_iff_eq.mp h.1, bne_iff_ne.mp h.2⟩
  · intro k j lo hi e
    have hk : kr_T0 k ≠ 0 := fun q => by rw [q, rf0] at e; cases e
    have h := z_at (z_at z_t4a (kr_T0lt hk)) (gd_lt e)
    simp only [e] at h
    unfold z_in at h
    simp only [Bool.and_eq_true] at h
    exact ⟨of_decide_eq_true h.1, of_decide_eq_true h.2⟩
  · intro k j n lo hi e hj
    have hk : kr_T0 k ≠ 0 := fun q => by rw [q, ra0] at e; cases e
    have h := z_at z_t5a (kr_T0lt hk)
    unfold z_t5 at h
    rw [e] at h
    have h := z_at h hj
    unfold z_in at h
    simp only [Bool.and_eq_true] at h
    exact ⟨of_decide_eq_true h.1, of_decide_eq_true h.2⟩
  · intro q hq
    have h := z_at z_t6a hq
    unfold z_t6 at h
    simp only [Bool.and_eq_true] at h
    obtain ⟨⟨a, b⟩, c⟩ := h
    have c := beq_iff_eq.mp c
    refine ⟨beq_iff_eq.mp a, 0, beq_iff_eq.mp b, Or.inr rfl, ?_, ?_, fun i hi => ?_⟩
    · rw [c]
      exact Int.natCast_nonneg (sL kr_Z 0)
    · have e : sL kr_Z 0 ≤ 400 := by decide +kernel
      exact e
    · rw [c] at hi
      exact absurd hi (by show ¬ (i : Int) < 0; omega)
  · intro k p e
    have hk : kr_T0 k ≠ 0 := fun q => by rw [q, sg0] at e; cases e
    have h := z_at z_t7a (kr_T0lt hk)
    unfold z_t7 at h
    rw [e] at h
    exact beq_iff_eq.mp h
theorem z_SR : SR kr_Z := by
  unfold SR
  decide +kernel
theorem z_MI : MI kr_Z := by
  refine ⟨z_SR, fun v n h => ?_, fun a h => ?_, by decide +kernel⟩
  · rw [show sI kr_Z 57 9 = 0 by decide +kernel] at h
    exact absurd h (by show ¬ (v : Int) < 0; omega)
  · rw [show sI kr_Z 57 19 = 0 by decide +kernel] at h
    exact absurd h (by show ¬ (a : Int) < 0; omega)
theorem z_IV : IV 0 kr_T0 kr_Z := ⟨z_TI, z_MI, by decide +kernel, by unfold FT; decide +kernel, by rw [kr_zc.1]; omega, by rw [kr_zc.2]; omega⟩
end
section
/-! ===== small ones of the script ===== -/
theorem kw_nat {n : Nat} (h : n ≤ 4000) : (Int32.ofNat n).toInt = (n : Int) := Int32.toInt_ofNat_of_lt (by omega)
theorem kw_sub6 {L : Nat} (h : L ≤ 3072) : (Int32.ofNat L - 6).toInt = (L : Int) - 6 := by
  rw [Int32.toInt_sub, kw_nat (by omega), show (6 : Int32).toInt = 6 from rfl]
  exact Int.bmod_eq_of_le (by omega) (by omega)
theorem kw_sx0 {X : Nat → Int32} {L : Nat} {x : Int32} (h0 : 0 ≤ x.toInt) (h6 : x.toInt < (L : Int)) : ∃ v, kr_sx X L x = some v := ⟨X x.toNatClampNeg, by
  unfold kr_sx
  rw [if_pos ⟨h0, h6⟩]⟩
theorem kw_add {L : Nat} {x : Int32} (hL : L ≤ 3072) (h0 : 0 ≤ x.toInt) (h6 : x.toInt + 6 ≤ (L : Int)) (j : Int32) (hj : In 0 6 j) : (x + j).toInt = x.toInt + j.toInt := by
  have := hj.1
  have := hj.2
  rw [Int32.toInt_add]
  exact Int.bmod_eq_of_le (by omega) (by omega)
theorem sx_ok {X : Nat → Int32} {L : Nat} {x : Int32} (hL : L ≤ 3072) (h0 : 0 ≤ x.toInt) (h6 : x.toInt + 6 ≤ (L : Int)) (j : Int32) (hj : In 0 5 j) : ∃ v, kr_sx X L (x + j) = some v := by
  have e := kw_add hL h0 h6 j ⟨hj.1, by have := hj.2; omega⟩
  have := hj.1
  have := hj.2
  exact kw_sx0 (by omega) (by omega)
end
section
/-! ===== small ones that every part of the reference's relation uses ===== -/
theorem x_g {S : AS} {f j : Nat} {v : Int32} (h : sK S f = 13) (e : sI S f j = v) : gI S 13 j (some f) = some v := by rw [ti_gI h, e]
theorem x_r {S : AS} {f j q : Nat} (h : sK S f = 13) (e : sR S f j = some q) : gR S 13 j (some f) = some (some q) := by rw [ti_gR h, e]
theorem x_b {S : AS} {k n : Nat} {v : Int32} (h : sK S k = 40) (hl : n < sL S k) (hn : n ≤ 300) : bI S (some k) (Int32.ofNat n) v = some (wI S k n v) := by
  obtain ⟨e1, e2⟩ := gl2 n (by omega)
  unfold bI
  rw [Option.bind_some, if_pos ⟨h, by rw [e1]; omega, by rw [e1]; omega⟩, e2]
theorem ho_and {β : Type} {x : Option β} {P Q : β → Prop} (h1 : Ho x P) (h2 : Ho x Q) : Ho x (fun b => P b ∧ Q b) := by
  obtain ⟨b, e, hp⟩ := h1
  obtain ⟨b', e', hq⟩ := h2
  rw [e] at e'
  cases e'
  exact ⟨b, e, hp, hq⟩
theorem ho_eq {β : Type} {x : Option β} {b : β} {P : β → Prop} (e : x = some b) (h : Ho x P) : P b := by
  obtain ⟨b', e', h⟩ := h
  rw [e] at e'
  cases e'
  exact h
theorem bx_l {α β : Type} (v : α) (S : AS) (F : α → AS → Option ((β ⊕ String) × AS)) : kr_bx (some (.inl v, S)) F = F v S := rfl
theorem bx_r {α β : Type} (e : String) (S : AS) (F : α → AS → Option ((β ⊕ String) × AS)) : kr_bx (some (.inr e, S)) F = some (.inr e, S) := rfl
theorem rA1 (S : AS) : f_K_requireArgument S 1 = some (.inl (), S) := rfl
theorem rA0 (S : AS) : f_K_requireArgument S 0 = some (.inr "java/lang/IllegalArgumentException", wX S) := rfl
theorem rS1 (S : AS) : f_K_requireState S 1 = some (.inl (), S) := rfl
theorem rS0 (S : AS) : f_K_requireState S 0 = some (.inr "java/lang/IllegalStateException", wX S) := rfl
theorem x_bJ {T : Nat → Nat} {S : AS} (hT : TI T S) (v : Int64) : bJ S (some 126) (0 : Int32) v = some (wJ S 126 0 v) := by
  have e := hT.t9.2.2.2.2.2
  have k : sK S 126 = 42 := Tx.K hT e (by decide)
  have l := (hT.t1 126 (by rw [e]; decide)).2.2.2 1 (by rw [e]; rfl)
  unfold bJ
  rw [Option.bind_some, if_pos ⟨k, by decide, by rw [l]; decide⟩]
  rfl
theorem x_aJ {T : Nat → Nat} {S : AS} (hT : TI T S) : aJ S (some 126) (0 : Int32) = some (sJ S 126 0) := by
  have e := hT.t9.2.2.2.2.2
  have k : sK S 126 = 42 := Tx.K hT e (by decide)
  have l := (hT.t1 126 (by rw [e]; decide)).2.2.2 1 (by rw [e]; rfl)
  unfold aJ
  rw [Option.bind_some, if_pos ⟨k, by decide, by rw [l]; decide⟩]
  rfl
theorem bJ_K {S : AS} (k : sK S 126 = 42) (l : sL S 126 = 1) (v : Int64) : bJ S (some 126) (0 : Int32) v = some (wJ S 126 0 v) := by
  unfold bJ
  rw [Option.bind_some, if_pos ⟨k, by decide, by rw [l]; decide⟩]
  rfl
theorem bh_l {α β : Type} (v : α) (S : AS) (G : String → AS → Option β) (F : α → AS → Option β) : kr_bh (some (.inl v, S)) G F = F v S := rfl
theorem bh_r {α β : Type} (e : String) (S : AS) (G : String → AS → Option β) (F : α → AS → Option β) : kr_bh (some (.inr e, S)) G F = G e S := rfl
theorem lg_rf (x : Int64) : lg_cmp x x = 0 := by
  unfold lg_cmp
  rw [if_neg (Int64.lt_irrefl), if_pos rfl]
theorem x_thrown {T : Nat → Nat} {S : AS} (hT : TI T S) : f_M_thrown S (some 57) = some (sI S 57 82, S) := by
  unfold f_M_thrown
  rw [ti_gI (κ := 23) ((Tx.K hT hT.t9.1 (by decide)).trans rfl), Option.bind_some]
theorem sI_wJ (S : AS) (p j : Nat) (v : Int64) : sI (wJ S p j v) = sI S := rfl
theorem sR_wJ (S : AS) (p j : Nat) (v : Int64) : sR (wJ S p j v) = sR S := rfl
theorem sR_wI (S : AS) (p j : Nat) (v : Int32) : sR (wI S p j v) = sR S := rfl
theorem sJ_wJ (S : AS) (v : Int64) : sJ (wJ S 126 0 v) 126 0 = v := by
  show (if (126 : Nat) = 126 ∧ (0 : Nat) = 0 then v else sJ S 126 0) = v
  rw [if_pos ⟨rfl, rfl⟩]
theorem sx_v {X : Nat → Int32} {L : Nat} {i v v' : Int32} (h : kr_sx X L i = some v) (h' : kr_sx X L i = some v') : v' = v := by
  rw [h] at h'
  cases h'
  rfl
theorem sI_wX (S : AS) : sI (wX S) = sI S := rfl
theorem sR_wX (S : AS) : sR (wX S) = sR S := rfl
theorem ho_eqn {β : Type} {x : Option β} {P : β → Prop} (h : Ho x P) : Ho x (fun b => x = some b ∧ P b) := by
  obtain ⟨b, e, p⟩ := h
  exact ⟨b, e, e, p⟩
theorem k_six {T : Nat → Nat} {S : AS} (hT : TI T S) : sK S 4 = 22 ∧ sK S 57 = 23 ∧ sK S 126 = 42 ∧ sL S 126 = 1 := by
  have e := hT.t9.2.2.2.2.2
  exact ⟨Tx.K hT hT.t9.2.2.2.2.1 (by decide), (Tx.K hT hT.t9.1 (by decide)).trans rfl, Tx.K hT e (by decide), (hT.t1 126 (by rw [e]; decide)).2.2.2 1 (by rw [e]; rfl)⟩
theorem pk_inj {α : Type} {a b : α} {S S' : AS} (h : some (a, S) = some (b, S')) : b = a ∧ S' = S := by
  obtain ⟨h1, h2⟩ := Prod.mk.inj (Option.some.inj h)
  exact ⟨h1.symm, h2.symm⟩
end
section
/-! ===== p9: the points of the class and those of the reference ===== -/
theorem kd_ty {T : Nat → Nat} {S : AS} (hT : TI T S) {j τ p : Nat} (a : ft 1 j = some τ) (b : sg τ = some p) : sR S 4 j = some p ∧ T p = τ ∧ τ ≠ 0 := by
  obtain ⟨k, e, h1, h2⟩ := hT.t2 4 j τ (by rw [hT.t9.2.2.2.2.1]; exact a)
  have := hT.t7 k p (by rw [h1]; exact b)
  subst this
  exact ⟨e, h1, h2⟩
theorem md_at {T : Nat → Nat} {S : AS} (hT : TI T S) {j τ p : Nat} (a : ft 100 j = some τ) (b : sg τ = some p) : sR S 57 j = some p ∧ T p = τ ∧ τ ≠ 0 := by
  obtain ⟨k, e, h1, h2⟩ := hT.t2 57 j τ (by rw [hT.t9.1]; exact a)
  have := hT.t7 k p (by rw [h1]; exact b)
  subst this
  exact ⟨e, h1, h2⟩
def RP9 (S : AS) : Prop := ∀ i, i < 3 → sI S 9 i = sI S 73 i ∧ sI S 10 i = sI S 74 i
def kr_rc9 : List Nat := [600, 700, 11700, 11800]
theorem rc_no9 {w : List Nat} (h : kr_rc9.all (fun z => !w.contains z) = true) {z : Nat} (hz : z ∈ kr_rc9) : ¬ z ∈ w := fun q => by
  have := List.all_eq_true.mp h z hz
  rw [List.contains_iff_mem.mpr q] at this
  cases this
theorem RP9_fr {T T' : Nat → Nat} {w : List Nat} {S S' : AS} {c s : Nat} (h : RP9 S) (hR : Rl T w S c s T' S') (hw : kr_rc9.all (fun z => !w.contains z) = true) : RP9 S' := by
  have hT : TI T S := hR.2.2.2.2.2.2.2.2
  have no := fun {z} => rc_no9 hw (z := z)
  have e1 := (kd_ty hT (j := 3) (p := 9) rfl rfl).2.1
  have e2 := (kd_ty hT (j := 4) (p := 10) rfl rfl).2.1
  have e3 := (md_at hT (j := 17) (p := 73) rfl rfl).2.1
  have e4 := (md_at hT (j := 18) (p := 74) rfl rfl).2.1
  intro i hi
  obtain ⟨a, b⟩ := h i hi
  refine ⟨?_, ?_⟩
  · rw [hR.fI 9 i (by rw [e1]; decide) (by rw [e1]; exact no (by rw [show cl 6 i = 600 from if_neg (by decide)]; decide)), hR.fI 73 i (by rw [e3]; decide) (by rw [e3]; exact no (by rw [show cl 117 i = 11700 from if_neg (by decide)]; decide))]
    exact a
  · rw [hR.fI 10 i (by rw [e2]; decide) (by rw [e2]; exact no (by rw [show cl 7 i = 700 from if_neg (by decide)]; decide)), hR.fI 74 i (by rw [e4]; decide) (by rw [e4]; exact no (by rw [show cl 118 i = 11800 from if_neg (by decide)]; decide))]
    exact b
theorem z_RP9 : RP9 kr_Z := by
  unfold RP9
  decide +kernel
def OKP (a b c : Int32) : Prop := In 0 2 a ∧ In (if c = 0 then 0 else -1) 5 b
def pk (c : Int32) : Nat := if c = 0 then 9 else 10
def pm (c : Int32) : Nat := if c = 0 then 73 else 74
theorem x_aIo {S : AS} {k i : Nat} (h : sK S k = 40) (hl : i < sL S k) (hi : i ≤ 300) : aI S 40 (some k) (Int32.ofNat i) = some (sI S k i) := by
  obtain ⟨e1, e2⟩ := gl2 i (by omega)
  unfold aI
  rw [Option.bind_some, if_pos ⟨h, by rw [e1]; omega, by rw [e1]; omega⟩, e2]
theorem x_K_points {T : Nat → Nat} {S : AS} (hT : TI T S) (a b c : Int32) : Ho (f_K_points S (some 4) a b c) (fun q => (¬ OKP a b c ∧ q = (.inr "java/lang/IllegalArgumentException", wX S)) ∨ (OKP a b c ∧ ∃ i, i < 3 ∧ a = Int32.ofNat i ∧ q = (.inl (sI S (pk c) i), wI S (pk c) i b))) := by
  have K4 : sK S 4 = 22 := Tx.K hT hT.t9.2.2.2.2.1 (by decide)
  obtain ⟨r9, t9, -⟩ := kd_ty hT (j := 3) (p := 9) rfl rfl
  obtain ⟨r10, t10, -⟩ := kd_ty hT (j := 4) (p := 10) rfl rfl
  have k9 : sK S 9 = 40 ∧ sL S 9 = 3 := ⟨Tx.K hT t9 (by decide), (hT.t1 9 (by rw [t9]; decide)).2.2.2 3 (by rw [t9]; rfl)⟩
  have k10 : sK S 10 = 40 ∧ sL S 10 = 3 := ⟨Tx.K hT t10 (by decide), (hT.t1 10 (by rw [t10]; decide)).2.2.2 3 (by rw [t10]; rfl)⟩
  have B41 : ∀ p i, i < 3 → sK S p = 40 → sL S p = 3 → f_K_points_B41 S (Int32.ofNat i) b (some p) = some (.inl (sI S p i), wI S p i b) := fun p i hi h1 h2 => by
    unfold f_K_points_B41
    rw [x_aIo h1 (by omega) (by omega), Option.bind_some, x_b h1 (by omega) (by omega), Option.bind_some]
  unfold f_K_points
  refine r_KwX (fun p1 p2 => ?_) (fun p => ?_)
  · have ha : In 0 2 a := In_iff.mp ⟨p1, p2⟩
    obtain ⟨i, hi, ei⟩ := ofNat_In (n := 2) (v := a) ha
    rw [rA1, bx_l]
    by_cases c0 : c = 0
    · rw [if_pos c0]
      unfold f_K_points_B19
      refine r_KwX (fun q1 q2 => ?_) (fun q => ?_)
      · have hb : In 0 5 b := In_iff.mp ⟨q1, q2⟩
        rw [rA1, bx_l, if_pos c0, ti_gR K4, Option.bind_some, r9, ei, B41 9 i hi k9.1 k9.2]
        refine r_some (Or.inr ⟨⟨by rw [← ei]; exact ha, by rw [if_pos c0]; exact hb⟩, i, hi, rfl, ?_⟩)
        unfold pk
        rw [if_pos c0]
      · rw [rA0, bx_r]
        exact r_some (Or.inl ⟨fun h => q (In_iff.mpr (by have := h.2; rw [if_pos c0] at this; exact this)), rfl⟩)
    · rw [if_neg c0]
      unfold f_K_points_B19
      refine r_KwX (fun q1 q2 => ?_) (fun q => ?_)
      · have hb : In (-1) 5 b := In_iff.mp ⟨q1, q2⟩
        rw [rA1, bx_l, if_neg c0, ti_gR K4, Option.bind_some, r10, ei, B41 10 i hi k10.1 k10.2]
        refine r_some (Or.inr ⟨⟨by rw [← ei]; exact ha, by rw [if_neg c0]; exact hb⟩, i, hi, rfl, ?_⟩)
        unfold pk
        rw [if_neg c0]
      · rw [rA0, bx_r]
        exact r_some (Or.inl ⟨fun h => q (In_iff.mpr (by have := h.2; rw [if_neg c0] at this; exact this)), rfl⟩)
  · rw [rA0, bx_r]
    exact r_some (Or.inl ⟨fun h => p (In_iff.mpr h.1), rfl⟩)
theorem x_M_points {T : Nat → Nat} {S : AS} (hT : TI T S) (a b c : Int32) : Ho (f_M_points S (some 57) a b c) (fun q => (¬ OKP a b c ∧ q = (0, wI S 57 82 1)) ∨ (OKP a b c ∧ ∃ i, i < 3 ∧ a = Int32.ofNat i ∧ q = (sI S (pm c) i, wI (wI S 57 82 0) (pm c) i b))) := by
  have hx : Tx T 100 (some 57) := ⟨57, rfl, hT.t9.1, by decide⟩
  have K57 : sK S 57 = 23 := (Tx.K hT hT.t9.1 (by decide)).trans rfl
  obtain ⟨r73, t73, -⟩ := md_at hT (j := 17) (p := 73) rfl rfl
  obtain ⟨r74, t74, -⟩ := md_at hT (j := 18) (p := 74) rfl rfl
  have k73 : sK S 73 = 40 ∧ sL S 73 = 3 := ⟨(Tx.K hT t73 (by decide)).trans rfl, (hT.t1 73 (by rw [t73]; decide)).2.2.2 3 (by rw [t73]; rfl)⟩
  have k74 : sK S 74 = 40 ∧ sL S 74 = 3 := ⟨(Tx.K hT t74 (by decide)).trans rfl, (hT.t1 74 (by rw [t74]; decide)).2.2.2 3 (by rw [t74]; rfl)⟩
  have no : ¬ OKP a b c → Ho (f_M_points_B32 S (some 57) a b c (some 57) 0) (fun q => (¬ OKP a b c ∧ q = (0, wI S 57 82 1)) ∨ (OKP a b c ∧ ∃ i, i < 3 ∧ a = Int32.ofNat i ∧ q = (sI S (pm c) i, wI (wI S 57 82 0) (pm c) i b))) := fun h => by
    unfold f_M_points_B32
    rw [ti_rv K57, Option.bind_some, x_may hT hx (by decide), b2_s, if_pos rfl, if_pos rfl]
    exact r_some (Or.inl ⟨h, rfl⟩)
  have yes : OKP a b c → Ho (f_M_points_B32 S (some 57) a b c (some 57) 1) (fun q => (¬ OKP a b c ∧ q = (0, wI S 57 82 1)) ∨ (OKP a b c ∧ ∃ i, i < 3 ∧ a = Int32.ofNat i ∧ q = (sI S (pm c) i, wI (wI S 57 82 0) (pm c) i b))) := fun h => by
    obtain ⟨i, hi, ei⟩ := ofNat_In (n := 2) (v := a) h.1
    unfold f_M_points_B32
    rw [ti_rv K57, Option.bind_some, x_may hT hx (by decide), b2_s, if_neg (by decide : ¬ (1 : Int32) = 0), if_neg (by decide : ¬ (1 : Int32) = 0)]
    have K' : sK (wI S 57 82 0) 57 = 23 := K57
    by_cases c0 : c = 0
    · have r' : sR (wI S 57 82 0) 57 17 = some 73 := r73
      have e := x_aIo (S := wI S 57 82 0) (k := 73) (i := i) k73.1 (by show i < sL S 73; omega) (by omega)
      rw [if_pos c0, ti_gR K', Option.bind_some, r', ei, e, Option.bind_some]
      unfold f_M_points_B59
      rw [if_pos c0, ti_gR K', Option.bind_some, r', x_b (S := wI S 57 82 0) k73.1 (by show i < sL S 73; omega) (by omega), Option.bind_some]
      refine r_some (Or.inr ⟨by rw [← ei]; exact h, i, hi, rfl, ?_⟩)
      unfold pm
      rw [if_pos c0, ti_sI_ne (by omega)]
    · have r' : sR (wI S 57 82 0) 57 18 = some 74 := r74
      have e := x_aIo (S := wI S 57 82 0) (k := 74) (i := i) k74.1 (by show i < sL S 74; omega) (by omega)
      rw [if_neg c0, ti_gR K', Option.bind_some, r', ei, e, Option.bind_some]
      unfold f_M_points_B59
      rw [if_neg c0, ti_gR K', Option.bind_some, r', x_b (S := wI S 57 82 0) k74.1 (by show i < sL S 74; omega) (by omega), Option.bind_some]
      refine r_some (Or.inr ⟨by rw [← ei]; exact h, i, hi, rfl, ?_⟩)
      unfold pm
      rw [if_neg c0, ti_sI_ne (by omega)]
  unfold f_M_points f_M_points_B31
  refine r_MiX (fun p1 p2 => ?_) (fun p => ?_)
  · have ha : In 0 2 a := In_iff.mp ⟨p1, p2⟩
    rw [if_neg (by decide : ¬ (1 : Int32) = 0)]
    by_cases c0 : c = 0
    · rw [if_pos c0]
      unfold f_M_points_B20 f_M_points_B31
      refine r_MiX (fun q1 q2 => ?_) (fun q => ?_)
      · rw [if_neg (by decide : ¬ (1 : Int32) = 0)]
        exact yes ⟨ha, by rw [if_pos c0]; exact In_iff.mp ⟨q1, q2⟩⟩
      · rw [if_pos rfl]
        exact no (fun h => q (In_iff.mpr (by have := h.2; rw [if_pos c0] at this; exact this)))
    · rw [if_neg c0]
      unfold f_M_points_B20 f_M_points_B31
      refine r_MiX (fun q1 q2 => ?_) (fun q => ?_)
      · rw [if_neg (by decide : ¬ (1 : Int32) = 0)]
        exact yes ⟨ha, by rw [if_neg c0]; exact In_iff.mp ⟨q1, q2⟩⟩
      · rw [if_pos rfl]
        exact no (fun h => q (In_iff.mpr (by have := h.2; rw [if_neg c0] at this; exact this)))
  · rw [if_pos rfl]
    exact no (fun h => p (In_iff.mpr h.1))
end
section
/-! ===== the six persons, the twelve services: found or refused (after 31.rel9's kd_ty, md_at, x_aIo) ===== -/
def PS (S : AS) : Prop := ∀ i, i < 6 → sR S 8 i = some (29 + 4 * i)
theorem x_aN {S : AS} {k : Nat} (h : 40 ≤ sK S k) : aN S (some k) = some (Int32.ofNat (sL S k)) := by
  unfold aN
  rw [Option.bind_some, if_pos (Or.inl h)]
theorem x_aR {S : AS} {κ k i : Nat} {v : Option Nat} (h : sK S k = κ) (hl : i < sL S k) (hi : i ≤ 300) (e : sR S k i = v) : aR S κ (some k) (Int32.ofNat i) = some v := by
  obtain ⟨e1, e2⟩ := gl2 i (by omega)
  unfold aR
  rw [Option.bind_some, if_pos ⟨h, by rw [e1]; omega, by rw [e1]; omega⟩, e2, e]
theorem x_person {T : Nat → Nat} {S : AS} (hT : TI T S) (hp : PS S) (a : Int32) : (¬ In 0 5 a ∧ f_K_findPerson S (some 4) a = some (.inr "java/lang/IndexOutOfBoundsException", wX S)) ∨ (∃ i, i < 6 ∧ a = Int32.ofNat i ∧ f_K_findPerson S (some 4) a = some (.inl (some (29 + 4 * i)), S)) := by
  have K4 : sK S 4 = 22 := Tx.K hT hT.t9.2.2.2.2.1 (by decide)
  obtain ⟨r8, t8, -⟩ := kd_ty hT (j := 2) (p := 8) rfl rfl
  have k8 : sK S 8 = 44 ∧ sL S 8 = 6 := ⟨Tx.K hT t8 (by decide), (hT.t1 8 (by rw [t8]; decide)).2.2.2 6 (by rw [t8]; rfl)⟩
  have bad : f_K_findPerson_B22 S = some (.inr "java/lang/IndexOutOfBoundsException", wX S) := rfl
  by_cases h : In 0 5 a
  · obtain ⟨i, hi, ei⟩ := ofNat_In (n := 5) (v := a) h
    have e1 := (gl2 i (by omega)).1
    refine Or.inr ⟨i, hi, ei, ?_⟩
    unfold f_K_findPerson
    rw [ei, if_neg (fun q => by have := lt0.mp q; rw [e1] at this; omega), ti_gR K4, Option.bind_some, r8, x_aN (by rw [k8.1]; decide), Option.bind_some, k8.2, if_neg (fun q => by
      have := Int32.le_iff_toInt_le.mp q
      rw [e1, (gl2 6 (by decide)).1] at this
      omega), Option.bind_some, x_aR k8.1 (by omega) (by omega) (hp i hi), Option.bind_some]
    rfl
  · refine Or.inl ⟨h, ?_⟩
    unfold f_K_findPerson
    by_cases c : a < 0
    · rw [if_pos c]
      exact bad
    · have c' : ¬ a.toInt < 0 := fun q => c (lt0.mpr q)
      rw [if_neg c, ti_gR K4, Option.bind_some, r8, x_aN (by rw [k8.1]; decide), Option.bind_some, k8.2, if_pos (Int32.le_iff_toInt_le.mpr (by
        rw [(gl2 6 (by decide)).1]
        have : ¬ (0 ≤ a.toInt ∧ a.toInt ≤ 5) := h
        omega))]
      exact bad
def RP23 (T : Nat → Nat) (S : AS) : Prop := PS S ∧ ∀ i, i < 6 → T (29 + 4 * i) = 13 ∧ sI S (29 + 4 * i) 10 = sI S 65 i
def kr_rc23 : List Nat := [50500, 1310, 10800]
theorem rc_no23 {w : List Nat} (h : kr_rc23.all (fun z => !w.contains z) = true) {z : Nat} (hz : z ∈ kr_rc23) : ¬ z ∈ w := fun q => by
  have := List.all_eq_true.mp h z hz
  rw [List.contains_iff_mem.mpr q] at this
  cases this
theorem PS_fr {T T' : Nat → Nat} {w : List Nat} {S S' : AS} {c s : Nat} (h : PS S) (hR : Rl T w S c s T' S') (hw : ¬ 50500 ∈ w) : PS S' := by
  have hT : TI T S := hR.2.2.2.2.2.2.2.2
  have e := (kd_ty hT (j := 2) (p := 8) rfl rfl).2.1
  intro i hi
  rw [hR.fR 8 i (by rw [e]; decide) (by rw [e, show cr 5 i = 50500 from (congrArg (50000 + ·) (if_neg (by decide)))]; exact hw)]
  exact h i hi
theorem RP23_fr {T T' : Nat → Nat} {w : List Nat} {S S' : AS} {c s : Nat} (h : RP23 T S) (hR : Rl T w S c s T' S') (hw : kr_rc23.all (fun z => !w.contains z) = true) : RP23 T' S' := by
  have hT : TI T S := hR.2.2.2.2.2.2.2.2
  have no := fun {z} => rc_no23 hw (z := z)
  have e := (md_at hT (j := 8) (p := 65) rfl rfl).2.1
  refine ⟨PS_fr h.1 hR (no (by decide)), fun i hi => ?_⟩
  obtain ⟨a, b⟩ := h.2 i hi
  refine ⟨(hR.ty _ (by rw [a]; decide)).trans a, ?_⟩
  rw [hR.fI (29 + 4 * i) 10 (by rw [a]; decide) (by rw [a]; exact no (by decide)), hR.fI 65 i (by rw [e]; decide) (by rw [e]; exact no (by rw [show cl 108 i = 10800 from if_neg (by decide)]; decide))]
  exact b
theorem z_RP23 : RP23 kr_T0 kr_Z := by
  unfold RP23 PS
  decide +kernel
def ng (v : Int32) : Int32 := if v = 0 then 1 else 0
theorem x_K_helper {T : Nat → Nat} {S : AS} (hT : TI T S) (h : RP23 T S) (a : Int32) : (¬ In 0 5 a ∧ f_K_helper S (some 4) a = some (.inr "java/lang/IndexOutOfBoundsException", wX S)) ∨ (∃ i, i < 6 ∧ a = Int32.ofNat i ∧ f_K_helper S (some 4) a = some (.inl (ng (sI S 65 i)), wI S (29 + 4 * i) 10 (ng (sI S 65 i)))) := by
  have K4 : sK S 4 = 22 := Tx.K hT hT.t9.2.2.2.2.1 (by decide)
  unfold f_K_helper
  rw [ti_rv K4, Option.bind_some]
  rcases x_person hT h.1 a with ⟨no, e⟩ | ⟨i, hi, ei, e⟩
  · refine Or.inl ⟨no, ?_⟩
    rw [e, bx_r]
  · refine Or.inr ⟨i, hi, ei, ?_⟩
    obtain ⟨t, b⟩ := h.2 i hi
    have K : sK S (29 + 4 * i) = 16 := (Tx.K hT t (by decide)).trans rfl
    rw [e, bx_l, ti_gI K, Option.bind_some, b]
    unfold ng
    by_cases c : sI S 65 i = 0
    · rw [if_pos c, if_pos c, ti_pZ K (Or.inr rfl), Option.bind_some, ti_gI (S := wI S (29 + 4 * i) 10 1) K, Option.bind_some, ti_sI_eq]
      rfl
    · rw [if_neg c, if_neg c, ti_pZ K (Or.inl rfl), Option.bind_some, ti_gI (S := wI S (29 + 4 * i) 10 0) K, Option.bind_some, ti_sI_eq]
      rfl
theorem x_six {a : Int32} {S : AS} : f_M_isSix S a = some (if In 0 5 a then 1 else 0, S) := by
  unfold f_M_isSix
  obtain ⟨q, hq, e⟩ : Ho (kr_b2 (f_M_isIn S a (0 : Int32) (5 : Int32)) fun v2 S1 => (kr_z v2).bind fun u3 => some (v2, S1)) (fun q => q = (if In 0 5 a then 1 else 0, S)) := by
    refine r_MiX (fun p1 p2 => ?_) (fun p => ?_)
    · rw [if_pos (show In 0 5 a from In_iff.mp ⟨p1, p2⟩)]
      exact ⟨_, rfl, rfl⟩
    · rw [if_neg (show ¬ In 0 5 a from fun q => p (In_iff.mpr q))]
      exact ⟨_, rfl, rfl⟩
  rw [hq, e]
theorem x_bZ {S : AS} {k i : Nat} {v : Int32} (h : sK S k = 41) (hl : i < sL S k) (hi : i ≤ 300) (hv : v = 0 ∨ v = 1) : bZ S (some k) (Int32.ofNat i) v = some (wI S k i v) := by
  obtain ⟨e1, e2⟩ := gl2 i (by omega)
  unfold bZ
  rw [Option.bind_some, if_pos ⟨h, ⟨by rw [e1]; omega, by rw [e1]; omega⟩, hv⟩, e2]
theorem x_aZ {S : AS} {k i : Nat} (h : sK S k = 41) (hl : i < sL S k) (hi : i ≤ 300) : aI S 41 (some k) (Int32.ofNat i) = some (sI S k i) := by
  obtain ⟨e1, e2⟩ := gl2 i (by omega)
  unfold aI
  rw [Option.bind_some, if_pos ⟨h, by rw [e1]; omega, by rw [e1]; omega⟩, e2]
theorem x_M_helper {T : Nat → Nat} {S : AS} (hT : TI T S) (a : Int32) : (¬ In 0 5 a ∧ f_M_helper S (some 57) a = some (0, wI S 57 82 1)) ∨ (∃ i, i < 6 ∧ a = Int32.ofNat i ∧ f_M_helper S (some 57) a = some (ng (sI S 65 i), wI (wI S 57 82 0) 65 i (ng (sI S 65 i)))) := by
  have hx : Tx T 100 (some 57) := ⟨57, rfl, hT.t9.1, by decide⟩
  have K57 : sK S 57 = 23 := (Tx.K hT hT.t9.1 (by decide)).trans rfl
  obtain ⟨r65, t65, -⟩ := md_at hT (j := 8) (p := 65) rfl rfl
  have k65 : sK S 65 = 41 ∧ sL S 65 = 6 := ⟨(Tx.K hT t65 (by decide)).trans rfl, (hT.t1 65 (by rw [t65]; decide)).2.2.2 6 (by rw [t65]; rfl)⟩
  unfold f_M_helper
  by_cases h : In 0 5 a
  · obtain ⟨i, hi, ei⟩ := ofNat_In (n := 5) (v := a) h
    refine Or.inr ⟨i, hi, ei, ?_⟩
    have e6 := x_six (a := a) (S := S)
    rw [if_pos h] at e6
    have K' : sK (wI S 57 82 0) 57 = 23 := K57
    have r' : sR (wI S 57 82 0) 57 8 = some 65 := r65
    have o : sI (wI S 57 82 0) 65 i = sI S 65 i := ti_sI_ne (by omega)
    have e1 := x_aZ (S := wI S 57 82 0) (k := 65) (i := i) k65.1 (by show i < sL S 65; omega) (by omega)
    rw [e6, b2_s, ti_rv K57, Option.bind_some, x_may hT hx (by decide), b2_s, if_neg (by decide : ¬ (1 : Int32) = 0), if_neg (by decide : ¬ (1 : Int32) = 0), ti_gR K', Option.bind_some, r', Option.bind_some, ei, e1, Option.bind_some, o]
    have fin : ∀ v, (v = 0 ∨ v = 1) → f_M_helper_B32 (wI S 57 82 0) (some 57) (Int32.ofNat i) (some 65) (Int32.ofNat i) v = some (v, wI (wI S 57 82 0) 65 i v) := fun v hv => by
      unfold f_M_helper_B32
      have K2 : sK (wI (wI S 57 82 0) 65 i v) 57 = 23 := K57
      have r2 : sR (wI (wI S 57 82 0) 65 i v) 57 8 = some 65 := r65
      have e2 := x_aZ (S := wI (wI S 57 82 0) 65 i v) (k := 65) (i := i) k65.1 (by show i < sL S 65; omega) (by omega)
      rw [x_bZ (S := wI S 57 82 0) k65.1 (by show i < sL S 65; omega) (by omega) hv, Option.bind_some, ti_gR K2, Option.bind_some, r2, e2, Option.bind_some, ti_sI_eq]
      rcases hv with rfl | rfl <;> rfl
    unfold ng
    by_cases c : sI S 65 i = 0
    · rw [if_pos c, if_pos c]
      exact fin 1 (Or.inr rfl)
    · rw [if_neg c, if_neg c]
      exact fin 0 (Or.inl rfl)
  · refine Or.inl ⟨h, ?_⟩
    have e6 := x_six (a := a) (S := S)
    rw [if_neg h] at e6
    rw [e6, b2_s, ti_rv K57, Option.bind_some, x_may hT hx (by decide), b2_s, if_pos rfl, if_pos rfl]
end
section
/-! ===== p27: what a service needs (after 31.rel9's and 31.rel23's small ones) ===== -/
def SV (S : AS) : Prop := ∀ i, i < 4 → sR S 21 i = some (53 + i)
theorem x_service {T : Nat → Nat} {S : AS} (hT : TI T S) (hp : SV S) (a : Int32) : (¬ In 0 3 a ∧ f_K_findService S (some 4) a = some (.inr "java/lang/IndexOutOfBoundsException", wX S)) ∨ (∃ i, i < 4 ∧ a = Int32.ofNat i ∧ f_K_findService S (some 4) a = some (.inl (some (53 + i)), S)) := by
  have K4 : sK S 4 = 22 := Tx.K hT hT.t9.2.2.2.2.1 (by decide)
  obtain ⟨r8, t8, -⟩ := kd_ty hT (j := 11) (p := 21) rfl rfl
  have k8 : sK S 21 = 45 ∧ sL S 21 = 4 := ⟨Tx.K hT t8 (by decide), (hT.t1 21 (by rw [t8]; decide)).2.2.2 4 (by rw [t8]; rfl)⟩
  have bad : f_K_findService_B22 S = some (.inr "java/lang/IndexOutOfBoundsException", wX S) := rfl
  by_cases h : In 0 3 a
  · obtain ⟨i, hi, ei⟩ := ofNat_In (n := 3) (v := a) h
    have e1 := (gl2 i (by omega)).1
    refine Or.inr ⟨i, hi, ei, ?_⟩
    unfold f_K_findService
    rw [ei, if_neg (fun q => by have := lt0.mp q; rw [e1] at this; omega), ti_gR K4, Option.bind_some, r8, x_aN (by rw [k8.1]; decide), Option.bind_some, k8.2, if_neg (fun q => by
      have := Int32.le_iff_toInt_le.mp q
      rw [e1, (gl2 4 (by decide)).1] at this
      omega), Option.bind_some, x_aR k8.1 (by omega) (by omega) (hp i hi), Option.bind_some]
    rfl
  · refine Or.inl ⟨h, ?_⟩
    unfold f_K_findService
    by_cases c : a < 0
    · rw [if_pos c]
      exact bad
    · have c' : ¬ a.toInt < 0 := fun q => c (lt0.mpr q)
      rw [if_neg c, ti_gR K4, Option.bind_some, r8, x_aN (by rw [k8.1]; decide), Option.bind_some, k8.2, if_pos (Int32.le_iff_toInt_le.mpr (by
        rw [(gl2 4 (by decide)).1]
        have : ¬ (0 ≤ a.toInt ∧ a.toInt ≤ 3) := h
        omega))]
      exact bad
def RP27 (T : Nat → Nat) (S : AS) : Prop := SV S ∧ ∀ i, i < 4 → T (53 + i) = 17 ∧ sI S (53 + i) 0 = sI S 92 i
def kr_rc27 : List Nat := [50900, 1700, 13800]
theorem rc_no27 {w : List Nat} (h : kr_rc27.all (fun z => !w.contains z) = true) {z : Nat} (hz : z ∈ kr_rc27) : ¬ z ∈ w := fun q => by
  have := List.all_eq_true.mp h z hz
  rw [List.contains_iff_mem.mpr q] at this
  cases this
theorem SV_fr {T T' : Nat → Nat} {w : List Nat} {S S' : AS} {c s : Nat} (h : SV S) (hR : Rl T w S c s T' S') (hw : ¬ 50900 ∈ w) : SV S' := by
  have hT : TI T S := hR.2.2.2.2.2.2.2.2
  have e := (kd_ty hT (j := 11) (p := 21) rfl rfl).2.1
  intro i hi
  rw [hR.fR 21 i (by rw [e]; decide) (by rw [e, show cr 9 i = 50900 from (congrArg (50000 + ·) (if_neg (by decide)))]; exact hw)]
  exact h i hi
theorem RP27_fr {T T' : Nat → Nat} {w : List Nat} {S S' : AS} {c s : Nat} (h : RP27 T S) (hR : Rl T w S c s T' S') (hw : kr_rc27.all (fun z => !w.contains z) = true) : RP27 T' S' := by
  have hT : TI T S := hR.2.2.2.2.2.2.2.2
  have no := fun {z} => rc_no27 hw (z := z)
  have e := (md_at hT (j := 38) (p := 92) rfl rfl).2.1
  refine ⟨SV_fr h.1 hR (no (by decide)), fun i hi => ?_⟩
  obtain ⟨a, b⟩ := h.2 i hi
  refine ⟨(hR.ty _ (by rw [a]; decide)).trans a, ?_⟩
  rw [hR.fI (53 + i) 0 (by rw [a]; decide) (by rw [a]; exact no (by decide)), hR.fI 92 i (by rw [e]; decide) (by rw [e]; exact no (by rw [show cl 138 i = 13800 from if_neg (by decide)]; decide))]
  exact b
theorem z_RP27 : RP27 kr_T0 kr_Z := by
  unfold RP27 SV
  decide +kernel
theorem x_Kin (S : AS) (a lo hi : Int32) : f_K_isWithin S a lo hi = some (if In lo.toInt hi.toInt a then 1 else 0, S) := by
  unfold f_K_isWithin
  by_cases c1 : a < lo
  · rw [if_pos c1, if_neg (fun q => absurd (In_iff.mpr q).1 (Int32.not_le.mpr c1))]
  · by_cases c2 : hi < a
    · rw [if_neg c1, if_pos c2, if_neg (fun q => absurd (In_iff.mpr q).2 (Int32.not_le.mpr c2))]
    · rw [if_neg c1, if_neg c2, if_pos (In_iff.mp ⟨Int32.not_lt.mp c1, Int32.not_lt.mp c2⟩)]
theorem x_Min (S : AS) (a lo hi : Int32) : f_M_isIn S a lo hi = some (if In lo.toInt hi.toInt a then 1 else 0, S) := by
  unfold f_M_isIn
  by_cases c1 : a < lo
  · rw [if_pos c1, if_neg (fun q => absurd (In_iff.mpr q).1 (Int32.not_le.mpr c1))]
  · by_cases c2 : hi < a
    · rw [if_neg c1, if_pos c2, if_neg (fun q => absurd (In_iff.mpr q).2 (Int32.not_le.mpr c2))]
    · rw [if_neg c1, if_neg c2, if_pos (In_iff.mp ⟨Int32.not_lt.mp c1, Int32.not_lt.mp c2⟩)]
theorem x_K_need {T : Nat → Nat} {S : AS} (hT : TI T S) (h : RP27 T S) (a b : Int32) : (¬ In 0 3 a ∧ f_K_need S (some 4) a b = some (.inr "java/lang/IndexOutOfBoundsException", wX S)) ∨ (∃ i, i < 4 ∧ a = Int32.ofNat i ∧ ((¬ In 0 6 b ∧ f_K_need S (some 4) a b = some (.inr "java/lang/IllegalArgumentException", wX S)) ∨ (In 0 6 b ∧ f_K_need S (some 4) a b = some (.inl (sI S 92 i), wI S (53 + i) 0 b)))) := by
  have K4 : sK S 4 = 22 := Tx.K hT hT.t9.2.2.2.2.1 (by decide)
  have eb := x_Kin S b 0 6
  rw [show (0 : Int32).toInt = 0 from by decide, show (6 : Int32).toInt = 6 from by decide] at eb
  unfold f_K_need
  rw [ti_rv K4, Option.bind_some]
  rcases x_service hT h.1 a with ⟨no, e⟩ | ⟨i, hi, ei, e⟩
  · refine Or.inl ⟨no, ?_⟩
    rw [e, bx_r]
  · refine Or.inr ⟨i, hi, ei, ?_⟩
    obtain ⟨t, b92⟩ := h.2 i hi
    have K : sK S (53 + i) = 18 := (Tx.K hT t (by decide)).trans rfl
    by_cases hb : In 0 6 b
    · rw [if_pos hb] at eb
      refine Or.inr ⟨hb, ?_⟩
      rw [e, bx_l, eb, b2_s, rA1, bx_l, ti_gI K, Option.bind_some, ti_pI K, Option.bind_some, b92]
    · rw [if_neg hb] at eb
      refine Or.inl ⟨hb, ?_⟩
      rw [e, bx_l, eb, b2_s, rA0, bx_r]
theorem x_Mserv {a : Int32} {S : AS} : f_M_isService S a = some (if In 0 3 a then 1 else 0, S) := by
  unfold f_M_isService
  have e := x_Min S a 0 3
  rw [show (0 : Int32).toInt = 0 from by decide, show (3 : Int32).toInt = 3 from by decide] at e
  rw [e, b2_s]
  by_cases h : In 0 3 a
  · rw [if_pos h]
    rfl
  · rw [if_neg h]
    rfl
theorem x_M_need {T : Nat → Nat} {S : AS} (hT : TI T S) (a b : Int32) : (¬ In 0 3 a ∧ f_M_need S (some 57) a b = some (0, wI S 57 82 1)) ∨ (∃ i, i < 4 ∧ a = Int32.ofNat i ∧ ((¬ In 0 6 b ∧ f_M_need S (some 57) a b = some (0, wI S 57 82 2)) ∨ (In 0 6 b ∧ f_M_need S (some 57) a b = some (sI S 92 i, wI (wI S 57 82 0) 92 i b)))) := by
  have hx : Tx T 100 (some 57) := ⟨57, rfl, hT.t9.1, by decide⟩
  have K57 : sK S 57 = 23 := (Tx.K hT hT.t9.1 (by decide)).trans rfl
  obtain ⟨r, t, -⟩ := md_at hT (j := 38) (p := 92) rfl rfl
  have k : sK S 92 = 40 ∧ sL S 92 = 4 := ⟨(Tx.K hT t (by decide)).trans rfl, (hT.t1 92 (by rw [t]; decide)).2.2.2 4 (by rw [t]; rfl)⟩
  have ea := x_Mserv (a := a) (S := S)
  have eb := x_Min S b 0 6
  rw [show (0 : Int32).toInt = 0 from by decide, show (6 : Int32).toInt = 6 from by decide] at eb
  unfold f_M_need
  rw [ea, b2_s, eb, b2_s, ti_rv K57, Option.bind_some, x_mayBoth hT hx]
  by_cases h : In 0 3 a
  · obtain ⟨i, hi, ei⟩ := ofNat_In (n := 3) (v := a) h
    refine Or.inr ⟨i, hi, ei, ?_⟩
    by_cases hb : In 0 6 b
    · refine Or.inr ⟨hb, ?_⟩
      have K' : sK (wI S 57 82 0) 57 = 23 := K57
      have r' : sR (wI S 57 82 0) 57 38 = some 92 := r
      have o : sI (wI S 57 82 0) 92 i = sI S 92 i := ti_sI_ne (by omega)
      rw [if_pos h, if_pos hb, if_neg (by decide : ¬ (1 : Int32) = 0), b2_s, if_neg (by decide : ¬ (1 : Int32) = 0), ti_gR K', Option.bind_some, r', ei, x_aIo (S := wI S 57 82 0) k.1 (by show i < sL S 92; omega) (by omega), Option.bind_some, Option.bind_some, x_b (S := wI S 57 82 0) k.1 (by show i < sL S 92; omega) (by omega), Option.bind_some, o]
      exact if_neg (by decide : ¬ (1 : Int32) = 0)
    · refine Or.inl ⟨hb, ?_⟩
      rw [if_pos h, if_neg hb, if_neg (by decide : ¬ (1 : Int32) = 0), if_pos rfl, b2_s, if_pos rfl]
  · refine Or.inl ⟨h, ?_⟩
    rw [if_neg h, if_pos rfl, b2_s, if_pos rfl]
end
section
/-! ===== p46: the foreign accounts' links (after 31.rel9's, 31.rel23's and 31.rel27's small ones) ===== -/
theorem x_idx1 {S : AS} {a n : Int32} (h0 : 0 ≤ a.toInt) (h1 : a.toInt < n.toInt) : f_K_requireIndex S a n = some (.inl (), S) := by
  unfold f_K_requireIndex
  rw [if_neg (fun q => by have := lt0.mp q; omega), if_pos (Int32.lt_iff_toInt_lt.mpr h1)]
theorem x_idx0 {S : AS} {a n : Int32} (h : ¬ (0 ≤ a.toInt ∧ a.toInt < n.toInt)) : f_K_requireIndex S a n = some (.inr "java/lang/IndexOutOfBoundsException", wX S) := by
  unfold f_K_requireIndex f_K_requireIndex_B9
  by_cases c : a < 0
  · rw [if_pos c]
  · have c' : ¬ a.toInt < 0 := fun q => c (lt0.mpr q)
    rw [if_neg c, if_neg (fun q => h ⟨by omega, Int32.lt_iff_toInt_lt.mp q⟩)]
def RP46 (S : AS) : Prop := ∀ i, i < 6 → sI S 28 i = sI S 122 i
def kr_rc46 : List Nat := [1200, 17600]
theorem rc_no46 {w : List Nat} (h : kr_rc46.all (fun z => !w.contains z) = true) {z : Nat} (hz : z ∈ kr_rc46) : ¬ z ∈ w := fun q => by
  have := List.all_eq_true.mp h z hz
  rw [List.contains_iff_mem.mpr q] at this
  cases this
theorem RP46_fr {T T' : Nat → Nat} {w : List Nat} {S S' : AS} {c s : Nat} (h : RP46 S) (hR : Rl T w S c s T' S') (hw : kr_rc46.all (fun z => !w.contains z) = true) : RP46 S' := by
  have hT : TI T S := hR.2.2.2.2.2.2.2.2
  have no := fun {z} => rc_no46 hw (z := z)
  have e1 := (kd_ty hT (j := 17) (p := 28) rfl rfl).2.1
  have e2 := (md_at hT (j := 76) (p := 122) rfl rfl).2.1
  intro i hi
  rw [hR.fI 28 i (by rw [e1]; decide) (by rw [e1]; exact no (by rw [show cl 12 i = 1200 from if_neg (by decide)]; decide)), hR.fI 122 i (by rw [e2]; decide) (by rw [e2]; exact no (by rw [show cl 176 i = 17600 from if_neg (by decide)]; decide))]
  exact h i hi
theorem z_RP46 : RP46 kr_Z := by
  unfold RP46
  decide +kernel
def LK (S : AS) (i : Nat) (b : Int32) : Prop := b = -1 ∨ sI S 122 i = -1 ∨ sI S 122 i = b
theorem x_K_link {T : Nat → Nat} {S : AS} (hT : TI T S) (h : RP46 S) (a b : Int32) : (¬ (In 0 5 a ∧ In (-1) 5 b) ∧ f_K_link S (some 4) a b = some (.inr "java/lang/IndexOutOfBoundsException", wX S)) ∨ (∃ i, i < 6 ∧ a = Int32.ofNat i ∧ In (-1) 5 b ∧ ((¬ LK S i b ∧ f_K_link S (some 4) a b = some (.inr "java/lang/IllegalStateException", wX S)) ∨ (LK S i b ∧ f_K_link S (some 4) a b = some (.inl (sI S 122 i), wI S 28 i b)))) := by
  have K4 : sK S 4 = 22 := Tx.K hT hT.t9.2.2.2.2.1 (by decide)
  obtain ⟨r, t, -⟩ := kd_ty hT (j := 17) (p := 28) rfl rfl
  have k : sK S 28 = 40 ∧ sL S 28 = 6 := ⟨(Tx.K hT t (by decide)).trans rfl, (hT.t1 28 (by rw [t]; decide)).2.2.2 6 (by rw [t]; rfl)⟩
  have six := (gl2 6 (by decide)).1
  unfold f_K_link
  rw [ti_gR K4, Option.bind_some, r, x_aN (by rw [k.1]; decide), Option.bind_some, k.2]
  by_cases ha : In 0 5 a
  · obtain ⟨i, hi, ei⟩ := ofNat_In (n := 5) (v := a) ha
    have e1 := (gl2 i (by omega)).1
    rw [x_idx1 ha.1 (by rw [six]; have := ha.2; omega), bx_l]
    have B42 : f_K_link_B42 S (some 4) a b (sI S 28 i) = some (.inl (sI S 122 i), wI S 28 i b) := by
      unfold f_K_link_B42 f_K_link_B47
      rw [rS1, bx_l, ti_gR K4, Option.bind_some, r, ei, x_b k.1 (by omega) (by omega), Option.bind_some, h i hi]
    have B47 : f_K_link_B47 S (some 4) a b (sI S 28 i) 0 = some (.inr "java/lang/IllegalStateException", wX S) := by
      unfold f_K_link_B47
      rw [rS0, bx_r]
    have B20 : (¬ LK S i b ∧ f_K_link_B20 S (some 4) a b = some (.inr "java/lang/IllegalStateException", wX S)) ∨ (LK S i b ∧ f_K_link_B20 S (some 4) a b = some (.inl (sI S 122 i), wI S 28 i b)) := by
      have e2 : aI S 40 (some 28) a = some (sI S 28 i) := by rw [ei]; exact x_aIo k.1 (by omega) (by omega)
      unfold f_K_link_B20
      rw [ti_gR K4, Option.bind_some, r, e2, Option.bind_some]
      by_cases c1 : b = -1
      · rw [if_pos c1]
        exact Or.inr ⟨Or.inl c1, B42⟩
      · rw [if_neg c1]
        by_cases c2 : sI S 28 i = -1
        · rw [if_pos c2]
          exact Or.inr ⟨Or.inr (Or.inl ((h i hi).symm.trans c2)), B42⟩
        · rw [if_neg c2]
          by_cases c3 : sI S 28 i = b
          · rw [if_pos c3]
            exact Or.inr ⟨Or.inr (Or.inr ((h i hi).symm.trans c3)), B42⟩
          · rw [if_neg c3]
            refine Or.inl ⟨fun q => ?_, B47⟩
            rcases q with q | q | q
            · exact c1 q
            · exact c2 ((h i hi).trans q)
            · exact c3 ((h i hi).trans q)
    by_cases c : b = -1
    · refine Or.inr ⟨i, hi, ei, by rw [c]; decide, ?_⟩
      rw [if_pos c]
      exact B20
    · rw [if_neg c]
      by_cases hb : In (-1) 5 b
      · have c' : b.toInt ≠ -1 := fun q => c (Int32.toInt_inj.mp (q.trans (by decide)))
        refine Or.inr ⟨i, hi, ei, hb, ?_⟩
        rw [x_idx1 (by have := hb.1; omega) (by rw [show (6 : Int32).toInt = 6 from by decide]; have := hb.2; omega), bx_l]
        exact B20
      · refine Or.inl ⟨fun q => hb q.2, ?_⟩
        rw [x_idx0 (fun q => hb ⟨by omega, by have := q.2; rw [show (6 : Int32).toInt = 6 from by decide] at this; omega⟩), bx_r]
  · refine Or.inl ⟨fun q => ha q.1, ?_⟩
    rw [x_idx0 (fun q => ha ⟨q.1, by have := q.2; rw [six] at this; omega⟩), bx_r]
theorem x_M_link {T : Nat → Nat} {S : AS} (hT : TI T S) (a b : Int32) : (¬ (In 0 5 a ∧ In (-1) 5 b) ∧ f_M_link S (some 57) a b = some (0, wI S 57 82 1)) ∨ (∃ i, i < 6 ∧ a = Int32.ofNat i ∧ In (-1) 5 b ∧ ((¬ LK S i b ∧ f_M_link S (some 57) a b = some (0, wI S 57 82 2)) ∨ (LK S i b ∧ f_M_link S (some 57) a b = some (sI S 122 i, wI (wI S 57 82 0) 122 i b)))) := by
  have hx : Tx T 100 (some 57) := ⟨57, rfl, hT.t9.1, by decide⟩
  have K57 : sK S 57 = 23 := (Tx.K hT hT.t9.1 (by decide)).trans rfl
  obtain ⟨r, t, -⟩ := md_at hT (j := 76) (p := 122) rfl rfl
  have k : sK S 122 = 40 ∧ sL S 122 = 6 := ⟨(Tx.K hT t (by decide)).trans rfl, (hT.t1 122 (by rw [t]; decide)).2.2.2 6 (by rw [t]; rfl)⟩
  have e6 := x_six (a := a) (S := S)
  have eb := x_Min S b (-1) 5
  rw [show (-1 : Int32).toInt = -1 from by decide, show (5 : Int32).toInt = 5 from by decide] at eb
  have bad : f_M_link_B20 S (some 57) a b = some (0, wI S 57 82 1) := by
    unfold f_M_link_B20 f_M_link_B21 f_M_link_B57 f_M_link_B58
    rw [if_pos rfl, ti_rv K57, Option.bind_some, x_mayBoth hT hx, if_pos rfl, b2_s, if_pos rfl]
  unfold f_M_link
  by_cases ha : In 0 5 a
  · obtain ⟨i, hi, ei⟩ := ofNat_In (n := 5) (v := a) ha
    rw [if_pos ha] at e6
    rw [e6, b2_s, if_neg (by decide : ¬ (1 : Int32) = 0), eb, b2_s]
    by_cases hb : In (-1) 5 b
    · rw [if_pos hb, if_neg (by decide : ¬ (1 : Int32) = 0)]
      refine Or.inr ⟨i, hi, ei, hb, ?_⟩
      have B53 : f_M_link_B53 S (some 57) a b (some 57) 1 = some (sI S 122 i, wI (wI S 57 82 0) 122 i b) := by
        have K' : sK (wI S 57 82 0) 57 = 23 := K57
        have r' : sR (wI S 57 82 0) 57 76 = some 122 := r
        have o : sI (wI S 57 82 0) 122 i = sI S 122 i := ti_sI_ne (by omega)
        unfold f_M_link_B53 f_M_link_B58
        rw [ti_rv K57, Option.bind_some, x_mayBoth hT hx, if_neg (by decide : ¬ (1 : Int32) = 0), if_neg (by decide : ¬ (1 : Int32) = 0), b2_s, if_neg (by decide : ¬ (1 : Int32) = 0), ti_gR K', Option.bind_some, r', ei, x_aIo (S := wI S 57 82 0) k.1 (by show i < sL S 122; omega) (by omega), Option.bind_some, Option.bind_some, x_b (S := wI S 57 82 0) k.1 (by show i < sL S 122; omega) (by omega), Option.bind_some, o]
      have B57 : f_M_link_B57 S (some 57) a b (some 57) 1 = some (0, wI S 57 82 2) := by
        unfold f_M_link_B57 f_M_link_B58
        rw [ti_rv K57, Option.bind_some, x_mayBoth hT hx, if_neg (by decide : ¬ (1 : Int32) = 0), if_pos rfl, b2_s, if_pos rfl]
      have e2 : aI S 40 (some 122) a = some (sI S 122 i) := by rw [ei]; exact x_aIo k.1 (by omega) (by omega)
      unfold f_M_link_B21
      rw [if_neg (by decide : ¬ (1 : Int32) = 0)]
      by_cases c1 : b = -1
      · rw [if_pos c1]
        exact Or.inr ⟨Or.inl c1, B53⟩
      · rw [if_neg c1, ti_gR K57, Option.bind_some, r, e2, Option.bind_some, Option.bind_some]
        by_cases c2 : sI S 122 i = -1
        · rw [if_pos c2]
          exact Or.inr ⟨Or.inr (Or.inl c2), B53⟩
        · rw [if_neg c2, e2, Option.bind_some]
          by_cases c3 : sI S 122 i = b
          · rw [if_pos c3]
            exact Or.inr ⟨Or.inr (Or.inr c3), B53⟩
          · rw [if_neg c3]
            refine Or.inl ⟨fun q => ?_, B57⟩
            rcases q with q | q | q
            · exact c1 q
            · exact c2 q
            · exact c3 q
    · rw [if_neg hb, if_pos rfl]
      exact Or.inl ⟨fun q => hb q.2, bad⟩
  · rw [if_neg ha] at e6
    rw [e6, b2_s, if_pos rfl]
    exact Or.inl ⟨fun q => ha q.1, bad⟩
end
section
/-! ===== points, helper, need, link: the class's answer is the reference's, and the rows stay alike ===== -/
theorem pr_points {n : Nat} {T T1 : Nat → Nat} {w : List Nat} {S S1 S2 : AS} {k v a b c : Int32} (hI : IV n T S) (hr : RP9 S) (e1 : f_W_points S (some 4) a b c (some 126) = some (k, S1)) (g1 : Rl T (99999 :: w) S 10 700 T1 S1) (e2 : f_M_points S1 (some 57) a b c = some (v, S2)) : sI S2 57 82 = k ∧ (k = 0 → sJ S1 126 0 = v.toInt64) ∧ RP9 S2 := by
  obtain ⟨K4, K57, k6, l6⟩ := k_six hI.1
  unfold f_W_points at e1
  rw [ti_rv K4, Option.bind_some] at e1
  obtain ⟨q, hq, p⟩ := x_K_points hI.1 a b c
  rw [hq] at e1
  obtain ⟨q2, hq2, p2⟩ := x_M_points g1.1 a b c
  rw [hq2] at e2
  rcases p with ⟨no, rfl⟩ | ⟨ok, i, hi, ei, rfl⟩
  · rw [bh_r, if_pos rfl] at e1
    obtain ⟨rfl, rfl⟩ := pk_inj e1
    rcases p2 with ⟨no2, rfl⟩ | ⟨ok2, -⟩
    · obtain ⟨rfl, rfl⟩ := pk_inj e2
      refine ⟨ti_sI_eq _ _ _ _, fun q => absurd q (by decide), fun j hj => ?_⟩
      rw [ti_sI_ne (by omega), ti_sI_ne (by omega), ti_sI_ne (by omega), ti_sI_ne (by omega), sI_wX]
      exact hr j hj
    · exact absurd ok2 no
  · rw [bh_l, bJ_K (S := wI S (pk c) i b) k6 l6, Option.bind_some] at e1
    obtain ⟨rfl, rfl⟩ := pk_inj e1
    rcases p2 with ⟨no2, -⟩ | ⟨ok2, i2, hi2, ei2, rfl⟩
    · exact absurd ok no2
    · have ii : i2 = i := by
        have h := (gl2 i (by omega)).2
        have h2 := (gl2 i2 (by omega)).2
        rw [← ei, ei2, h2] at h
        exact h
      subst ii
      obtain ⟨rfl, rfl⟩ := pk_inj e2
      have d : pk c = 9 ∧ pm c = 73 ∨ pk c = 10 ∧ pm c = 74 := by
        unfold pk pm
        by_cases c0 : c = 0
        · rw [if_pos c0, if_pos c0]; exact Or.inl ⟨rfl, rfl⟩
        · rw [if_neg c0, if_neg c0]; exact Or.inr ⟨rfl, rfl⟩
      refine ⟨?_, fun _ => ?_, fun j hj => ?_⟩
      · rw [ti_sI_ne (by omega), ti_sI_eq]
      · rw [sJ_wJ, sI_wJ]
        have := hr i2 hi
        rcases d with ⟨d1, d2⟩ | ⟨d1, d2⟩
        · rw [d1, d2, ti_sI_ne (by omega), this.1]
        · rw [d1, d2, ti_sI_ne (by omega), this.2]
      · have h := hr j hj
        by_cases cj : j = i2
        · subst cj
          rcases d with ⟨d1, d2⟩ | ⟨d1, d2⟩
          · rw [d1, d2]
            refine ⟨?_, ?_⟩
            · rw [ti_sI_ne (by omega), ti_sI_ne (by omega), sI_wJ, ti_sI_eq, ti_sI_eq]
            · rw [ti_sI_ne (by omega), ti_sI_ne (by omega), sI_wJ, ti_sI_ne (by omega), ti_sI_ne (by omega), ti_sI_ne (by omega), sI_wJ, ti_sI_ne (by omega)]
              exact h.2
          · rw [d1, d2]
            refine ⟨?_, ?_⟩
            · rw [ti_sI_ne (by omega), ti_sI_ne (by omega), sI_wJ, ti_sI_ne (by omega), ti_sI_ne (by omega), ti_sI_ne (by omega), sI_wJ, ti_sI_ne (by omega)]
              exact h.1
            · rw [ti_sI_ne (by omega), ti_sI_ne (by omega), sI_wJ, ti_sI_eq, ti_sI_eq]
        · rw [ti_sI_ne (by omega), ti_sI_ne (by omega), sI_wJ, ti_sI_ne (by omega), ti_sI_ne (by omega), ti_sI_ne (by omega), sI_wJ, ti_sI_ne (by omega), ti_sI_ne (by omega), ti_sI_ne (by omega), sI_wJ, ti_sI_ne (by omega), ti_sI_ne (by omega), ti_sI_ne (by omega), sI_wJ, ti_sI_ne (by omega)]
          exact h
theorem nat_eq {i i2 : Nat} {a : Int32} (h : i < 301) (h2 : i2 < 301) (e : a = Int32.ofNat i) (e2 : a = Int32.ofNat i2) : i2 = i := by
  have z := (gl2 i h).2
  have z2 := (gl2 i2 h2).2
  rw [← e, e2, z2] at z
  exact z
theorem In_nat {i : Nat} {a : Int32} {m : Nat} (h : i < 301) (e : a = Int32.ofNat i) (hm : i ≤ m) : In 0 m a := by
  have z := (gl2 i h).1
  rw [e]
  exact ⟨by omega, by omega⟩
theorem ng_b (v : Int32) : (if ng v = 0 then (0 : Int64) else 1) = if ng v = 0 then 0 else 1 := rfl
theorem pr_helper {n : Nat} {T T1 : Nat → Nat} {w : List Nat} {S S1 S2 : AS} {k v a : Int32} (hI : IV n T S) (hr : RP23 T S) (e1 : f_W_helper S (some 4) a (some 126) = some (k, S1)) (g1 : Rl T (99999 :: w) S 10 700 T1 S1) (e2 : f_M_helper S1 (some 57) a = some (v, S2)) : sI S2 57 82 = k ∧ (k = 0 → sJ S1 126 0 = if v = 0 then 0 else 1) ∧ RP23 T1 S2 := by
  obtain ⟨K4, K57, k6, l6⟩ := k_six hI.1
  have t57 := hI.1.t9.1
  have e65 := (md_at hI.1 (j := 8) (p := 65) rfl rfl).2.1
  have t8 := (kd_ty hI.1 (j := 2) (p := 8) rfl rfl).2.1
  unfold f_W_helper at e1
  rw [ti_rv K4, Option.bind_some] at e1
  have up : ∀ i, i < 6 → T1 (29 + 4 * i) = 13 := fun i hi => (g1.ty _ (by rw [(hr.2 i hi).1]; decide)).trans (hr.2 i hi).1
  rcases x_K_helper hI.1 hr a with ⟨no, e⟩ | ⟨i, hi, ei, e⟩
  · rw [e, bh_r, if_pos rfl] at e1
    obtain ⟨rfl, rfl⟩ := pk_inj e1
    rcases x_M_helper g1.1 a with ⟨-, f⟩ | ⟨i2, hi2, ei2, f⟩
    · rw [f] at e2
      obtain ⟨rfl, rfl⟩ := pk_inj e2
      refine ⟨ti_sI_eq _ _ _ _, fun q => absurd q (by decide), hr.1, fun j hj => ⟨up j hj, ?_⟩⟩
      rw [ti_sI_ne (by omega), ti_sI_ne (by omega), sI_wX]
      exact (hr.2 j hj).2
    · exact absurd (In_nat (m := 5) (by omega) ei2 (by omega)) no
  · have B : ∀ v' : Int64, f_W_helper_B15 (wI S (29 + 4 * i) 10 (ng (sI S 65 i))) (some 126) (0 : Int32) v' = some (0, wJ (wI S (29 + 4 * i) 10 (ng (sI S 65 i))) 126 0 v') := fun v' => by
      unfold f_W_helper_B15
      rw [bJ_K (S := wI S (29 + 4 * i) 10 (ng (sI S 65 i))) k6 l6, Option.bind_some]
    rw [e, bh_l] at e1
    have e1 : some ((0 : Int32), wJ (wI S (29 + 4 * i) 10 (ng (sI S 65 i))) 126 0 (if ng (sI S 65 i) = 0 then 0 else 1)) = some (k, S1) := by
      rw [← e1]
      by_cases c : ng (sI S 65 i) = 0
      · rw [if_pos c, if_pos c, B]
      · rw [if_neg c, if_neg c, B]
    obtain ⟨rfl, rfl⟩ := pk_inj e1
    rcases x_M_helper g1.1 a with ⟨no, f⟩ | ⟨i2, hi2, ei2, f⟩
    · exact absurd (In_nat (m := 5) (by omega) ei (by omega)) no
    · have ii := nat_eq (by omega) (by omega) ei ei2
      subst ii
      rw [f] at e2
      obtain ⟨rfl, rfl⟩ := pk_inj e2
      have o : sI (wJ (wI S (29 + 4 * i2) 10 (ng (sI S 65 i2))) 126 0 (if ng (sI S 65 i2) = 0 then 0 else 1)) 65 i2 = sI S 65 i2 := by
        rw [sI_wJ, ti_sI_ne (by omega)]
      refine ⟨?_, fun _ => ?_, hr.1, fun j hj => ⟨up j hj, ?_⟩⟩
      · rw [ti_sI_ne (by omega), ti_sI_eq]
      · rw [sJ_wJ, o]
      · rw [o]
        have h := (hr.2 j hj).2
        by_cases cj : j = i2
        · subst cj
          rw [ti_sI_ne (by omega), ti_sI_ne (by omega), sI_wJ, ti_sI_eq, ti_sI_eq]
        · rw [ti_sI_ne (by omega), ti_sI_ne (by omega), sI_wJ, ti_sI_ne (by omega), ti_sI_ne (by omega), ti_sI_ne (by omega), sI_wJ, ti_sI_ne (by omega)]
          exact h
theorem pr_need {n : Nat} {T T1 : Nat → Nat} {w : List Nat} {S S1 S2 : AS} {k v a b : Int32} (hI : IV n T S) (hr : RP27 T S) (e1 : f_W_need S (some 4) a b (some 126) = some (k, S1)) (g1 : Rl T (99999 :: w) S 10 700 T1 S1) (e2 : f_M_need S1 (some 57) a b = some (v, S2)) : sI S2 57 82 = k ∧ (k = 0 → sJ S1 126 0 = v.toInt64) ∧ RP27 T1 S2 := by
  obtain ⟨K4, K57, k6, l6⟩ := k_six hI.1
  unfold f_W_need at e1
  rw [ti_rv K4, Option.bind_some] at e1
  have up : ∀ i, i < 4 → T1 (53 + i) = 17 := fun i hi => (g1.ty _ (by rw [(hr.2 i hi).1]; decide)).trans (hr.2 i hi).1
  rcases x_K_need hI.1 hr a b with ⟨no, e⟩ | ⟨i, hi, ei, ⟨no, e⟩ | ⟨ok, e⟩⟩
  · rw [e, bh_r, if_pos rfl] at e1
    obtain ⟨rfl, rfl⟩ := pk_inj e1
    rcases x_M_need g1.1 a b with ⟨-, f⟩ | ⟨i2, hi2, ei2, -⟩
    · rw [f] at e2
      obtain ⟨rfl, rfl⟩ := pk_inj e2
      refine ⟨ti_sI_eq _ _ _ _, fun q => absurd q (by decide), hr.1, fun j hj => ⟨up j hj, ?_⟩⟩
      rw [ti_sI_ne (by omega), ti_sI_ne (by omega), sI_wX]
      exact (hr.2 j hj).2
    · exact absurd (In_nat (m := 3) (by omega) ei2 (by omega)) no
  · rw [e, bh_r, if_neg (by decide +kernel), if_pos rfl] at e1
    obtain ⟨rfl, rfl⟩ := pk_inj e1
    rcases x_M_need g1.1 a b with ⟨no2, f⟩ | ⟨i2, hi2, ei2, ⟨no2, f⟩ | ⟨ok2, f⟩⟩
    · exact absurd (In_nat (m := 3) (by omega) ei (by omega)) no2
    · rw [f] at e2
      obtain ⟨rfl, rfl⟩ := pk_inj e2
      refine ⟨ti_sI_eq _ _ _ _, fun q => absurd q (by decide), hr.1, fun j hj => ⟨up j hj, ?_⟩⟩
      rw [ti_sI_ne (by omega), ti_sI_ne (by omega), sI_wX]
      exact (hr.2 j hj).2
    · exact absurd ok2 no
  · rw [e, bh_l, bJ_K (S := wI S (53 + i) 0 b) k6 l6, Option.bind_some] at e1
    obtain ⟨rfl, rfl⟩ := pk_inj e1
    rcases x_M_need g1.1 a b with ⟨no2, f⟩ | ⟨i2, hi2, ei2, ⟨no2, f⟩ | ⟨ok2, f⟩⟩
    · exact absurd (In_nat (m := 3) (by omega) ei (by omega)) no2
    · exact absurd ok no2
    · have ii := nat_eq (by omega) (by omega) ei ei2
      subst ii
      rw [f] at e2
      obtain ⟨rfl, rfl⟩ := pk_inj e2
      refine ⟨?_, fun _ => ?_, hr.1, fun j hj => ⟨up j hj, ?_⟩⟩
      · rw [ti_sI_ne (by omega), ti_sI_eq]
      · rw [sJ_wJ, sI_wJ, ti_sI_ne (by omega)]
      · have h := (hr.2 j hj).2
        by_cases cj : j = i2
        · subst cj
          rw [ti_sI_ne (by omega), ti_sI_ne (by omega), sI_wJ, ti_sI_eq, ti_sI_eq]
        · rw [ti_sI_ne (by omega), ti_sI_ne (by omega), sI_wJ, ti_sI_ne (by omega), ti_sI_ne (by omega), ti_sI_ne (by omega), sI_wJ, ti_sI_ne (by omega)]
          exact h
theorem pr_link {n : Nat} {T T1 : Nat → Nat} {w : List Nat} {S S1 S2 : AS} {k v a b : Int32} (hI : IV n T S) (hr : RP46 S) (e1 : f_W_link S (some 4) a b (some 126) = some (k, S1)) (g1 : Rl T (99999 :: w) S 10 700 T1 S1) (e2 : f_M_link S1 (some 57) a b = some (v, S2)) : sI S2 57 82 = k ∧ (k = 0 → sJ S1 126 0 = v.toInt64) ∧ RP46 S2 := by
  obtain ⟨K4, K57, k6, l6⟩ := k_six hI.1
  unfold f_W_link at e1
  rw [ti_rv K4, Option.bind_some] at e1
  have lk : ∀ {S' : AS} {i : Nat}, sI S' 122 i = sI S 122 i → (LK S' i b ↔ LK S i b) := fun h => by unfold LK; rw [h]
  rcases x_K_link hI.1 hr a b with ⟨no, e⟩ | ⟨i, hi, ei, hb, ⟨no, e⟩ | ⟨ok, e⟩⟩
  · rw [e, bh_r, if_pos rfl] at e1
    obtain ⟨rfl, rfl⟩ := pk_inj e1
    rcases x_M_link g1.1 a b with ⟨-, f⟩ | ⟨i2, hi2, ei2, hb2, -⟩
    · rw [f] at e2
      obtain ⟨rfl, rfl⟩ := pk_inj e2
      refine ⟨ti_sI_eq _ _ _ _, fun q => absurd q (by decide), fun j hj => ?_⟩
      rw [ti_sI_ne (by omega), ti_sI_ne (by omega), sI_wX]
      exact hr j hj
    · exact absurd ⟨In_nat (m := 5) (by omega) ei2 (by omega), hb2⟩ no
  · rw [e, bh_r, if_neg (by decide +kernel), if_pos rfl] at e1
    obtain ⟨rfl, rfl⟩ := pk_inj e1
    rcases x_M_link g1.1 a b with ⟨no2, f⟩ | ⟨i2, hi2, ei2, hb2, ⟨no2, f⟩ | ⟨ok2, f⟩⟩
    · exact absurd ⟨In_nat (m := 5) (by omega) ei (by omega), hb⟩ no2
    · rw [f] at e2
      obtain ⟨rfl, rfl⟩ := pk_inj e2
      refine ⟨ti_sI_eq _ _ _ _, fun q => absurd q (by decide), fun j hj => ?_⟩
      rw [ti_sI_ne (by omega), ti_sI_ne (by omega), sI_wX]
      exact hr j hj
    · have ii := nat_eq (by omega) (by omega) ei ei2
      subst ii
      exact absurd ((lk (by rw [sI_wX])).mp ok2) no
  · rw [e, bh_l, bJ_K (S := wI S 28 i b) k6 l6, Option.bind_some] at e1
    obtain ⟨rfl, rfl⟩ := pk_inj e1
    rcases x_M_link g1.1 a b with ⟨no2, f⟩ | ⟨i2, hi2, ei2, hb2, ⟨no2, f⟩ | ⟨ok2, f⟩⟩
    · exact absurd ⟨In_nat (m := 5) (by omega) ei (by omega), hb⟩ no2
    · have ii := nat_eq (by omega) (by omega) ei ei2
      subst ii
      exact absurd ((lk (by rw [sI_wJ, ti_sI_ne (by omega)])).mpr ok) no2
    · have ii := nat_eq (by omega) (by omega) ei ei2
      subst ii
      rw [f] at e2
      obtain ⟨rfl, rfl⟩ := pk_inj e2
      refine ⟨?_, fun _ => ?_, fun j hj => ?_⟩
      · rw [ti_sI_ne (by omega), ti_sI_eq]
      · rw [sJ_wJ, sI_wJ, ti_sI_ne (by omega)]
      · have h := hr j hj
        by_cases cj : j = i2
        · subst cj
          rw [ti_sI_ne (by omega), ti_sI_ne (by omega), sI_wJ, ti_sI_eq, ti_sI_eq]
        · rw [ti_sI_ne (by omega), ti_sI_ne (by omega), sI_wJ, ti_sI_ne (by omega), ti_sI_ne (by omega), ti_sI_ne (by omega), sI_wJ, ti_sI_ne (by omega)]
          exact h
end
section
/-! ===== class and reference side by side: what holds of their answers and states if both answer (that they do is said elsewhere) ===== -/
def H2 {α β : Type} (x : Option α) (y : Option β) (Q : α → β → Prop) : Prop := ∀ a b, x = some a → y = some b → Q a b
/-- one program answers as another does -/
def Le {α : Type} (x x' : Option α) : Prop := ∀ a, x = some a → x' = some a
theorem l_of {α β : Type} {x x' : Option α} {y : Option β} {Q : α → β → Prop} (h : Le x x') (g : H2 x' y Q) : H2 x y Q := fun a b ha hb => g a b (h a ha) hb
theorem m_of {α β : Type} {x : Option α} {y y' : Option β} {Q : α → β → Prop} (h : Le y y') (g : H2 x y' Q) : H2 x y Q := fun a b ha hb => g a b ha (h b hb)
theorem h2_ret {α β : Type} {a : α} {b : β} {Q : α → β → Prop} (h : Q a b) : H2 (some a) (some b) Q := fun a' b' ha hb => by
  cases ha
  cases hb
  exact h
theorem h2_l0 {α β : Type} {y : Option β} {Q : α → β → Prop} : H2 none y Q := fun a b ha _ => nomatch ha
theorem h2_m0 {α β : Type} {x : Option α} {Q : α → β → Prop} : H2 x none Q := fun a b _ hb => nomatch hb
theorem h2_mono {α β : Type} {x : Option α} {y : Option β} {P Q : α → β → Prop} (h : H2 x y P) (g : ∀ a b, P a b → Q a b) : H2 x y Q := fun a b ha hb => g a b (h a b ha hb)
theorem h2_and {α β : Type} {x : Option α} {y : Option β} {P Q : α → β → Prop} (h : H2 x y P) (g : H2 x y Q) : H2 x y (fun a b => P a b ∧ Q a b) := fun a b ha hb => ⟨h a b ha hb, g a b ha hb⟩
theorem l_if {α β : Type} {c : Prop} [Decidable c] {x1 x0 : Option α} {y : Option β} {Q : α → β → Prop} (h1 : c → H2 x1 y Q) (h0 : ¬ c → H2 x0 y Q) : H2 (if c then x1 else x0) y Q := by
  by_cases h : c
  · rw [if_pos h]; exact h1 h
  · rw [if_neg h]; exact h0 h
theorem m_if {α β : Type} {c : Prop} [Decidable c] {x : Option α} {y1 y0 : Option β} {Q : α → β → Prop} (h1 : c → H2 x y1 Q) (h0 : ¬ c → H2 x y0 Q) : H2 x (if c then y1 else y0) Q := by
  by_cases h : c
  · rw [if_pos h]; exact h1 h
  · rw [if_neg h]; exact h0 h
theorem st_T {α : Type} {c : Prop} [Decidable c] {x1 x0 : Option α} (h : c) : Le (if c then x1 else x0) x1 := fun a ha => by rw [if_pos h] at ha; exact ha
theorem st_F {α : Type} {c : Prop} [Decidable c] {x1 x0 : Option α} (h : ¬ c) : Le (if c then x1 else x0) x0 := fun a ha => by rw [if_neg h] at ha; exact ha
theorem st_eq {α : Type} {x x' : Option α} (h : x = x') : Le x x' := fun a ha => by rw [← h]; exact ha
theorem st_val {α β : Type} {v : α} {F : α → Option β} : Le ((some v).bind F) (F v) := fun _ ha => ha
theorem bind_cut {α β : Type} {c : Prop} [Decidable c] {v : α} {F : α → Option β} {a : β} (h : (if c then some v else none).bind F = some a) : c ∧ F v = some a := by
  by_cases hc : c
  · rw [if_pos hc] at h
    exact ⟨hc, h⟩
  · rw [if_neg hc] at h
    cases h
theorem st_gI {α : Type} {S : AS} {κ j k : Nat} {F : Int32 → Option α} : Le ((gI S κ j (some k)).bind F) (F (sI S k j)) := fun _ ha => (bind_cut ha).2
theorem st_gIe {α : Type} {S : AS} {κ j k : Nat} {F : Int32 → Option α} {v : Int32} (e : sI S k j = v) : Le ((gI S κ j (some k)).bind F) (F v) := fun _ ha => by rw [← e]; exact (bind_cut ha).2
theorem st_gR {α : Type} {S : AS} {κ j k : Nat} {F : Option Nat → Option α} : Le ((gR S κ j (some k)).bind F) (F (sR S k j)) := fun _ ha => (bind_cut ha).2
theorem st_gRe {α : Type} {S : AS} {κ j k : Nat} {F : Option Nat → Option α} {v : Option Nat} (e : sR S k j = v) : Le ((gR S κ j (some k)).bind F) (F v) := fun _ ha => by rw [← e]; exact (bind_cut ha).2
theorem st_aI {α : Type} {S : AS} {κ k : Nat} {i : Int32} {F : Int32 → Option α} : Le ((aI S κ (some k) i).bind F) (F (sI S k i.toNatClampNeg)) := fun _ ha => (bind_cut ha).2
theorem st_aIe {α : Type} {S : AS} {κ k n : Nat} {i : Int32} {F : Int32 → Option α} {v : Int32} (hi : i.toNatClampNeg = n) (e : sI S k n = v) : Le ((aI S κ (some k) i).bind F) (F v) := fun _ ha => by rw [← e, ← hi]; exact (bind_cut ha).2
theorem st_aR {α : Type} {S : AS} {κ k : Nat} {i : Int32} {F : Option Nat → Option α} : Le ((aR S κ (some k) i).bind F) (F (sR S k i.toNatClampNeg)) := fun _ ha => (bind_cut ha).2
theorem st_aRe {α : Type} {S : AS} {κ k n : Nat} {i : Int32} {F : Option Nat → Option α} {v : Option Nat} (hi : i.toNatClampNeg = n) (e : sR S k n = v) : Le ((aR S κ (some k) i).bind F) (F v) := fun _ ha => by rw [← e, ← hi]; exact (bind_cut ha).2
theorem st_aN {α : Type} {S : AS} {k : Nat} {F : Int32 → Option α} : Le ((aN S (some k)).bind F) (F (Int32.ofNat (sL S k))) := fun _ ha => (bind_cut ha).2
theorem st_pI {α : Type} {S : AS} {κ j k : Nat} {v : Int32} {F : AS → Option α} : Le ((pI S κ j (some k) v).bind F) (F (wI S k j v)) := fun _ ha => (bind_cut ha).2
theorem st_pZ {α : Type} {S : AS} {κ j k : Nat} {v : Int32} {F : AS → Option α} : Le ((pZ S κ j (some k) v).bind F) (F (wI S k j v)) := fun _ ha => (bind_cut ha).2
theorem st_pR {α : Type} {S : AS} {κ j k : Nat} {v : Option Nat} {F : AS → Option α} : Le ((pR S κ j (some k) v).bind F) (F (wR S k j v)) := fun _ ha => (bind_cut ha).2
theorem st_bI {α : Type} {S : AS} {k : Nat} {i v : Int32} {F : AS → Option α} : Le ((bI S (some k) i v).bind F) (F (wI S k i.toNatClampNeg v)) := fun _ ha => (bind_cut ha).2
theorem st_bZ {α : Type} {S : AS} {k : Nat} {i v : Int32} {F : AS → Option α} : Le ((bZ S (some k) i v).bind F) (F (wI S k i.toNatClampNeg v)) := fun _ ha => (bind_cut ha).2
theorem st_bIe {α : Type} {S : AS} {k n : Nat} {i v : Int32} {F : AS → Option α} (hi : i.toNatClampNeg = n) : Le ((bI S (some k) i v).bind F) (F (wI S k n v)) := fun _ ha => by rw [← hi]; exact (bind_cut ha).2
theorem st_bZe {α : Type} {S : AS} {k n : Nat} {i v : Int32} {F : AS → Option α} (hi : i.toNatClampNeg = n) : Le ((bZ S (some k) i v).bind F) (F (wI S k n v)) := fun _ ha => by rw [← hi]; exact (bind_cut ha).2
theorem st_bR {α : Type} {S : AS} {κ lo hi k a : Nat} {i : Int32} {F : AS → Option α} : Le ((bR S κ lo hi (some k) i (some a)).bind F) (F (wR S k i.toNatClampNeg (some a))) := fun _ ha => (bind_cut ha).2
theorem st_nA {α : Type} {S : AS} {κ : Nat} {n : Int32} {F : AS → Option α} : Le ((nA S κ n).bind F) (F (wN S κ n.toNatClampNeg n.toNatClampNeg)) := fun _ ha => (bind_cut ha).2
theorem st_rv {α : Type} {S : AS} {κ : Nat} {x : Option Nat} {F : Unit → Option α} : Le ((kr_rv S κ x).bind F) (F ()) := fun _ ha => by
  cases x with
  | none => cases ha
  | some k => exact (bind_cut ha).2
theorem st_cc {α : Type} {S : AS} {κ : Nat} {x : Option Nat} {F : Unit → Option α} : Le ((kr_cc S κ x).bind F) (F ()) := fun _ ha => (bind_cut ha).2
theorem st_ac {α : Type} {S : AS} {x : Option Nat} {F : Unit → Option α} : Le ((kr_ac S x).bind F) (F ()) := fun _ ha => (bind_cut ha).2
theorem st_z {α : Type} {v : Int32} {F : Unit → Option α} : Le ((kr_z v).bind F) (F ()) := fun _ ha => (bind_cut ha).2
/-- bounds, where they are wanted -/
theorem l_aI {α β : Type} {S : AS} {κ k : Nat} {i : Int32} {F : Int32 → Option α} {y : Option β} {Q : α → β → Prop} (h : 0 ≤ i.toInt → i.toInt < (sL S k : Int) → H2 (F (sI S k i.toNatClampNeg)) y Q) : H2 ((aI S κ (some k) i).bind F) y Q := fun a b ha hb => by
  obtain ⟨c, e⟩ := bind_cut ha
  exact h c.2.1 c.2.2 a b e hb
theorem m_aI {α β : Type} {S : AS} {κ k : Nat} {i : Int32} {F : Int32 → Option β} {x : Option α} {Q : α → β → Prop} (h : 0 ≤ i.toInt → i.toInt < (sL S k : Int) → H2 x (F (sI S k i.toNatClampNeg)) Q) : H2 x ((aI S κ (some k) i).bind F) Q := fun a b ha hb => by
  obtain ⟨c, e⟩ := bind_cut hb
  exact h c.2.1 c.2.2 a b ha e
theorem m_bI {α β : Type} {S : AS} {k : Nat} {i v : Int32} {F : AS → Option β} {x : Option α} {Q : α → β → Prop} (h : 0 ≤ i.toInt → i.toInt < (sL S k : Int) → H2 x (F (wI S k i.toNatClampNeg v)) Q) : H2 x ((bI S (some k) i v).bind F) Q := fun a b ha hb => by
  obtain ⟨c, e⟩ := bind_cut hb
  exact h c.2.1 c.2.2 a b ha e
/-- calls -/
theorem st_b2 {α β : Type} {x : Option (α × AS)} {v : α} {S' : AS} {F : α → AS → Option β} (e : x = some (v, S')) : Le (kr_b2 x F) (F v S') := fun a ha => by rw [e] at ha; exact ha
theorem st_bx {α β : Type} {x : Option ((α ⊕ String) × AS)} {v : α} {S' : AS} {F : α → AS → Option ((β ⊕ String) × AS)} (e : x = some (.inl v, S')) : Le (kr_bx x F) (F v S') := fun a ha => by rw [e] at ha; exact ha
theorem st_bxe {α β : Type} {x : Option ((α ⊕ String) × AS)} {v : String} {S' : AS} {F : α → AS → Option ((β ⊕ String) × AS)} (e : x = some (.inr v, S')) : Le (kr_bx x F) (some (.inr v, S')) := fun a ha => by rw [e] at ha; exact ha
theorem st_bd {α β : Type} {x : Option α} {v : α} {F : α → Option β} (e : x = some v) : Le (x.bind F) (F v) := fun a ha => by rw [e] at ha; exact ha
theorem l_b2 {α γ β : Type} {x : Option (α × AS)} {F : α → AS → Option γ} {y : Option β} {Q : γ → β → Prop} (h : ∀ v S', x = some (v, S') → H2 (F v S') y Q) : H2 (kr_b2 x F) y Q := fun a b ha hb => by
  cases e : x with
  | none => rw [e] at ha; cases ha
  | some q =>
    rw [e] at ha
    exact h q.1 q.2 e a b ha hb
theorem m_b2 {α γ β : Type} {x : Option γ} {y : Option (α × AS)} {F : α → AS → Option β} {Q : γ → β → Prop} (h : ∀ v S', y = some (v, S') → H2 x (F v S') Q) : H2 x (kr_b2 y F) Q := fun a b ha hb => by
  cases e : y with
  | none => rw [e] at hb; cases hb
  | some q =>
    rw [e] at hb
    exact h q.1 q.2 e a b ha hb
theorem l_bd {α γ β : Type} {x : Option α} {F : α → Option γ} {y : Option β} {Q : γ → β → Prop} (h : ∀ v, x = some v → H2 (F v) y Q) : H2 (x.bind F) y Q := fun a b ha hb => by
  cases e : x with
  | none => rw [e] at ha; cases ha
  | some q =>
    rw [e] at ha
    exact h q e a b ha hb
theorem m_bd {α γ β : Type} {x : Option γ} {y : Option α} {F : α → Option β} {Q : γ → β → Prop} (h : ∀ v, y = some v → H2 x (F v) Q) : H2 x (y.bind F) Q := fun a b ha hb => by
  cases e : y with
  | none => rw [e] at hb; cases hb
  | some q =>
    rw [e] at hb
    exact h q e a b ha hb
theorem l_bx {α γ β : Type} {x : Option ((α ⊕ String) × AS)} {F : α → AS → Option ((γ ⊕ String) × AS)} {y : Option β} {Q : (γ ⊕ String) × AS → β → Prop} (h : ∀ v S', x = some (.inl v, S') → H2 (F v S') y Q) (g : ∀ v S', x = some (.inr v, S') → H2 (some (.inr v, S')) y Q) : H2 (kr_bx x F) y Q := fun a b ha hb => by
  match x, ha, h, g with
  | some (.inl v, S'), ha, h, _ => exact h v S' rfl a b ha hb
  | some (.inr v, S'), ha, _, g => exact g v S' rfl a b ha hb
/-- both at once -/
theorem h2_22 {α γ β δ : Type} {x : Option (α × AS)} {y : Option (γ × AS)} {F : α → AS → Option β} {G : γ → AS → Option δ} {P : α × AS → γ × AS → Prop} {Q : β → δ → Prop} (hc : H2 x y P) (h : ∀ v S' u m', P (v, S') (u, m') → H2 (F v S') (G u m') Q) : H2 (kr_b2 x F) (kr_b2 y G) Q :=
  l_b2 (fun v S' e => m_b2 (fun u m' f => h v S' u m' (hc _ _ e f)))
theorem h2_2d {α γ β δ : Type} {x : Option (α × AS)} {y : Option γ} {F : α → AS → Option β} {G : γ → Option δ} {P : α × AS → γ → Prop} {Q : β → δ → Prop} (hc : H2 x y P) (h : ∀ v S' u, P (v, S') u → H2 (F v S') (G u) Q) : H2 (kr_b2 x F) (y.bind G) Q :=
  l_b2 (fun v S' e => m_bd (fun u f => h v S' u (hc _ _ e f)))
theorem h2_dd {α γ β δ : Type} {x : Option α} {y : Option γ} {F : α → Option β} {G : γ → Option δ} {P : α → γ → Prop} {Q : β → δ → Prop} (hc : H2 x y P) (h : ∀ v u, P v u → H2 (F v) (G u) Q) : H2 (x.bind F) (y.bind G) Q :=
  l_bd (fun v e => m_bd (fun u f => h v u (hc _ _ e f)))
theorem h2_d2 {α γ β δ : Type} {x : Option α} {y : Option (γ × AS)} {F : α → Option β} {G : γ → AS → Option δ} {P : α → γ × AS → Prop} {Q : β → δ → Prop} (hc : H2 x y P) (h : ∀ v u m', P v (u, m') → H2 (F v) (G u m') Q) : H2 (x.bind F) (kr_b2 y G) Q :=
  l_bd (fun v e => m_b2 (fun u m' f => h v u m' (hc _ _ e f)))
theorem h2_xd {α γ β δ : Type} {x : Option ((α ⊕ String) × AS)} {y : Option γ} {F : α → AS → Option ((β ⊕ String) × AS)} {G : γ → Option δ} {P : (α ⊕ String) × AS → γ → Prop} {Q : (β ⊕ String) × AS → δ → Prop} (hc : H2 x y P) (h : ∀ v S' u, P (.inl v, S') u → H2 (F v S') (G u) Q) (g : ∀ v S' u, P (.inr v, S') u → H2 (some (.inr v, S')) (G u) Q) : H2 (kr_bx x F) (y.bind G) Q :=
  l_bx (fun v S' e => m_bd (fun u f => h v S' u (hc _ _ e f))) (fun v S' e => m_bd (fun u f => g v S' u (hc _ _ e f)))
theorem h2_x2 {α γ β δ : Type} {x : Option ((α ⊕ String) × AS)} {y : Option (γ × AS)} {F : α → AS → Option ((β ⊕ String) × AS)} {G : γ → AS → Option δ} {P : (α ⊕ String) × AS → γ × AS → Prop} {Q : (β ⊕ String) × AS → δ → Prop} (hc : H2 x y P) (h : ∀ v S' u m', P (.inl v, S') (u, m') → H2 (F v S') (G u m') Q) (g : ∀ v S' u m', P (.inr v, S') (u, m') → H2 (some (.inr v, S')) (G u m') Q) : H2 (kr_bx x F) (kr_b2 y G) Q :=
  l_bx (fun v S' e => m_b2 (fun u m' f => h v S' u m' (hc _ _ e f))) (fun v S' e => m_b2 (fun u m' f => g v S' u m' (hc _ _ e f)))
/-- lists: the place of an element, the size -/
def lel (S : AS) (l i : Nat) : Nat := (sR S ((sR S l 1).getD 0) i).getD 0
theorem lel_u (S : AS) (l i : Nat) : lel S l i = (sR S ((sR S l 1).getD 0) i).getD 0 := rfl
end
section
/-! ===== one program alone: what holds of its answer if it answers ===== -/
def Hp {α : Type} (x : Option α) (Q : α → Prop) : Prop := ∀ a, x = some a → Q a
theorem p_of {α : Type} {x x' : Option α} {Q : α → Prop} (h : Le x x') (g : Hp x' Q) : Hp x Q := fun a ha => g a (h a ha)
theorem p_ret {α : Type} {a : α} {Q : α → Prop} (h : Q a) : Hp (some a) Q := fun a' ha => by
  cases ha
  exact h
theorem p_0 {α : Type} {Q : α → Prop} : Hp none Q := fun _ ha => nomatch ha
theorem p_mono {α : Type} {x : Option α} {P Q : α → Prop} (h : Hp x P) (g : ∀ a, P a → Q a) : Hp x Q := fun a ha => g a (h a ha)
theorem p_if {α : Type} {c : Prop} [Decidable c] {x1 x0 : Option α} {Q : α → Prop} (h1 : c → Hp x1 Q) (h0 : ¬ c → Hp x0 Q) : Hp (if c then x1 else x0) Q := by
  by_cases h : c
  · rw [if_pos h]; exact h1 h
  · rw [if_neg h]; exact h0 h
theorem p_b2 {α β : Type} {x : Option (α × AS)} {F : α → AS → Option β} {P : α × AS → Prop} {Q : β → Prop} (hc : Hp x P) (h : ∀ v S', P (v, S') → Hp (F v S') Q) : Hp (kr_b2 x F) Q := fun a ha => by
  cases e : x with
  | none => rw [e] at ha; cases ha
  | some q =>
    rw [e] at ha
    exact h q.1 q.2 (hc _ e) a ha
theorem p_bd {α β : Type} {x : Option α} {F : α → Option β} {P : α → Prop} {Q : β → Prop} (hc : Hp x P) (h : ∀ v, P v → Hp (F v) Q) : Hp (x.bind F) Q := fun a ha => by
  cases e : x with
  | none => rw [e] at ha; cases ha
  | some q =>
    rw [e] at ha
    exact h q (hc _ e) a ha
theorem p_aI {α : Type} {S : AS} {κ k : Nat} {i : Int32} {F : Int32 → Option α} {Q : α → Prop} (h : 0 ≤ i.toInt → i.toInt < (sL S k : Int) → Hp (F (sI S k i.toNatClampNeg)) Q) : Hp ((aI S κ (some k) i).bind F) Q := fun a ha => by
  obtain ⟨c, e⟩ := bind_cut ha
  exact h c.2.1 c.2.2 a e
theorem p_bI {α : Type} {S : AS} {k : Nat} {i v : Int32} {F : AS → Option α} {Q : α → Prop} (h : 0 ≤ i.toInt → i.toInt < (sL S k : Int) → Hp (F (wI S k i.toNatClampNeg v)) Q) : Hp ((bI S (some k) i v).bind F) Q := fun a ha => by
  obtain ⟨c, e⟩ := bind_cut ha
  exact h c.2.1 c.2.2 a e
/-- a pure one: used as a step -/
theorem l_p2 {α γ β : Type} {x : Option (α × AS)} {F : α → AS → Option γ} {y : Option β} {P : α × AS → Prop} {Q : γ → β → Prop} (hc : Hp x P) (h : ∀ v S', P (v, S') → H2 (F v S') y Q) : H2 (kr_b2 x F) y Q := l_b2 (fun v S' e => h v S' (hc _ e))
theorem m_p2 {α γ β : Type} {x : Option γ} {y : Option (α × AS)} {F : α → AS → Option β} {P : α × AS → Prop} {Q : γ → β → Prop} (hc : Hp y P) (h : ∀ v S', P (v, S') → H2 x (F v S') Q) : H2 x (kr_b2 y F) Q := m_b2 (fun v S' e => h v S' (hc _ e))
theorem l_pd {α γ β : Type} {x : Option α} {F : α → Option γ} {y : Option β} {P : α → Prop} {Q : γ → β → Prop} (hc : Hp x P) (h : ∀ v, P v → H2 (F v) y Q) : H2 (x.bind F) y Q := l_bd (fun v e => h v (hc _ e))
theorem m_pd {α γ β : Type} {x : Option γ} {y : Option α} {F : α → Option β} {P : α → Prop} {Q : γ → β → Prop} (hc : Hp y P) (h : ∀ v, P v → H2 x (F v) Q) : H2 x (y.bind F) Q := m_bd (fun v e => h v (hc _ e))
theorem l_b2x {α γ β : Type} {x : Option ((α ⊕ String) × AS)} {F : α → AS → Option ((γ ⊕ String) × AS)} {y : Option β} {v : α} {S' : AS} {Q : (γ ⊕ String) × AS → β → Prop} (hc : Hp x (fun q => q = (.inl v, S'))) (h : H2 (F v S') y Q) : H2 (kr_bx x F) y Q := l_bx (fun v1 S1 e => by
  obtain ⟨e1, e2⟩ := Prod.mk.inj (hc _ e)
  cases e1
  cases e2
  exact h) (fun v1 S1 e => by
  obtain ⟨e1, e2⟩ := Prod.mk.inj (hc _ e)
  cases e1)
/-! ===== where the fixed rows lie ===== -/
def k4t (j : Nat) : Option Nat := [none, some 5, some 8, some 9, some 10, none, some 17, some 18, some 19, none, some 20, some 21, some 22, some 23, some 24, some 25, some 27, some 28].getD j none
def mft (j : Nat) : Option Nat := [none, some 58, some 59, some 60, some 61, some 62, some 63, some 64, some 65, none, some 66, some 67, some 68, some 69, some 70, some 71, some 72, some 73, some 74, none, some 75, some 76, some 77, some 78, some 79, some 80, some 81, some 82, some 83, some 84, none, some 85, some 86, some 87, some 88, some 89, some 90, some 91, some 92, none, some 93, some 94, some 95, some 96, some 97, some 98, none, some 99, some 100, some 101, some 102, some 103, none, some 104, some 105, some 106, some 107, some 108, some 109, some 110, none, none, none, none, some 111, some 112, some 113, some 114, some 115, some 116, none, some 117, some 118, some 119, some 120, some 121, some 122, none, some 123, some 124, some 125].getD j none
def MF (m : AS) : Prop := ∀ j p, mft j = some p → sR m 57 j = some p
def K4F (S : AS) : Prop := (∀ j p, k4t j = some p → sR S 4 j = some p) ∧ sR S 5 0 = some 6 ∧ sR S 5 1 = some 7 ∧ sR S 25 5 = some 26
theorem mft_ok : (List.range 81).all (fun j => match mft j with | none => true | some p => ft 100 j == some (100 + j) && sg (100 + j) == some p) = true := by decide +kernel
theorem k4t_ok : (List.range 18).all (fun j => match k4t j with | none => true | some p => match ft 1 j with | none => false | some τ => sg τ == some p) = true := by decide +kernel
theorem MF_of {T : Nat → Nat} {m : AS} (hT : TI T m) : MF m := fun j p h => by
  have hj : j < 81 := gd_lt h
  have e := List.all_eq_true.mp mft_ok j (List.mem_range.mpr hj)
  simp only [h, Bool.and_eq_true, beq_iff_eq] at e
  exact (md_at hT e.1 e.2).1
theorem K4F_of {T : Nat → Nat} {S : AS} (hT : TI T S) : K4F S := by
  refine ⟨fun j p h => ?_, ?_, ?_, ?_⟩
  · have hj : j < 18 := gd_lt h
    have e := List.all_eq_true.mp k4t_ok j (List.mem_range.mpr hj)
    simp only [h] at e
    cases c : ft 1 j with
    | none => rw [c] at e; cases e
    | some τ =>
      rw [c] at e
      exact (kd_ty hT c (beq_iff_eq.mp e)).1
  · obtain ⟨-, t, -⟩ := kd_ty hT (j := 1) (p := 5) rfl rfl
    obtain ⟨k, e, h1, h2⟩ := hT.t2 5 0 3 (by rw [t]; rfl)
    have := hT.t7 k 6 (by rw [h1]; rfl)
    rw [e, this]
  · obtain ⟨-, t, -⟩ := kd_ty hT (j := 1) (p := 5) rfl rfl
    obtain ⟨k, e, h1, h2⟩ := hT.t2 5 1 4 (by rw [t]; rfl)
    have := hT.t7 k 7 (by rw [h1]; rfl)
    rw [e, this]
  · obtain ⟨-, t, -⟩ := kd_ty hT (j := 15) (p := 25) rfl rfl
    obtain ⟨k, e, h1, h2⟩ := hT.t2 25 5 11 (by rw [t]; rfl)
    have := hT.t7 k 26 (by rw [h1]; rfl)
    rw [e, this]
/-- the six persons, the four services -/
def PF (S : AS) : Prop := (∀ i, i < 6 → sR S 8 i = some (29 + 4 * i) ∧ sR S (29 + 4 * i) 1 = some (30 + 4 * i) ∧ sR S (29 + 4 * i) 2 = some (31 + 4 * i) ∧ sR S (29 + 4 * i) 9 = some (32 + 4 * i) ∧ sI S (29 + 4 * i) 0 = Int32.ofNat i) ∧ (∀ i, i < 4 → sR S 21 i = some (53 + i))
theorem z_PF : PF kr_Z := by
  unfold PF
  decide +kernel
/-- types of the fixed places of the class -/
theorem kt4 {T : Nat → Nat} {S : AS} (hT : TI T S) : T 4 = 1 ∧ T 5 = 2 ∧ T 6 = 3 ∧ T 7 = 4 ∧ T 8 = 5 ∧ T 9 = 6 ∧ T 10 = 7 ∧ T 20 = 8 ∧ T 21 = 9 ∧ T 25 = 10 ∧ T 26 = 11 ∧ T 28 = 12 := by
  have t5 := (kd_ty hT (j := 1) (p := 5) rfl rfl).2.1
  have t25 := (kd_ty hT (j := 15) (p := 25) rfl rfl).2.1
  refine ⟨hT.t9.2.2.2.2.1, t5, ?_, ?_, (kd_ty hT (j := 2) (p := 8) rfl rfl).2.1, (kd_ty hT (j := 3) (p := 9) rfl rfl).2.1, (kd_ty hT (j := 4) (p := 10) rfl rfl).2.1, (kd_ty hT (j := 10) (p := 20) rfl rfl).2.1, (kd_ty hT (j := 11) (p := 21) rfl rfl).2.1, t25, ?_, (kd_ty hT (j := 17) (p := 28) rfl rfl).2.1⟩
  · obtain ⟨k, e, h1, h2⟩ := hT.t2 5 0 3 (by rw [t5]; rfl)
    have := hT.t7 k 6 (by rw [h1]; rfl)
    rw [← this]
    exact h1
  · obtain ⟨k, e, h1, h2⟩ := hT.t2 5 1 4 (by rw [t5]; rfl)
    have := hT.t7 k 7 (by rw [h1]; rfl)
    rw [← this]
    exact h1
  · obtain ⟨k, e, h1, h2⟩ := hT.t2 25 5 11 (by rw [t25]; rfl)
    have := hT.t7 k 26 (by rw [h1]; rfl)
    rw [← this]
    exact h1
theorem kt_P {T : Nat → Nat} {S : AS} (hT : TI T S) (h : PF S) {i : Nat} (hi : i < 6) : T (29 + 4 * i) = 13 ∧ T (30 + 4 * i) = 14 ∧ T (31 + 4 * i) = 15 ∧ T (32 + 4 * i) = 16 := by
  obtain ⟨a, b, c, d, -⟩ := h.1 i hi
  have t8 := (kt4 hT).2.2.2.2.1
  have r : ∀ {k j τ p : Nat}, ft (T k) j = some τ → sR S k j = some p → T p = τ := fun {k j τ p} e f => by
    obtain ⟨x, e', h1, h2⟩ := hT.t2 k j τ e
    rw [f] at e'
    cases e'
    exact h1
  have t : T (29 + 4 * i) = 13 := r (k := 8) (j := i) (by
    rw [t8]
    match i, hi with
    | 0, _ => rfl
    | 1, _ => rfl
    | 2, _ => rfl
    | 3, _ => rfl
    | 4, _ => rfl
    | 5, _ => rfl) a
  exact ⟨t, r (by rw [t]; rfl) b, r (by rw [t]; rfl) c, r (by rw [t]; rfl) d⟩
theorem kt_S {T : Nat → Nat} {S : AS} (hT : TI T S) (h : PF S) {i : Nat} (hi : i < 4) : T (53 + i) = 17 := by
  have t9 := (kt4 hT).2.2.2.2.2.2.2.2.1
  obtain ⟨x, e', h1, h2⟩ := hT.t2 21 i 17 (by
    rw [t9]
    match i, hi with
    | 0, _ => rfl
    | 1, _ => rfl
    | 2, _ => rfl
    | 3, _ => rfl)
  rw [h.2 i hi] at e'
  cases e'
  exact h1
/-- the elements of a list -/
theorem lel_at {T : Nat → Nat} {S : AS} (hT : TI T S) {q i : Nat} (hq : q < 7) (hi : (i : Int) < (sI S (lp q) 2).toInt) : T (lel S (lp q) i) = el q ∧ sR S ((sR S (lp q) 1).getD 0) i = some (lel S (lp q) i) := by
  obtain ⟨l1, d, l2, l3, l4, l5, l6⟩ := hT.t6 q hq
  obtain ⟨k, e, h1, h2⟩ := l6 i hi
  unfold lel
  rw [l2]
  show T ((sR S d i).getD 0) = _ ∧ sR S d i = some ((sR S d i).getD 0)
  rw [e]
  exact ⟨h1, rfl⟩
/-- asking a list -/
theorem st_size {α : Type} {S : AS} {l : Nat} {F : Int32 → AS → Option α} : Le (kr_b2 (f_AL_size S (some l)) F) (F (sI S l 2) S) := fun a ha => by
  unfold f_AL_size at ha
  by_cases c : sK S l = 10
  · rw [ti_gI c] at ha
    exact ha
  · have : gI S 10 2 (some l) = none := by
      unfold gI
      rw [Option.bind_some, if_neg c]
    rw [this] at ha
    cases ha
theorem p_get {S : AS} {l : Nat} {i : Int32} : Hp (f_AL_get S (some l) i) (fun q => q = (sR S ((sR S l 1).getD 0) i.toNatClampNeg, S) ∧ 0 ≤ i.toInt ∧ i.toInt < (sI S l 2).toInt) := by
  unfold f_AL_get
  refine p_of st_gI ?_
  refine p_b2 (P := fun q => q.2 = S ∧ 0 ≤ i.toInt ∧ i.toInt < (sI S l 2).toInt) ?_ (fun v S' p => ?_)
  · unfold f_OB_checkIndex f_PR_checkIndex f_PR_checkIndex_B9
    refine p_b2 (P := fun q => q.2 = S ∧ 0 ≤ i.toInt ∧ i.toInt < (sI S l 2).toInt) (p_if (fun _ => p_0) (fun c => p_if (fun c2 => p_ret ⟨rfl, ?_, Int32.lt_iff_toInt_lt.mp c2⟩) (fun _ => p_0))) (fun v S' p => p_ret p)
    exact Int.not_lt.mp (fun q => c (lt0.mpr q))
  · obtain ⟨e, p⟩ := p
    have e : S' = S := e
    rw [e]
    refine p_of st_rv ?_
    refine p_b2 (P := fun q => q = (sR S ((sR S l 1).getD 0) i.toNatClampNeg, S)) ?_ (fun v S' p2 => ?_)
    · unfold f_AL_elementData
      refine p_of st_gR ?_
      cases c : sR S l 1 with
      | none => exact fun a ha => nomatch ha
      | some d => exact p_of st_aR (p_ret rfl)
    · have p2 : (v, S') = (sR S ((sR S l 1).getD 0) i.toNatClampNeg, S) := p2
      obtain ⟨rfl, rfl⟩ := Prod.mk.inj p2
      exact p_ret ⟨rfl, p⟩
theorem st_get {α : Type} {S : AS} {l n p : Nat} {i : Int32} {F : Option Nat → AS → Option α} (hi : i.toNatClampNeg = n) (e : sR S ((sR S l 1).getD 0) n = some p) : Le (kr_b2 (f_AL_get S (some l) i) F) (F (some p) S) := fun a ha => by
  cases c : f_AL_get S (some l) i with
  | none => rw [c] at ha; cases ha
  | some q =>
    have z := (p_get _ c).1
    rw [hi, e] at z
    rw [c, z] at ha
    exact ha
/-- ints -/
theorem oi {n : Nat} (h : n < 301) : (Int32.ofNat n).toInt = n := (gl2 n h).1
theorem oc {n : Nat} (h : n < 301) : (Int32.ofNat n).toNatClampNeg = n := (gl2 n h).2
theorem o1 (j : Nat) : Int32.ofNat j + 1 = Int32.ofNat (j + 1) := by rw [Int32.ofNat_add]; rfl
theorem ole {a b : Nat} (ha : a < 301) (hb : b < 301) : Int32.ofNat a ≤ Int32.ofNat b ↔ a ≤ b := by
  rw [Int32.le_iff_toInt_le, oi ha, oi hb]
  omega
theorem oinj {a b : Nat} (ha : a < 301) (hb : b < 301) (h : Int32.ofNat a = Int32.ofNat b) : a = b := by
  have := congrArg Int32.toNatClampNeg h
  rw [oc ha, oc hb] at this
  exact this
theorem one0 : ¬ (1 : Int32) = 0 := by decide
end
section
/-! ===== a call's answer on both sides, and the law's wrappers ===== -/
/-- the same answer, or the exception that stands at its place of the throws clause -/
def AN (es : List String) (a : Int32 ⊕ String) (b t : Int32) : Prop := (∃ v, a = .inl v ∧ t = 0 ∧ v = b) ∨ (∃ i e, es[i]? = some e ∧ a = .inr e ∧ t = Int32.ofNat (i + 1))
def eX : String := "java/lang/IndexOutOfBoundsException"
def eA : String := "java/lang/IllegalArgumentException"
def eS : String := "java/lang/IllegalStateException"
theorem AN_v {es : List String} {b t : Int32} (h : t = 0) : AN es (.inl b) b t := Or.inl ⟨b, rfl, h, rfl⟩
theorem AN_e {es : List String} {b t : Int32} {e : String} (i : Nat) (h : es[i]? = some e) (ht : t = Int32.ofNat (i + 1)) : AN es (.inr e) b t := Or.inr ⟨i, e, h, rfl, ht⟩
/-- what the wrapper leaves -/
def WA (P : AS → AS → Prop) (a : Int32 × AS) (b : Int32 × AS) : Prop := sI b.2 57 82 = a.1 ∧ (a.1 = 0 → sJ a.2 126 0 = b.1.toInt64) ∧ P a.2 b.2
def WB (P : AS → AS → Prop) (a : Int32 × AS) (b : Int32 × AS) : Prop := sI b.2 57 82 = a.1 ∧ (a.1 = 0 → sJ a.2 126 0 = if b.1 = 0 then 0 else 1) ∧ P a.2 b.2
theorem l_bJ {α β : Type} {S : AS} {v : Int64} {F : AS → Option α} : Le ((bJ S (some 126) (0 : Int32) v).bind F) (F (wJ S 126 0 v)) := fun _ ha => (bind_cut ha).2
theorem bh_ok {α β γ : Type} {x : Option ((α ⊕ String) × AS)} {G : String → AS → Option β} {F : α → AS → Option β} {y : Option γ} {Q : β → γ → Prop} (hl : ∀ v S', x = some (.inl v, S') → H2 (F v S') y Q) (hr : ∀ e S', x = some (.inr e, S') → H2 (G e S') y Q) : H2 (kr_bh x G F) y Q := fun a b ha hb => by
  match x, ha, hl, hr with
  | some (.inl v, S'), ha, hl, _ => exact hl v S' rfl a b ha hb
  | some (.inr v, S'), ha, _, hr => exact hr v S' rfl a b ha hb
theorem W1 {e1 : String} {S : AS} {x : Option ((Int32 ⊕ String) × AS)} {y : Option (Int32 × AS)} {P : AS → AS → Prop} (h : H2 x y (fun a b => AN [e1] a.1 b.1 (sI b.2 57 82) ∧ P a.2 b.2)) (hP : ∀ S' v m', P S' m' → P (wJ S' 126 0 v) m') :
    H2 ((kr_rv S 22 (some 4)).bind fun _ => kr_bh x (fun E S2 => if E = e1 then some ((1 : Int32), S2) else none) fun v3 S2 => (bJ S2 (some 126) (0 : Int32) v3.toInt64).bind fun S4 => some ((0 : Int32), S4)) y (WA P) := by
  refine l_of st_rv (bh_ok (fun v S' e => ?_) (fun v S' e => ?_))
  · refine l_of (l_bJ (β := Unit)) (fun a b ha hb => ?_)
    cases ha
    obtain ⟨g, p⟩ := h _ _ e hb
    rcases g with ⟨v', q1, q2, q3⟩ | ⟨i, e', q1, q2, q3⟩
    · cases q1
      refine ⟨q2, fun _ => ?_, hP _ _ _ p⟩
      rw [sJ_wJ, q3]
    · cases q2
  · refine fun a b ha hb => ?_
    obtain ⟨g, p⟩ := h _ _ e hb
    rcases g with ⟨v', q1, q2, q3⟩ | ⟨i, e', q1, q2, q3⟩
    · cases q1
    · cases q2
      match i, q1, q3 with
      | 0, q1, q3 =>
        cases q1
        rw [if_pos rfl] at ha
        cases ha
        exact ⟨q3, fun q => absurd (show (1 : Int32) = 0 from q) (by decide), p⟩
      | i + 1, q1, _ => cases q1
theorem W2 {e1 e2 : String} {S : AS} {x : Option ((Int32 ⊕ String) × AS)} {y : Option (Int32 × AS)} {P : AS → AS → Prop} (n12 : e2 ≠ e1) (h : H2 x y (fun a b => AN [e1, e2] a.1 b.1 (sI b.2 57 82) ∧ P a.2 b.2)) (hP : ∀ S' v m', P S' m' → P (wJ S' 126 0 v) m') :
    H2 ((kr_rv S 22 (some 4)).bind fun _ => kr_bh x (fun E S2 => if E = e1 then some ((1 : Int32), S2) else if E = e2 then some ((2 : Int32), S2) else none) fun v3 S2 => (bJ S2 (some 126) (0 : Int32) v3.toInt64).bind fun S4 => some ((0 : Int32), S4)) y (WA P) := by
  refine l_of st_rv (bh_ok (fun v S' e => ?_) (fun v S' e => ?_))
  · refine l_of (l_bJ (β := Unit)) (fun a b ha hb => ?_)
    cases ha
    obtain ⟨g, p⟩ := h _ _ e hb
    rcases g with ⟨v', q1, q2, q3⟩ | ⟨i, e', q1, q2, q3⟩
    · cases q1
      refine ⟨q2, fun _ => ?_, hP _ _ _ p⟩
      rw [sJ_wJ, q3]
    · cases q2
  · refine fun a b ha hb => ?_
    obtain ⟨g, p⟩ := h _ _ e hb
    rcases g with ⟨v', q1, q2, q3⟩ | ⟨i, e', q1, q2, q3⟩
    · cases q1
    · cases q2
      match i, q1, q3 with
      | 0, q1, q3 =>
        cases q1
        rw [if_pos rfl] at ha
        cases ha
        exact ⟨q3, fun q => absurd (show (1 : Int32) = 0 from q) (by decide), p⟩
      | 1, q1, q3 =>
        cases q1
        rw [if_neg n12, if_pos rfl] at ha
        cases ha
        exact ⟨q3, fun q => absurd (show (2 : Int32) = 0 from q) (by decide), p⟩
      | i + 2, q1, _ => cases q1
theorem W3 {e1 e2 e3 : String} {S : AS} {x : Option ((Int32 ⊕ String) × AS)} {y : Option (Int32 × AS)} {P : AS → AS → Prop} (n12 : e2 ≠ e1) (n13 : e3 ≠ e1) (n23 : e3 ≠ e2) (h : H2 x y (fun a b => AN [e1, e2, e3] a.1 b.1 (sI b.2 57 82) ∧ P a.2 b.2)) (hP : ∀ S' v m', P S' m' → P (wJ S' 126 0 v) m') :
    H2 ((kr_rv S 22 (some 4)).bind fun _ => kr_bh x (fun E S2 => if E = e1 then some ((1 : Int32), S2) else if E = e2 then some ((2 : Int32), S2) else if E = e3 then some ((3 : Int32), S2) else none) fun v3 S2 => (bJ S2 (some 126) (0 : Int32) v3.toInt64).bind fun S4 => some ((0 : Int32), S4)) y (WA P) := by
  refine l_of st_rv (bh_ok (fun v S' e => ?_) (fun v S' e => ?_))
  · refine l_of (l_bJ (β := Unit)) (fun a b ha hb => ?_)
    cases ha
    obtain ⟨g, p⟩ := h _ _ e hb
    rcases g with ⟨v', q1, q2, q3⟩ | ⟨i, e', q1, q2, q3⟩
    · cases q1
      refine ⟨q2, fun _ => ?_, hP _ _ _ p⟩
      rw [sJ_wJ, q3]
    · cases q2
  · refine fun a b ha hb => ?_
    obtain ⟨g, p⟩ := h _ _ e hb
    rcases g with ⟨v', q1, q2, q3⟩ | ⟨i, e', q1, q2, q3⟩
    · cases q1
    · cases q2
      match i, q1, q3 with
      | 0, q1, q3 =>
        cases q1
        rw [if_pos rfl] at ha
        cases ha
        exact ⟨q3, fun q => absurd (show (1 : Int32) = 0 from q) (by decide), p⟩
      | 1, q1, q3 =>
        cases q1
        rw [if_neg n12, if_pos rfl] at ha
        cases ha
        exact ⟨q3, fun q => absurd (show (2 : Int32) = 0 from q) (by decide), p⟩
      | 2, q1, q3 =>
        cases q1
        rw [if_neg n13, if_neg n23, if_pos rfl] at ha
        cases ha
        exact ⟨q3, fun q => absurd (show (3 : Int32) = 0 from q) (by decide), p⟩
      | i + 3, q1, _ => cases q1
theorem W1b {e1 : String} {S : AS} {x : Option ((Int32 ⊕ String) × AS)} {y : Option (Int32 × AS)} {P : AS → AS → Prop} {B : AS → Option Nat → Int32 → Int64 → Option (Int32 × AS)} (hB : ∀ S' v, B S' (some 126) 0 v = (bJ S' (some 126) (0 : Int32) v).bind fun S1 => some ((0 : Int32), S1)) (h : H2 x y (fun a b => AN [e1] a.1 b.1 (sI b.2 57 82) ∧ P a.2 b.2)) (hP : ∀ S' v m', P S' m' → P (wJ S' 126 0 v) m') :
    H2 ((kr_rv S 22 (some 4)).bind fun _ => kr_bh x (fun E S2 => if E = e1 then some ((1 : Int32), S2) else none) fun v4 S3 => if v4 = 0 then B S3 (some 126) (0 : Int32) (0 : Int64) else B S3 (some 126) (0 : Int32) (1 : Int64)) y (WB P) := by
  refine l_of st_rv (bh_ok (fun v S' e => ?_) (fun v S' e => ?_))
  · have fin : ∀ w : Int64, (w = if v = 0 then 0 else 1) → H2 (B S' (some 126) 0 w) y (WB P) := fun w hw => by
      rw [hB]
      refine l_of (l_bJ (β := Unit)) (fun a b ha hb => ?_)
      cases ha
      obtain ⟨g, p⟩ := h _ _ e hb
      rcases g with ⟨v', q1, q2, q3⟩ | ⟨i, e', q1, q2, q3⟩
      · cases q1
        refine ⟨q2, fun _ => ?_, hP _ _ _ p⟩
        rw [sJ_wJ, ← q3]
        exact hw
      · cases q2
    refine l_if (fun c => fin 0 (by rw [if_pos c])) (fun c => fin 1 (by rw [if_neg c]))
  · refine fun a b ha hb => ?_
    obtain ⟨g, p⟩ := h _ _ e hb
    rcases g with ⟨v', q1, q2, q3⟩ | ⟨i, e', q1, q2, q3⟩
    · cases q1
    · cases q2
      match i, q1, q3 with
      | 0, q1, q3 =>
        cases q1
        rw [if_pos rfl] at ha
        cases ha
        exact ⟨q3, fun q => absurd (show (1 : Int32) = 0 from q) (by decide), p⟩
      | i + 1, q1, _ => cases q1
/-- what is asked, refused or not: the class -/
theorem q_win (S : AS) (a lo hi : Int32) : f_K_isWithin S a lo hi = some (if lo ≤ a ∧ a ≤ hi then 1 else 0, S) := by
  unfold f_K_isWithin
  by_cases c1 : a < lo
  · rw [if_pos c1, if_neg (fun q => absurd q.1 (Int32.not_le.mpr c1))]
  · by_cases c2 : hi < a
    · rw [if_neg c1, if_pos c2, if_neg (fun q => absurd q.2 (Int32.not_le.mpr c2))]
    · rw [if_neg c1, if_neg c2, if_pos ⟨Int32.not_lt.mp c1, Int32.not_lt.mp c2⟩]
theorem q_isIn (S : AS) (a lo hi : Int32) : f_M_isIn S a lo hi = some (if lo ≤ a ∧ a ≤ hi then 1 else 0, S) := by
  unfold f_M_isIn
  by_cases c1 : a < lo
  · rw [if_pos c1, if_neg (fun q => absurd q.1 (Int32.not_le.mpr c1))]
  · by_cases c2 : hi < a
    · rw [if_neg c1, if_pos c2, if_neg (fun q => absurd q.2 (Int32.not_le.mpr c2))]
    · rw [if_neg c1, if_neg c2, if_pos ⟨Int32.not_lt.mp c1, Int32.not_lt.mp c2⟩]
def b01 (c : Prop) [Decidable c] : Int32 := if c then 1 else 0
theorem b01_T {c : Prop} [Decidable c] (h : c) : b01 c = 1 := if_pos h
theorem b01_F {c : Prop} [Decidable c] (h : ¬ c) : b01 c = 0 := if_neg h
theorem q_six (S : AS) (a : Int32) : f_M_isSix S a = some (if 0 ≤ a ∧ a ≤ 5 then 1 else 0, S) := by
  unfold f_M_isSix
  rw [q_isIn, b2_s]
  by_cases c : 0 ≤ a ∧ a ≤ 5
  · rw [if_pos c]; rfl
  · rw [if_neg c]; rfl
theorem q_fac (S : AS) (a : Int32) : f_M_isFactor S a = some (if 0 ≤ a ∧ a ≤ 2 then 1 else 0, S) := by
  unfold f_M_isFactor
  rw [q_isIn, b2_s]
  by_cases c : 0 ≤ a ∧ a ≤ 2
  · rw [if_pos c]; rfl
  · rw [if_neg c]; rfl
theorem q_ser (S : AS) (a : Int32) : f_M_isService S a = some (if 0 ≤ a ∧ a ≤ 3 then 1 else 0, S) := by
  unfold f_M_isService
  rw [q_isIn, b2_s]
  by_cases c : 0 ≤ a ∧ a ≤ 3
  · rw [if_pos c]; rfl
  · rw [if_neg c]; rfl
theorem q_Kfac (S : AS) (a : Int32) : f_K_isFactor S a = some (if 0 ≤ a ∧ a ≤ 2 then 1 else 0, S) := by
  unfold f_K_isFactor
  rw [q_win, b2_s]
  by_cases c : 0 ≤ a ∧ a ≤ 2
  · rw [if_pos c]; rfl
  · rw [if_neg c]; rfl
theorem p_may {m : AS} {a : Int32} : Hp (f_M_may m (some 57) a) (fun q => q = (a, wI m 57 82 (if a = 0 then 1 else 0))) := by
  unfold f_M_may
  refine p_if (fun c => ?_) (fun c => ?_)
  · rw [if_pos c]
    first
      | exact p_of st_pI (p_of st_z (p_ret rfl))
      | exact p_of st_pI (p_ret rfl)
      | (unfold f_M_may_B10; exact p_of st_pI (p_of st_z (p_ret rfl)))
  · rw [if_neg c]
    first
      | exact p_of st_pI (p_of st_z (p_ret rfl))
      | exact p_of st_pI (p_ret rfl)
      | (unfold f_M_may_B10; exact p_of st_pI (p_of st_z (p_ret rfl)))
theorem p_mayB {m : AS} {a b : Int32} : Hp (f_M_mayBoth m (some 57) a b) (fun q => q = if a = 0 then (0, wI m 57 82 1) else if b = 0 then (0, wI m 57 82 2) else (1, wI m 57 82 0)) := by
  unfold f_M_mayBoth
  have go : ∀ v : Int32, Hp (f_M_mayBoth_B18 m (some 57) (some 57) v) (fun q => q = (if v = 0 then 1 else 0, wI m 57 82 v)) := fun v => by
    unfold f_M_mayBoth_B18
    refine p_of st_pI (p_of (st_gIe (ti_sI_eq _ _ _ _)) (p_if (fun c => p_ret ?_) (fun c => p_ret ?_)))
    · rw [if_pos c]
    · rw [if_neg c]
  refine p_if (fun c => ?_) (fun c => p_if (fun d => ?_) (fun d => ?_))
  · rw [if_pos c]; exact go 1
  · rw [if_neg c, if_pos d]; exact go 2
  · rw [if_neg c, if_neg d]; exact go 0
end
section
/-! ===== the audit: one entry on either side ===== -/
def AWK (S S' : AS) (k nu : Int32) : Prop := (sR S' = sR S ∧ sL S' = sL S ∧ ∀ p j, p ≠ 5 → p ≠ 6 → p ≠ 7 → sI S' p j = sI S p j) ∧ ((0 ≤ (sI S 5 2).toInt ∧ (sI S 5 2).toInt < 1024 ∧ sI S' 5 2 = sI S 5 2 + 1 ∧ sI S' 6 (sI S 5 2).toNatClampNeg = (1000 : Int32) * k + nu ∧ ∀ i, i ≠ (sI S 5 2).toNatClampNeg → sI S' 6 i = sI S 6 i) ∨ (¬ (0 ≤ (sI S 5 2).toInt ∧ (sI S 5 2).toInt < 1024) ∧ sI S' 5 2 = sI S 5 2 ∧ ∀ i, sI S' 6 i = sI S 6 i))
theorem p_tw {S : AS} {a1 a2 : Int32} : Hp (f_Audit_totalWith S (some 5) a1 a2) (fun q => q.2 = S) := by
  unfold f_Audit_totalWith
  refine p_if (fun _ => p_ret rfl) (fun _ => p_if (fun _ => ?_) (fun _ => p_ret rfl))
  refine p_of st_gR ?_
  cases sR S 5 0 with
  | none => exact fun a ha => nomatch ha
  | some d =>
    refine p_of st_aI (p_of st_val ?_)
    refine p_of st_gR ?_
    cases sR S 5 0 with
    | none => exact fun a ha => nomatch ha
    | some d' =>
      refine p_of st_aI (p_of st_val ?_)
      refine p_of st_gR ?_
      cases sR S 5 1 with
      | none => exact fun a ha => nomatch ha
      | some e => exact p_of st_aI (p_of st_val (p_ret rfl))
theorem p_aw {S : AS} {k nu mi : Int32} (h0 : sR S 5 0 = some 6) (h1 : sR S 5 1 = some 7) : Hp (f_Audit_write S (some 5) k nu mi) (fun S' => AWK S S' k nu) := by
  unfold f_Audit_write
  refine p_of st_gI (p_if (fun c => p_ret ⟨⟨rfl, rfl, fun _ _ _ _ _ => rfl⟩, Or.inr ⟨fun q => absurd (lt0.mp c) (by omega), rfl, fun _ => rfl⟩⟩) (fun c => ?_))
  refine p_of st_gI (p_if (fun c2 => ?_) (fun c2 => p_ret ⟨⟨rfl, rfl, fun _ _ _ _ _ => rfl⟩, Or.inr ⟨fun q => c2 (Int32.lt_iff_toInt_lt.mpr q.2), rfl, fun _ => rfl⟩⟩))
  have b0 : 0 ≤ (sI S 5 2).toInt := Int.not_lt.mp (fun q => c (lt0.mpr q))
  have b1 : (sI S 5 2).toInt < 1024 := Int32.lt_iff_toInt_lt.mp c2
  refine p_of (st_gRe h0) (p_of st_gI (p_of st_bI ?_))
  refine p_of (st_gRe h1) (p_of st_gI (p_of st_bI ?_))
  refine p_of st_gI (p_of st_gI (p_of st_rv ?_))
  refine p_b2 p_tw (fun v S' e => ?_)
  have e : S' = _ := e
  rw [e]
  refine p_of st_pI (p_of st_gI (p_of st_pI (p_ret ?_)))
  refine ⟨⟨rfl, rfl, fun p j n5 n6 n7 => ?_⟩, Or.inl ⟨b0, b1, ?_, ?_, fun i hi => ?_⟩⟩
  · rw [ti_sI_ne (fun q => n5 q.1), ti_sI_ne (fun q => n5 q.1), ti_sI_ne (fun q => n7 q.1), ti_sI_ne (fun q => n6 q.1)]
  · rw [ti_sI_eq, ti_sI_ne (by omega), ti_sI_ne (by omega), ti_sI_ne (by omega)]
  · rw [ti_sI_ne (by omega), ti_sI_ne (by omega), ti_sI_ne (by omega), ti_sI_eq]
  · rw [ti_sI_ne (by omega), ti_sI_ne (by omega), ti_sI_ne (by omega), ti_sI_ne (fun q => hi q.2)]
def AWM (m m' : AS) (k nu : Int32) : Prop := (sR m' = sR m ∧ sL m' = sL m ∧ ∀ p j, p ≠ 123 → p ≠ 124 → p ≠ 125 → ¬ (p = 57 ∧ (j = 77 ∨ j = 81)) → sI m' p j = sI m p j) ∧ 0 ≤ (sI m 57 77).toInt ∧ (sI m 57 77).toInt < (sL m 123 : Int) ∧ sI m' 57 77 = sI m 57 77 + 1 ∧ sI m' 123 (sI m 57 77).toNatClampNeg = k ∧ sI m' 124 (sI m 57 77).toNatClampNeg = nu ∧ ∀ i, i ≠ (sI m 57 77).toNatClampNeg → sI m' 123 i = sI m 123 i ∧ sI m' 124 i = sI m 124 i
theorem p_mw {m : AS} {k nu : Int32} (h : MF m) : Hp (f_M_write m (some 57) k nu) (fun m' => AWM m m' k nu) := by
  unfold f_M_write
  refine p_of (st_gRe (h 78 123 rfl)) (p_of st_gI (p_bI (fun b0 b1 => ?_)))
  refine p_of (st_gRe (h 79 124 rfl)) (p_of (st_gIe (v := sI m 57 77) (ti_sI_ne (by omega))) (p_of st_bI ?_))
  refine p_of (st_gRe (h 80 125 rfl)) (p_of (st_gIe (v := sI m 57 77) ((ti_sI_ne (by omega)).trans (ti_sI_ne (by omega)))) (p_of st_gI (p_of st_bI ?_)))
  refine p_of st_gI (p_of st_pI (p_of st_gI (p_of st_gI (p_of st_val (p_of st_pI (p_ret ?_))))))
  refine ⟨⟨rfl, rfl, fun p j n3 n4 n5 n => ?_⟩, b0, b1, ?_, ?_, ?_, fun i hi => ⟨?_, ?_⟩⟩
  · rw [ti_sI_ne (fun q => n ⟨q.1, Or.inr q.2⟩), ti_sI_ne (fun q => n ⟨q.1, Or.inl q.2⟩), ti_sI_ne (fun q => n5 q.1), ti_sI_ne (fun q => n4 q.1), ti_sI_ne (fun q => n3 q.1)]
  · rw [ti_sI_ne (by omega), ti_sI_eq, ti_sI_ne (by omega), ti_sI_ne (by omega), ti_sI_ne (by omega)]
  · rw [ti_sI_ne (by omega), ti_sI_ne (by omega), ti_sI_ne (by omega), ti_sI_ne (by omega), ti_sI_eq]
  · rw [ti_sI_ne (by omega), ti_sI_ne (by omega), ti_sI_ne (by omega), ti_sI_eq]
  · rw [ti_sI_ne (by omega), ti_sI_ne (by omega), ti_sI_ne (by omega), ti_sI_ne (by omega), ti_sI_ne (fun q => hi q.2)]
  · rw [ti_sI_ne (by omega), ti_sI_ne (by omega), ti_sI_ne (by omega), ti_sI_ne (fun q => hi q.2), ti_sI_ne (by omega)]
/-- the two audits: as many entries (the class keeps 1024), and what each says of sessions -/
def AU (d : Nat) (lv : Nat → Int32) (n : Nat) (S m : AS) : Prop :=
  0 ≤ (sI m 57 77).toInt ∧ (sI m 57 77).toInt ≤ 1200 ∧ (sI S 5 2).toInt = min 1024 ((sI m 57 77).toInt + (d : Int)) ∧
  ((sI m 57 77).toInt + (d : Int) ≤ 1024 →
    (∀ s, s < 60 → ((∃ i : Nat, (i : Int) < (sI S 5 2).toInt ∧ sI S 6 i = Int32.ofNat s) ↔ s < n)) ∧
    (∀ s, s < 60 → ((∃ i : Nat, (i : Int) < (sI S 5 2).toInt ∧ sI S 6 i = Int32.ofNat (1000 + s)) ↔ s < n ∧ lv s ≠ 1)) ∧
    (∀ s, s < n → ∃ i : Nat, (i : Int) < (sI m 57 77).toInt ∧ sI m 124 i = Int32.ofNat s ∧ sI m 123 i = (if lv s = 1 then 0 else 1) ∧ ∀ j : Nat, i < j → (j : Int) < (sI m 57 77).toInt → sI m 124 j = Int32.ofNat s → ¬ sI m 123 j < 2))
theorem k1000 : ∀ k, k < 7 → ∀ nu, nu < 61 → ∀ s, s < 60 → ((1000 : Int32) * Int32.ofNat k + Int32.ofNat nu = Int32.ofNat s ↔ k = 0 ∧ nu = s) ∧ ((1000 : Int32) * Int32.ofNat k + Int32.ofNat nu = Int32.ofNat (1000 + s) ↔ k = 1 ∧ nu = s) := by decide +kernel
theorem AU_w {lv lv' : Nat → Int32} {d n n' k nu : Nat} {S S' m m' : AS} (h : AU d lv n S m) (hL : sL m 123 = 1200) (hn : n ≤ 60) (hn' : n' ≤ 60) (hk : k < 7) (hnu : nu < 61) (a : AWK S S' (Int32.ofNat k) (Int32.ofNat nu)) (b : AWM m m' (Int32.ofNat k) (Int32.ofNat nu))
    (c1 : ∀ s, s < 60 → (s < n' ↔ s < n ∨ (k = 0 ∧ nu = s))) (c2 : ∀ s, s < 60 → (s < n' ∧ lv' s ≠ 1 ↔ (s < n ∧ lv s ≠ 1) ∨ (k = 1 ∧ nu = s)))
    (c3 : ∀ s, s < n' → (lv' s = lv s ∧ s < n ∧ (2 ≤ k ∨ nu ≠ s)) ∨ (nu = s ∧ (k = 0 ∧ lv' s = 1 ∨ k = 1 ∧ lv' s ≠ 1))) : AU d lv' n' S' m' := by
  obtain ⟨h1, h2, h3, h4⟩ := h
  obtain ⟨-, a⟩ := a
  obtain ⟨-, b0, b1, b2, b3, b4, b5⟩ := b
  rw [hL] at b1
  have b1 : (sI m 57 77).toInt < 1200 := b1
  have e2 : (sI m' 57 77).toInt = (sI m 57 77).toInt + 1 := by
    rw [b2, Int32.toInt_add, show (1 : Int32).toInt = 1 from by decide]
    exact bm (by omega) (by omega)
  have eN : ((sI m 57 77).toNatClampNeg : Int) = (sI m 57 77).toInt := natI b0
  rcases a with ⟨a0, a1, a2, a3, a4⟩ | ⟨a0, a2, a3⟩
  · have f2 : (sI S' 5 2).toInt = (sI S 5 2).toInt + 1 := by
      rw [a2, Int32.toInt_add, show (1 : Int32).toInt = 1 from by decide]
      exact bm (by omega) (by omega)
    have fN : ((sI S 5 2).toNatClampNeg : Int) = (sI S 5 2).toInt := natI a0
    have hc : (sI m 57 77).toInt + (d : Int) ≤ 1024 := by omega
    obtain ⟨g1, g2, g3⟩ := h4 hc
    have ex : ∀ v : Int32, (∃ i : Nat, (i : Int) < (sI S' 5 2).toInt ∧ sI S' 6 i = v) ↔ (∃ i : Nat, (i : Int) < (sI S 5 2).toInt ∧ sI S 6 i = v) ∨ (1000 : Int32) * Int32.ofNat k + Int32.ofNat nu = v := fun v => by
      constructor
      · rintro ⟨i, p1, p2⟩
        by_cases c : i = (sI S 5 2).toNatClampNeg
        · rw [c, a3] at p2
          exact Or.inr p2
        · rw [a4 i c] at p2
          exact Or.inl ⟨i, by omega, p2⟩
      · rintro (⟨i, p1, p2⟩ | p2)
        · exact ⟨i, by omega, by rw [a4 i (by omega)]; exact p2⟩
        · exact ⟨(sI S 5 2).toNatClampNeg, by omega, by rw [a3]; exact p2⟩
    refine ⟨by omega, by omega, by omega, fun _ => ⟨fun s hs => ?_, fun s hs => ?_, fun s hs => ?_⟩⟩
    · rw [ex, g1 s hs, (k1000 k hk nu hnu s hs).1, c1 s hs]
    · rw [ex, g2 s hs, (k1000 k hk nu hnu s hs).2, c2 s hs]
    · rcases c3 s hs with ⟨q1, q2, q3⟩ | ⟨q1, q2⟩
      · obtain ⟨i, p1, p2, p3, p4⟩ := g3 s q2
        refine ⟨i, by omega, ?_, ?_, fun j hj hj2 hj3 => ?_⟩
        · rw [(b5 i (by omega)).2]; exact p2
        · rw [(b5 i (by omega)).1, q1]; exact p3
        · by_cases c : j = (sI m 57 77).toNatClampNeg
          · rw [c, b4] at hj3
            have z := oinj (by omega) (by omega) hj3
            rw [c, b3]
            intro q
            have := Int32.lt_iff_toInt_lt.mp q
            rw [oi (by omega), show (2 : Int32).toInt = 2 from by decide] at this
            omega
          · rw [(b5 j c).2] at hj3
            rw [(b5 j c).1]
            exact p4 j hj (by omega) hj3
      · refine ⟨(sI m 57 77).toNatClampNeg, by omega, by rw [b4, q1], ?_, fun j hj hj2 => ?_⟩
        · rw [b3]
          rcases q2 with ⟨rfl, q2⟩ | ⟨rfl, q2⟩
          · rw [if_pos q2]; rfl
          · rw [if_neg q2]; rfl
        · omega
  · exact ⟨by omega, by omega, by rw [a2]; omega, fun q => by omega⟩
theorem AU_k {lv : Nat → Int32} {d n nu : Nat} {S S' m : AS} (h : AU d lv n S m) (hnu : nu < 61) (a : AWK S S' (Int32.ofNat 6) (Int32.ofNat nu)) : AU (d + 1) lv n S' m := by
  obtain ⟨h1, h2, h3, h4⟩ := h
  obtain ⟨-, a⟩ := a
  rcases a with ⟨a0, a1, a2, a3, a4⟩ | ⟨a0, a2, a3⟩
  · have f2 : (sI S' 5 2).toInt = (sI S 5 2).toInt + 1 := by
      rw [a2, Int32.toInt_add, show (1 : Int32).toInt = 1 from by decide]
      exact bm (by omega) (by omega)
    have fN : ((sI S 5 2).toNatClampNeg : Int) = (sI S 5 2).toInt := natI a0
    obtain ⟨g1, g2, g3⟩ := h4 (by omega)
    have ex : ∀ v : Int32, (∃ i : Nat, (i : Int) < (sI S' 5 2).toInt ∧ sI S' 6 i = v) ↔ (∃ i : Nat, (i : Int) < (sI S 5 2).toInt ∧ sI S 6 i = v) ∨ (1000 : Int32) * Int32.ofNat 6 + Int32.ofNat nu = v := fun v => by
      constructor
      · rintro ⟨i, p1, p2⟩
        by_cases c : i = (sI S 5 2).toNatClampNeg
        · rw [c, a3] at p2
          exact Or.inr p2
        · rw [a4 i c] at p2
          exact Or.inl ⟨i, by omega, p2⟩
      · rintro (⟨i, p1, p2⟩ | p2)
        · exact ⟨i, by omega, by rw [a4 i (by omega)]; exact p2⟩
        · exact ⟨(sI S 5 2).toNatClampNeg, by omega, by rw [a3]; exact p2⟩
    refine ⟨h1, h2, by omega, fun _ => ⟨fun s hs => ?_, fun s hs => ?_, g3⟩⟩
    · rw [ex, g1 s hs, (k1000 6 (by omega) nu hnu s hs).1]
      omega
    · rw [ex, g2 s hs, (k1000 6 (by omega) nu hnu s hs).2]
      exact ⟨fun q => q.elim id (fun z => absurd z.1 (by decide)), Or.inl⟩
  · exact ⟨h1, h2, by rw [a2]; omega, fun q => by omega⟩
theorem AU_m {lv : Nat → Int32} {d n nu : Nat} {S m m' : AS} (h : AU (d + 1) lv n S m) (hn : n ≤ 60) (hL : sL m 123 = 1200) (hnu : nu < 61) (b : AWM m m' (Int32.ofNat 6) (Int32.ofNat nu)) : AU d lv n S m' := by
  obtain ⟨h1, h2, h3, h4⟩ := h
  obtain ⟨-, b0, b1, b2, b3, b4, b5⟩ := b
  rw [hL] at b1
  have b1 : (sI m 57 77).toInt < 1200 := b1
  have e2 : (sI m' 57 77).toInt = (sI m 57 77).toInt + 1 := by
    rw [b2, Int32.toInt_add, show (1 : Int32).toInt = 1 from by decide]
    exact bm (by omega) (by omega)
  have eN : ((sI m 57 77).toNatClampNeg : Int) = (sI m 57 77).toInt := natI b0
  refine ⟨by omega, by omega, by omega, fun q => ?_⟩
  obtain ⟨g1, g2, g3⟩ := h4 (by omega)
  refine ⟨g1, g2, fun s hs => ?_⟩
  obtain ⟨i, p1, p2, p3, p4⟩ := g3 s hs
  refine ⟨i, by omega, by rw [(b5 i (by omega)).2]; exact p2, by rw [(b5 i (by omega)).1]; exact p3, fun j hj hj2 hj3 => ?_⟩
  by_cases c : j = (sI m 57 77).toNatClampNeg
  · rw [c, b3]
    decide
  · rw [(b5 j c).2] at hj3
    rw [(b5 j c).1]
    exact p4 j hj (by omega) hj3
/-! ===== which cells the endings write ===== -/
def KW (τ j : Nat) : Bool := (τ == 43 && j == 6) || (τ == 1 && j == 9) || (τ == 44 && (j == 6 || j == 11)) || (τ == 2) || (τ == 3) || (τ == 4)
def MW (p j : Nat) : Bool := p == 89 || p == 103 || p == 116 || p == 123 || p == 124 || p == 125 || (p == 57 && (j == 77 || j == 81))
def KE (T : Nat → Nat) (S0 S : AS) : Prop := sR S = sR S0 ∧ sL S = sL S0 ∧ ∀ k j, T k ≠ 0 → KW (T k) j = false → sI S k j = sI S0 k j
def ME (m0 m : AS) : Prop := sR m = sR m0 ∧ sL m = sL m0 ∧ ∀ p j, MW p j = false → sI m p j = sI m0 p j
theorem KE_rf (T : Nat → Nat) (S : AS) : KE T S S := ⟨rfl, rfl, fun _ _ _ _ => rfl⟩
theorem ME_rf (m : AS) : ME m m := ⟨rfl, rfl, fun _ _ _ => rfl⟩
theorem KE_w {T : Nat → Nat} {S0 S : AS} {k j τ : Nat} {v : Int32} (h : KE T S0 S) (hk : T k = τ) (hw : KW τ j = true) : KE T S0 (wI S k j v) :=
  ⟨h.1, h.2.1, fun a b ha hb => by
    rw [ti_sI_ne (fun q => by
      obtain ⟨rfl, rfl⟩ := q
      rw [hk, hw] at hb
      cases hb)]
    exact h.2.2 a b ha hb⟩
theorem ME_w {m0 m : AS} {p j : Nat} {v : Int32} (h : ME m0 m) (hw : MW p j = true) : ME m0 (wI m p j v) :=
  ⟨h.1, h.2.1, fun a b hb => by
    rw [ti_sI_ne (fun q => by
      obtain ⟨rfl, rfl⟩ := q
      rw [hw] at hb
      cases hb)]
    exact h.2.2 a b hb⟩
theorem KE_a {T : Nat → Nat} {S0 S S' : AS} {k nu : Int32} (h : KE T S0 S) (t5 : T 5 = 2) (t6 : T 6 = 3) (t7 : T 7 = 4) (a : AWK S S' k nu) : KE T S0 S' :=
  ⟨a.1.1.trans h.1, a.1.2.1.trans h.2.1, fun p j hp hw => by
    rw [a.1.2.2 p j (fun q => by rw [q, t5] at hw; cases hw) (fun q => by rw [q, t6] at hw; cases hw) (fun q => by rw [q, t7] at hw; cases hw)]
    exact h.2.2 p j hp hw⟩
theorem ME_a {m0 m m' : AS} {k nu : Int32} (h : ME m0 m) (a : AWM m m' k nu) : ME m0 m' :=
  ⟨a.1.1.trans h.1, a.1.2.1.trans h.2.1, fun p j hw => by
    rw [a.1.2.2 p j (fun q => by rw [q] at hw; cases hw) (fun q => by rw [q] at hw; cases hw) (fun q => by rw [q] at hw; cases hw) (fun q => by
      obtain ⟨rfl, q⟩ := q
      rcases q with rfl | rfl <;> cases hw)]
    exact h.2.2 p j hw⟩
/-! ===== what is fixed while sessions and families end ===== -/
def SJ (T : Nat → Nat) (S : AS) (n nf : Nat) : Prop :=
  (T 4 = 1 ∧ T 5 = 2 ∧ T 6 = 3 ∧ T 7 = 4 ∧ T 19 = 22 ∧ T 23 = 24) ∧ K4F S ∧ sL S 21 = 4 ∧ (∀ i, i < 4 → T (53 + i) = 17) ∧
  (∀ s, s < n → T (lel S 19 s) = 43 ∧ sR S ((sR S 19 1).getD 0) s = some (lel S 19 s)) ∧ (∀ f, f < nf → T (lel S 23 f) = 44 ∧ sR S ((sR S 23 1).getD 0) f = some (lel S 23 f))
def ST (T : Nat → Nat) (S m : AS) (n nf nt : Nat) : Prop :=
  SJ T S n nf ∧ (∀ i, i < 4 → sR S 21 i = some (53 + i)) ∧ MF m ∧ (n ≤ 60 ∧ nf ≤ 60 ∧ nt ≤ 200 ∧ sI S 19 2 = Int32.ofNat n ∧ sI m 57 30 = Int32.ofNat n ∧ sI S 23 2 = Int32.ofNat nf ∧ sI m 57 46 = Int32.ofNat nf ∧ sI m 57 52 = Int32.ofNat nt ∧ sL m 123 = 1200) ∧
  (∀ s, s < n → sI S (lel S 19 s) 0 = Int32.ofNat s ∧ (∃ p, p < 6 ∧ sR S (lel S 19 s) 1 = some (29 + 4 * p) ∧ sI m 85 s = Int32.ofNat p) ∧ ∀ o, o < n → (sR S (lel S 19 s) 2 = some (lel S 19 o) ↔ sI m 88 s = Int32.ofNat o)) ∧
  (∀ f, f < nf → sI S (lel S 23 f) 5 = Int32.ofNat f ∧ (∃ c s, c < 60 ∧ s < n ∧ sI m 99 f = Int32.ofNat c ∧ sI m 93 c = Int32.ofNat s ∧ sR S (lel S 23 f) 0 = some (lel S 19 s)) ∧
    ∀ v, v < 4 → (bt (sI S (lel S 23 f) 10) v = true ↔ ∃ t, t < nt ∧ sI m 108 t = Int32.ofNat f ∧ sI m 105 t = Int32.ofNat v)) ∧
  (∀ v, v < 4 → (sI S (53 + v) 1 = 0 ↔ sI m 113 v ≠ 0))
theorem SJ_of {T : Nat → Nat} {S : AS} {n nf : Nat} (hT : TI T S) (hp : PF S) (h60 : n ≤ 60) (hf60 : nf ≤ 60) (h1 : sI S 19 2 = Int32.ofNat n) (h2 : sI S 23 2 = Int32.ofNat nf) : SJ T S n nf := by
  obtain ⟨t4, t5, t6, t7, -, -, -, -, t21, -⟩ := kt4 hT
  exact ⟨⟨t4, t5, t6, t7, (hT.t6 2 (by decide)).1, (hT.t6 4 (by decide)).1⟩, K4F_of hT, (hT.t1 21 (by rw [t21]; decide)).2.2.2 4 (by rw [t21]; rfl), fun i hi => kt_S hT hp hi,
    fun s hs => lel_at hT (q := 2) (by decide) (by rw [show lp 2 = 19 from rfl, h1, oi (by omega)]; omega), fun f hf => lel_at hT (q := 4) (by decide) (by rw [show lp 4 = 23 from rfl, h2, oi (by omega)]; omega)⟩
/-- what they change, alike on both sides -/
def EE (d : Nat) (T : Nat → Nat) (S0 m0 : AS) (n nf : Nat) (S m : AS) : Prop :=
  KE T S0 S ∧ ME m0 m ∧ (∀ s, s < n → sI S (lel S0 19 s) 6 = sI m 89 s ∧ (sI m 89 s = 0 ∨ sI m 89 s = 1)) ∧ sI S 4 9 = Int32.ofNat (cnt (sI m 89) n) ∧
  (∀ f, f < nf → sI S (lel S0 23 f) 6 = sI m 103 f ∧ (∀ v, v < 4 → (bt (sI S (lel S0 23 f) 11) v = true ↔ sI m 116 (60 * v + f) = 1)) ∧ (sI m 103 f ≠ 0 → ∀ v, v < 4 → sI m 116 (60 * v + f) = 0)) ∧
  AU d (sI m 89) n S m ∧ (∀ x, nf ≤ x → x < 60 → ∀ v, v < 4 → sI m 116 (60 * v + x) = 0)
section
variable {T : Nat → Nat} {S0 m0 S m : AS} {d n nf nt : Nat}
theorem ST_s (h : ST T S0 m0 n nf nt) {s : Nat} (hs : s < n) : T (lel S0 19 s) = 43 ∧ sR S0 ((sR S0 19 1).getD 0) s = some (lel S0 19 s) := h.1.2.2.2.2.1 s hs
theorem ST_f (h : ST T S0 m0 n nf nt) {f : Nat} (hf : f < nf) : T (lel S0 23 f) = 44 ∧ sR S0 ((sR S0 23 1).getD 0) f = some (lel S0 23 f) := h.1.2.2.2.2.2 f hf
theorem ST_si (h : ST T S0 m0 n nf nt) {a b : Nat} (ha : a < n) (hb : b < n) (e : lel S0 19 a = lel S0 19 b) : a = b := by
  have h1 := (h.2.2.2.2.1 a ha).1
  have := h.2.2.2.1.1
  rw [e, (h.2.2.2.2.1 b hb).1] at h1
  exact (oinj (by omega) (by omega) h1).symm
theorem ST_fi (h : ST T S0 m0 n nf nt) {a b : Nat} (ha : a < nf) (hb : b < nf) (e : lel S0 23 a = lel S0 23 b) : a = b := by
  have h1 := (h.2.2.2.2.2.1 a ha).1
  have := h.2.2.2.1.2.1
  rw [e, (h.2.2.2.2.2.1 b hb).1] at h1
  exact (oinj (by omega) (by omega) h1).symm
theorem ix60 : ∀ v, v < 4 → ∀ f, f < 60 → (((60 : Int32) * Int32.ofNat v) + Int32.ofNat f).toNatClampNeg = 60 * v + f := by decide +kernel
/-- which services hear of a family -/
theorem p_hears_L (hm : MF m) (hR : sI m 57 52 = Int32.ofNat nt) (hn : nt ≤ 200) {v f : Nat} : ∀ (k i fu : Nat) (b : Int32), i + k = nt → (b = 0 ∨ b = 1) → (b = 1 ↔ ∃ t, t < i ∧ sI m 108 t = Int32.ofNat f ∧ sI m 105 t = Int32.ofNat v) →
    Hp (f_M_hears_L5 fu m (some 57) (Int32.ofNat v) (Int32.ofNat f) b (Int32.ofNat i)) (fun q => q.2 = m ∧ (q.1 = 0 ∨ q.1 = 1) ∧ (q.1 = 1 ↔ ∃ t, t < nt ∧ sI m 108 t = Int32.ofNat f ∧ sI m 105 t = Int32.ofNat v))
  | _, _, 0, _, _, _, _ => p_0
  | 0, i, fu + 1, b, hk, hb, he => by
    unfold f_M_hears_L5 f_M_hears_C5
    refine p_of (st_gIe hR) (p_of (st_T ((ole (by omega) (by omega)).mpr (by omega))) (p_of st_z (p_ret ⟨rfl, hb, ?_⟩)))
    rw [show nt = i by omega]
    exact he
  | k + 1, i, fu + 1, b, hk, hb, he => by
    unfold f_M_hears_L5 f_M_hears_C5
    refine p_of (st_gIe hR) (p_of (st_F (fun q => by have := (ole (by omega) (by omega)).mp q; omega)) ?_)
    have go : ∀ b' : Int32, (b' = 0 ∨ b' = 1) → (b' = 1 ↔ b = 1 ∨ (sI m 108 i = Int32.ofNat f ∧ sI m 105 i = Int32.ofNat v)) → Hp (f_M_hears_B45 (f_M_hears_L5 fu) m (some 57) (Int32.ofNat v) (Int32.ofNat f) (Int32.ofNat i) b') (fun q => q.2 = m ∧ (q.1 = 0 ∨ q.1 = 1) ∧ (q.1 = 1 ↔ ∃ t, t < nt ∧ sI m 108 t = Int32.ofNat f ∧ sI m 105 t = Int32.ofNat v)) := fun b' h0 h1 => by
      unfold f_M_hears_B45
      refine p_of st_val ?_
      rw [o1]
      refine p_hears_L hm hR hn k (i + 1) fu b' (by omega) h0 ?_
      rw [h1, he]
      constructor
      · rintro (⟨t, ht, p⟩ | p)
        · exact ⟨t, by omega, p⟩
        · exact ⟨i, by omega, p⟩
      · rintro ⟨t, ht, p⟩
        by_cases c : t = i
        · rw [c] at p; exact Or.inr p
        · exact Or.inl ⟨t, by omega, p⟩
    refine p_if (fun c => ?_) (fun c => ?_)
    · refine p_of (st_gRe (hm 57 108 rfl)) (p_of (st_aIe (oc (by omega)) rfl) (p_if (fun c1 => ?_) (fun c1 => ?_)))
      · refine p_of (st_gRe (hm 54 105 rfl)) (p_of (st_aIe (oc (by omega)) rfl) (p_if (fun c2 => ?_) (fun c2 => ?_)))
        · unfold f_M_hears_B40
          exact go 1 (Or.inr rfl) ⟨fun _ => Or.inr ⟨c1, c2⟩, fun _ => rfl⟩
        · unfold f_M_hears_B44
          exact go 0 (Or.inl rfl) ⟨fun q => absurd q (by decide), fun q => by
            rcases q with q | q
            · rw [c] at q; cases q
            · exact absurd q.2 c2⟩
      · unfold f_M_hears_B44
        exact go 0 (Or.inl rfl) ⟨fun q => absurd q (by decide), fun q => by
          rcases q with q | q
          · rw [c] at q; cases q
          · exact absurd q.1 c1⟩
    · unfold f_M_hears_B40
      exact go 1 (Or.inr rfl) ⟨fun _ => Or.inl (by rcases hb with q | q; exact absurd q c; exact q), fun _ => rfl⟩
theorem p_hears (hm : MF m) (hR : sI m 57 52 = Int32.ofNat nt) (hn : nt ≤ 200) {v f : Nat} : Hp (f_M_hears m (some 57) (Int32.ofNat v) (Int32.ofNat f)) (fun q => q.2 = m ∧ (q.1 = 0 ∨ q.1 = 1) ∧ (q.1 = 1 ↔ ∃ t, t < nt ∧ sI m 108 t = Int32.ofNat f ∧ sI m 105 t = Int32.ofNat v)) := by
  unfold f_M_hears
  exact p_hears_L hm hR hn nt 0 kr_FU 0 (by omega) (Or.inl rfl) ⟨fun q => absurd q (by decide), fun ⟨t, ht, _⟩ => absurd ht (Nat.not_lt_zero _)⟩
/-- a service is found -/
theorem x_fs {S : AS} {v : Nat} (h4 : sR S 4 11 = some 21) (hp : sR S 21 v = some (53 + v)) (hl : sL S 21 = 4) (hv : v < 4) : Hp (f_K_findService S (some 4) (Int32.ofNat v)) (fun q => q = (.inl (some (53 + v)), S)) := by
  unfold f_K_findService
  refine p_of (st_F (fun q => by have := lt0.mp q; rw [oi (by omega)] at this; omega)) (p_of (st_gRe h4) (p_of st_aN ?_))
  rw [hl]
  refine p_of (st_F (fun q => by have := (ole (by omega) (by omega)).mp q; omega)) (p_of (st_gRe h4) (p_of (st_aRe (oc (by omega)) hp) ?_))
  unfold f_K_findService_B23
  exact p_of (st_F (fun q => nomatch q)) (p_ret rfl)
theorem bt_is {x : Int32} {v : Nat} (hv : v < 12) (S : AS) : f_K_isIn S (Int32.ofNat v) x = some (if bt x v = true then 1 else 0, S) := by
  unfold f_K_isIn
  by_cases c : bt x v = true
  · rw [if_pos ((bt_test x hv).mpr c), if_pos c]
  · rw [if_neg (fun q => c ((bt_test x hv).mp q)), if_neg c]
/-- a family is told by a service -/
theorem p_tell {S : AS} {g v : Nat} (hv : v < 12) : Hp (f_Grant_tell S (some g) (Int32.ofNat v)) (fun q => (q.1 = 1 ∧ bt (sI S g 10) v = true ∧ ¬ bt (sI S g 11) v = true ∧ q.2 = wI S g 11 (sI S g 11 ||| ((1 : Int32) <<< (Int32.ofNat v &&& 31)))) ∨ (q.1 = 0 ∧ ¬ (bt (sI S g 10) v = true ∧ ¬ bt (sI S g 11) v = true) ∧ q.2 = S)) := by
  unfold f_Grant_tell
  refine p_of st_gI (p_of (st_b2 (bt_is hv S)) ?_)
  by_cases c : bt (sI S g 10) v = true
  · rw [if_pos c]
    refine p_of (st_F one0) (p_of st_gI (p_of (st_b2 (bt_is hv S)) ?_))
    by_cases c2 : bt (sI S g 11) v = true
    · rw [if_pos c2]
      exact p_of (st_F one0) (p_ret (Or.inr ⟨rfl, fun q => q.2 c2, rfl⟩))
    · rw [if_neg c2]
      exact p_of (st_T rfl) (p_of st_gI (p_of st_pI (p_ret (Or.inl ⟨rfl, c, c2, rfl⟩))))
  · rw [if_neg c]
    exact p_of (st_T rfl) (p_ret (Or.inr ⟨rfl, fun q => c q.1, rfl⟩))
theorem bt_sh (x : Int32) {v : Nat} (hv : v < 12) (j : Nat) : bt (x ||| ((1 : Int32) <<< (Int32.ofNat v &&& 31))) j = true ↔ bt x j = true ∨ j = v := by
  rw [bt_or, bt_shl hv, Bool.or_eq_true, decide_eq_true_iff]
theorem AU_cong {lv lv' : Nat → Int32} {S' m' : AS} (h : AU d lv n S m) (e1 : sI S' 5 2 = sI S 5 2) (e2 : sI S' 6 = sI S 6) (e3 : sI m' 57 77 = sI m 57 77) (e4 : sI m' 123 = sI m 123) (e5 : sI m' 124 = sI m 124) (e6 : lv' = lv) : AU d lv' n S' m' := by
  unfold AU
  rw [e1, e2, e3, e4, e5, e6]
  exact h
theorem KE_ty (h : KE T S0 S) {k j τ : Nat} (hk : T k = τ) (h0 : τ ≠ 0) (hw : KW τ j = false) : sI S k j = sI S0 k j := h.2.2 k j (by rw [hk]; exact h0) (by rw [hk]; exact hw)
theorem MF_e (h : MF m0) (e : sR m = sR m0) : MF m := fun j p q => by rw [e]; exact h j p q
theorem hears_e (st : ST T S0 m0 n nf nt) (hK : KE T S0 S) (hM : ME m0 m) {f v : Nat} (hf : f < nf) (hv : v < 4) : bt (sI S (lel S0 23 f) 10) v = true ↔ ∃ t, t < nt ∧ sI m 108 t = Int32.ofNat f ∧ sI m 105 t = Int32.ofNat v := by
  rw [KE_ty hK (ST_f st hf).1 (by decide) (by decide), (st.2.2.2.2.2.1 f hf).2.2 v hv]
  constructor
  · rintro ⟨t, h1, h2, h3⟩
    exact ⟨t, h1, (hM.2.2 _ _ (by rfl)).trans h2, (hM.2.2 _ _ (by rfl)).trans h3⟩
  · rintro ⟨t, h1, h2, h3⟩
    exact ⟨t, h1, (hM.2.2 108 t (by rfl)).symm.trans h2, (hM.2.2 105 t (by rfl)).symm.trans h3⟩
/-- the services are told -/
theorem h_eF_L (st : ST T S0 m0 n nf nt) {f : Nat} (hf : f < nf) (S1 m1 : AS) : ∀ (k i fu fu' : Nat) (S m : AS), i + k = 4 → KE T S0 S → ME m0 m →
    (∀ v, v < 4 → (bt (sI S (lel S0 23 f) 11) v = true ↔ v < i ∧ sI m 116 (60 * v + f) = 1)) →
    (∀ p j, ¬ (p = lel S0 23 f ∧ j = 11) → sI S p j = sI S1 p j) → (∀ p j, ¬ (p = 116 ∧ ∃ v, v < 4 ∧ j = 60 * v + f) → sI m p j = sI m1 p j) →
    H2 (f_K_endFamily_L31 fu S (some 4) (some (lel S0 23 f)) (Int32.ofNat i)) (f_M_endFamily_L25 fu' m (some 57) (Int32.ofNat f) (Int32.ofNat i)) (fun a m' => ∃ S', a = (.inl (), S') ∧ KE T S0 S' ∧ ME m0 m' ∧
      (∀ v, v < 4 → (bt (sI S' (lel S0 23 f) 11) v = true ↔ sI m' 116 (60 * v + f) = 1)) ∧
      (∀ p j, ¬ (p = lel S0 23 f ∧ j = 11) → sI S' p j = sI S1 p j) ∧ (∀ p j, ¬ (p = 116 ∧ ∃ v, v < 4 ∧ j = 60 * v + f) → sI m' p j = sI m1 p j))
  | _, _, 0, _, _, _, _, _, _, _, _, _ => h2_l0
  | _, _, _ + 1, 0, _, _, _, _, _, _, _, _ => h2_m0
  | 0, i, fu + 1, fu' + 1, S, m, hk, hK, hM, hb, hoS, hoM => by
    unfold f_K_endFamily_L31 f_K_endFamily_C31 f_M_endFamily_L25 f_M_endFamily_C25
    have hi : i = 4 := by omega
    subst hi
    refine l_of (st_T (by decide)) (m_of (st_T (by decide)) (h2_ret ⟨S, rfl, hK, hM, fun v hv => ?_, hoS, hoM⟩))
    rw [hb v hv]
    exact ⟨fun q => q.2, fun q => ⟨hv, q⟩⟩
  | k + 1, i, fu + 1, fu' + 1, S, m, hk, hK, hM, hb, hoS, hoM => by
    unfold f_K_endFamily_L31 f_K_endFamily_C31 f_M_endFamily_L25 f_M_endFamily_C25
    have hm := MF_e st.2.2.1 hM.1
    have nf60 := st.2.2.2.1.2.1
    have tg := (ST_f st hf).1
    have i4 : ¬ (4 : Int32) ≤ Int32.ofNat i := fun q => by
      have := (ole (a := 4) (b := i) (by decide) (by omega)).mp q
      omega
    refine l_of (st_F i4) (m_of (st_F i4) (l_of st_rv ?_))
    refine l_b2x (x_fs (by rw [hK.1]; exact st.1.2.1.1 11 21 rfl) (by rw [hK.1]; exact st.2.1 i (by omega)) (by rw [hK.2.1]; exact st.1.2.2.1) (by omega)) ?_
    refine l_of st_gI ?_
    refine m_of (st_gRe (hm 69 116 rfl)) (m_of (st_gRe (hm 66 113 rfl)) (m_of (st_aIe (oc (by omega)) rfl) ?_))
    have up : sI S (53 + i) 1 = 0 ↔ sI m 113 i ≠ 0 := by
      rw [KE_ty hK (st.1.2.2.2.1 i (show i < 4 by omega)) (by decide) (by decide), hM.2.2 113 i (by rfl)]
      exact st.2.2.2.2.2.2 i (by omega)
    -- both write or leave, then go on
    have go : ∀ (S' : AS) (b : Int32), KE T S0 S' → (∀ p j, ¬ (p = lel S0 23 f ∧ j = 11) → sI S' p j = sI S p j) → (∀ v, v < 4 → (bt (sI S' (lel S0 23 f) 11) v = true ↔ (bt (sI S (lel S0 23 f) 11) v = true ∨ v = i ∧ b = 1))) →
        H2 (f_K_endFamily_B53 (f_K_endFamily_L31 fu) S' (some 4) (some (lel S0 23 f)) (Int32.ofNat i)) (f_M_endFamily_B63 (f_M_endFamily_L25 fu') m (some 57) (Int32.ofNat f) (Int32.ofNat i) (some 116) ((60 : Int32) * Int32.ofNat i + Int32.ofNat f) b) (fun a m' => ∃ S', a = (.inl (), S') ∧ KE T S0 S' ∧ ME m0 m' ∧
      (∀ v, v < 4 → (bt (sI S' (lel S0 23 f) 11) v = true ↔ sI m' 116 (60 * v + f) = 1)) ∧
      (∀ p j, ¬ (p = lel S0 23 f ∧ j = 11) → sI S' p j = sI S1 p j) ∧ (∀ p j, ¬ (p = 116 ∧ ∃ v, v < 4 ∧ j = 60 * v + f) → sI m' p j = sI m1 p j)) := fun S' b hK' ho' hb' => by
      unfold f_K_endFamily_B53 f_M_endFamily_B63
      refine l_of st_val (m_of (st_bZe (ix60 i (by omega) f (by omega))) (m_of st_val ?_))
      rw [o1]
      refine h_eF_L st hf S1 m1 k (i + 1) fu fu' S' _ (by omega) hK' (ME_w hM (by rfl)) (fun v hv => ?_) (fun p j q => (ho' p j q).trans (hoS p j q)) (fun p j q => ?_)
      · rw [hb' v hv, hb v hv]
        by_cases c : v = i
        · subst c
          rw [ti_sI_eq]
          constructor
          · rintro (q | q)
            · omega
            · exact ⟨by omega, q.2⟩
          · exact fun q => Or.inr ⟨rfl, q.2⟩
        · rw [ti_sI_ne (fun q => c (by omega))]
          constructor
          · rintro (q | q)
            · exact ⟨by omega, q.2⟩
            · exact absurd q.1 c
          · exact fun q => Or.inl ⟨by omega, q.2⟩
      · rw [ti_sI_ne (fun z => q ⟨z.1, i, by omega, z.2⟩)]
        exact hoM p j q
    have nt200 := st.2.2.2.1.2.2.1
    have e52 : sI m 57 52 = Int32.ofNat nt := (hM.2.2 57 52 (by rfl)).trans st.2.2.2.1.2.2.2.2.2.2.2.1
    refine l_if (fun c => ?_) (fun c => ?_)
    · refine m_of (st_F (up.mp c)) ?_
      unfold f_M_endFamily_B62
      exact go S 0 hK (fun _ _ _ => rfl) (fun v hv => ⟨Or.inl, fun q => q.elim id (fun z => absurd z.2 (by decide))⟩)
    · have dn : sI m 113 i = 0 := Decidable.not_not.mp (fun q => c (up.mpr q))
      refine m_of (st_T dn) (m_of st_rv (m_p2 (p_hears hm e52 nt200) (fun b m' p => ?_)))
      obtain ⟨e, p01, pb⟩ := p
      have e : m' = m := e
      rw [e]
      have pb : b = 1 ↔ _ := pb
      rw [← hears_e st hK hM hf (show i < 4 by omega)] at pb
      have nti : ¬ bt (sI S (lel S0 23 f) 11) i = true := fun q => by
        have := ((hb i (by omega)).mp q).1
        omega
      refine l_of st_rv (l_p2 (p_tell (by omega)) (fun w S' p => ?_))
      rcases p with ⟨p1, p2, p3, p4⟩ | ⟨p1, p2, p3⟩
      · have b1 := pb.mpr p2
        refine m_of (st_F (by rw [b1]; decide)) ?_
        have p4 : S' = _ := p4
        rw [p4]
        refine go _ 1 (KE_w hK tg (by decide)) (fun p j q => ti_sI_ne q) (fun v hv => ?_)
        rw [ti_sI_eq, bt_sh _ (by omega)]
        exact ⟨fun q => q.elim Or.inl (fun z => Or.inr ⟨z, rfl⟩), fun q => q.elim Or.inl (fun z => Or.inr z.1)⟩
      · have b0 : b = 0 := p01.elim id (fun q => absurd ⟨pb.mp q, nti⟩ p2)
        refine m_of (st_T b0) ?_
        have p3 : S' = S := p3
        rw [p3]
        unfold f_M_endFamily_B62
        exact go S 0 hK (fun _ _ _ => rfl) (fun v hv => ⟨Or.inl, fun q => q.elim id (fun z => absurd z.2 (by decide))⟩)
/-- a family ends -/
theorem h_eF (st : ST T S0 m0 n nf nt) (he : EE d T S0 m0 n nf S m) {f : Nat} (hf : f < nf) : H2 (f_K_endFamily S (some 4) (some (lel S0 23 f))) (f_M_endFamily m (some 57) (Int32.ofNat f)) (fun a m' => ∃ S', a = (.inl (), S') ∧ EE d T S0 m0 n nf S' m' ∧ sI m' 103 f = 0 ∧ (∀ x, x ≠ f → sI m' 103 x = sI m 103 x) ∧ sI m' 89 = sI m 89 ∧ sI S' 4 9 = sI S 4 9) := by
  obtain ⟨hK, hM, hs, hl, hg, ha, hz⟩ := he
  have hm := MF_e st.2.2.1 hM.1
  obtain ⟨n60, nf60, -⟩ := st.2.2.2.1
  have tg := (ST_f st hf).1
  obtain ⟨t4, t5, t6, t7, -⟩ := st.1.1
  obtain ⟨g1, g2, g3⟩ := hg f hf
  have hkf := st.1.2.1
  unfold f_K_endFamily f_M_endFamily
  refine l_of st_gI (m_of (st_gRe (hm 51 103 rfl)) (m_of (st_aIe (oc (by omega)) rfl) ?_))
  refine l_if (fun c => ?_) (fun c => ?_)
  · rw [g1] at c
    exact m_of (st_T c) (h2_ret ⟨S, rfl, ⟨hK, hM, hs, hl, hg, ha, hz⟩, c, fun _ _ => rfl, rfl, rfl⟩)
  · rw [g1] at c
    refine m_of (st_F c) (m_of (st_gRe (hm 51 103 rfl)) (m_of (st_bZe (oc (by omega))) (m_of st_rv ?_)))
    have e5 : sI (wI S (lel S0 23 f) 6 0) (lel S0 23 f) 5 = Int32.ofNat f := by
      rw [ti_sI_ne (by omega), KE_ty hK tg (by decide) (by decide)]
      exact (st.2.2.2.2.2.1 f hf).1
    refine l_of st_pZ (l_of (st_gRe (show sR (wI S (lel S0 23 f) 6 0) 4 1 = some 5 by rw [sR_wI, hK.1]; exact hkf.1 1 5 rfl)) (l_of (st_gIe e5) (l_of st_gI (l_of st_rv ?_))))
    refine l_pd (p_aw (by rw [sR_wI, hK.1]; exact hkf.2.1) (by rw [sR_wI, hK.1]; exact hkf.2.2.1)) (fun S15 a => ?_)
    refine m_pd (p_mw (MF_e hm rfl)) (fun m14 b => ?_)
    have a : AWK (wI S (lel S0 23 f) 6 0) S15 (Int32.ofNat 3) (Int32.ofNat f) := a
    have b : AWM (wI m 103 f 0) m14 (Int32.ofNat 3) (Int32.ofNat f) := b
    have ng : ∀ x, x = 5 ∨ x = 6 ∨ x = 7 ∨ x = 4 → lel S0 23 f ≠ x := fun x hx q => by
      rw [q] at tg
      rcases hx with rfl | rfl | rfl | rfl
      · rw [t5] at tg; cases tg
      · rw [t6] at tg; cases tg
      · rw [t7] at tg; cases tg
      · rw [t4] at tg; cases tg
    have oS : ∀ p j, p ≠ 5 → p ≠ 6 → p ≠ 7 → ¬ (p = lel S0 23 f ∧ j = 6) → sI S15 p j = sI S p j := fun p j h5 h6 h7 h => by
      rw [a.1.2.2 p j h5 h6 h7, ti_sI_ne h]
    have oM : ∀ p j, p ≠ 123 → p ≠ 124 → p ≠ 125 → ¬ (p = 57 ∧ (j = 77 ∨ j = 81)) → ¬ (p = 103 ∧ j = f) → sI m14 p j = sI m p j := fun p j h5 h6 h7 h8 h => by
      rw [b.1.2.2 p j h5 h6 h7 h8, ti_sI_ne h]
    refine h2_mono (h_eF_L st hf S15 m14 4 0 kr_FU kr_FU S15 m14 (by omega) (KE_a (KE_w hK tg (by decide)) t5 t6 t7 a) (ME_a (ME_w hM (by rfl)) b) (fun v hv => ?_) (fun _ _ _ => rfl) (fun _ _ _ => rfl)) ?_
    · rw [oS _ _ (ng 5 (by omega)) (ng 6 (by omega)) (ng 7 (by omega)) (by omega), g2 v hv, g3 c v hv]
      exact ⟨fun q => absurd q (by decide), fun q => absurd q.1 (by omega)⟩
    · rintro a' m' ⟨S', rfl, hK', hM', ht, oS', oM'⟩
      have es : ∀ s, sI m' 89 s = sI m 89 s := fun s => by
        rw [oM' 89 s (by omega), oM 89 s (by omega) (by omega) (by omega) (by omega) (by omega)]
      have es' : sI m' 89 = sI m 89 := funext es
      have e4 : sI S' 4 9 = sI S 4 9 := by
        rw [oS' 4 9 (by omega), oS 4 9 (by omega) (by omega) (by omega) (by omega)]
      refine ⟨S', rfl, ⟨hK', hM', fun s h => ?_, ?_, fun x hx => ?_, ?_, fun x hx hx2 v hv => ?_⟩, ?_, fun x hx => ?_, es', e4⟩
      · have tp := (ST_s st h).1
        have ne : ∀ y τ, T y = τ → τ ≠ 43 → lel S0 19 s ≠ y := fun y τ hy ht q => by
          rw [q, hy] at tp
          exact ht tp
        rw [es s, oS' _ _ (fun q => ne _ _ tg (by decide) q.1), oS _ _ (ne _ _ t5 (by decide)) (ne _ _ t6 (by decide)) (ne _ _ t7 (by decide)) (fun q => ne _ _ tg (by decide) q.1)]
        exact hs s h
      · rw [e4, es']
        exact hl
      · have tp := (ST_f st hx).1
        have ne : ∀ y τ, T y = τ → τ ≠ 44 → lel S0 23 x ≠ y := fun y τ hy ht q => by
          rw [q, hy] at tp
          exact ht tp
        by_cases cx : x = f
        · subst cx
          have z : sI m' 103 x = 0 := by
            rw [oM' 103 x (by omega), b.1.2.2 103 x (by omega) (by omega) (by omega) (by omega), ti_sI_eq]
          refine ⟨?_, ht, fun q => absurd z q⟩
          rw [z, oS' _ _ (by omega), a.1.2.2 _ _ (ne _ _ t5 (by decide)) (ne _ _ t6 (by decide)) (ne _ _ t7 (by decide)), ti_sI_eq]
        · have nx : lel S0 23 x ≠ lel S0 23 f := fun q => cx (ST_fi st hx hf q)
          obtain ⟨h1, h2, h3⟩ := hg x hx
          have r : ∀ j, sI S' (lel S0 23 x) j = sI S (lel S0 23 x) j := fun j => by
            rw [oS' _ _ (fun q => nx q.1), oS _ _ (ne _ _ t5 (by decide)) (ne _ _ t6 (by decide)) (ne _ _ t7 (by decide)) (fun q => nx q.1)]
          have w3 : sI m' 103 x = sI m 103 x := by
            rw [oM' 103 x (by omega), oM 103 x (by omega) (by omega) (by omega) (by omega) (by omega)]
          have w6 : ∀ v, v < 4 → sI m' 116 (60 * v + x) = sI m 116 (60 * v + x) := fun v hv => by
            rw [oM' 116 _ (by rintro ⟨-, v', hv', q⟩; omega), oM 116 _ (by omega) (by omega) (by omega) (by omega) (by omega)]
          refine ⟨by rw [r, w3]; exact h1, fun v hv => by rw [r, w6 v hv]; exact h2 v hv, fun q v hv => by rw [w6 v hv]; exact h3 (by rw [← w3]; exact q) v hv⟩
      · have aa : AU d (sI m 89) n S15 m14 := by
          refine AU_w (k := 3) (nu := f) (lv := sI m 89) (n := n) (S := wI S (lel S0 23 f) 6 0) (m := wI m 103 f 0) (AU_cong ha ?_ ?_ ?_ ?_ ?_ rfl) ?_ n60 n60 (by omega) (by omega) a b (fun s _ => by omega) (fun s _ => ⟨Or.inl, fun q => q.elim id (fun z => absurd z.1 (by decide))⟩) (fun s h => Or.inl ⟨rfl, h, Or.inl (by omega)⟩)
          · exact ti_sI_ne (fun q => ng 5 (by omega) q.1.symm)
          · exact funext fun j => ti_sI_ne (fun q => ng 6 (by omega) q.1.symm)
          · exact ti_sI_ne (by omega)
          · exact funext fun j => ti_sI_ne (by omega)
          · exact funext fun j => ti_sI_ne (by omega)
          · show sL m 123 = 1200
            rw [hM.2.1]
            exact st.2.2.2.1.2.2.2.2.2.2.2.2
        exact AU_cong aa (oS' 5 2 (fun q => ng 5 (by omega) q.1.symm)) (funext fun j => oS' 6 j (fun q => ng 6 (by omega) q.1.symm)) (oM' 57 77 (by omega)) (funext fun j => oM' 123 j (by omega)) (funext fun j => oM' 124 j (by omega)) es'
      · rw [oM' 116 _ (by rintro ⟨-, v', hv', q⟩; omega), oM 116 _ (by omega) (by omega) (by omega) (by omega) (by omega)]
        exact hz x hx hx2 v hv
      · rw [oM' 103 f (by omega), b.1.2.2 103 f (by omega) (by omega) (by omega) (by omega), ti_sI_eq]
      · rw [oM' 103 x (by omega), oM 103 x (by omega) (by omega) (by omega) (by omega) (by omega)]
end
end
section
/-! ===== sessions end, with what belongs to them ===== -/
section
variable {T : Nat → Nat} {S0 m0 S m : AS} {d n nf nt : Nat}
theorem EE_fam (st : ST T S0 m0 n nf nt) (he : EE d T S0 m0 n nf S m) {i : Nat} (hi : i < nf) : ∃ c s, c < 60 ∧ s < n ∧ sI m 99 i = Int32.ofNat c ∧ sI m 93 c = Int32.ofNat s ∧ sR S (lel S0 23 i) 0 = some (lel S0 19 s) := by
  obtain ⟨c, s, h1, h2, h3, h4, h5⟩ := (st.2.2.2.2.2.1 i hi).2.1
  exact ⟨c, s, h1, h2, (he.2.1.2.2 99 i (by rfl)).trans h3, (he.2.1.2.2 93 c (by rfl)).trans h4, by rw [he.1.1]; exact h5⟩
/-- the lists' rows are those of the start -/
theorem EE_get (he : EE d T S0 m0 n nf S m) {l i : Nat} (h : sR S0 ((sR S0 l 1).getD 0) i = some (lel S0 l i)) : sR S ((sR S l 1).getD 0) i = some (lel S0 l i) := by
  rw [he.1.1]
  exact h
theorem ET (st : ST T S0 m0 n nf nt) (he : EE d T S0 m0 n nf S m) : sI S 19 2 = Int32.ofNat n ∧ sI m 57 30 = Int32.ofNat n ∧ sI S 23 2 = Int32.ofNat nf ∧ sI m 57 46 = Int32.ofNat nf := by
  obtain ⟨-, -, -, h1, h2, h3, h4, -⟩ := st.2.2.2.1
  have t17 := st.1.1.2.2.2.2.1
  have t23 := st.1.1.2.2.2.2.2
  exact ⟨(KE_ty he.1 (k := 19) t17 (by decide) (by decide)).trans h1, (he.2.1.2.2 57 30 (by rfl)).trans h2, (KE_ty he.1 (k := 23) t23 (by decide) (by decide)).trans h3, (he.2.1.2.2 57 46 (by rfl)).trans h4⟩
/-- the families of a session end -/
theorem h_eFs_L (st : ST T S0 m0 n nf nt) {s : Nat} (hs : s < n) : ∀ (k i fu fu' : Nat) (S m : AS), i + k = nf → EE d T S0 m0 n nf S m →
    H2 (f_K_endFamiliesOf_L2 fu S (some 4) (some (lel S0 19 s)) (Int32.ofNat i)) (f_M_endFamiliesOf_L2 fu' m (some 57) (Int32.ofNat s) (Int32.ofNat i)) (fun a m' => ∃ S', a = (.inl (), S') ∧ EE d T S0 m0 n nf S' m' ∧ sI m' 89 = sI m 89 ∧ sI S' 4 9 = sI S 4 9)
  | _, _, 0, _, _, _, _, _ => h2_l0
  | _, _, _ + 1, 0, _, _, _, _ => h2_m0
  | 0, i, fu + 1, fu' + 1, S, m, hk, he => by
    unfold f_K_endFamiliesOf_L2 f_K_endFamiliesOf_C2 f_M_endFamiliesOf_L2 f_M_endFamiliesOf_C2
    have hkf := st.1.2.1
    obtain ⟨-, -, e23, e46⟩ := ET st he
    obtain ⟨n60, nf60, -⟩ := st.2.2.2.1
    have le : Int32.ofNat nf ≤ Int32.ofNat i := (ole (by omega) (by omega)).mpr (by omega)
    refine l_of (st_gRe (show sR S 4 13 = some 23 by rw [he.1.1]; exact hkf.1 13 23 rfl)) (l_of st_rv (l_of st_size (l_of (st_T (by rw [e23]; exact le)) ?_)))
    exact m_of (st_gIe e46) (m_of (st_T le) (h2_ret ⟨S, rfl, he, rfl, rfl⟩))
  | k + 1, i, fu + 1, fu' + 1, S, m, hk, he => by
    unfold f_K_endFamiliesOf_L2 f_K_endFamiliesOf_C2 f_M_endFamiliesOf_L2 f_M_endFamiliesOf_C2
    have hkf := st.1.2.1
    have hm := MF_e st.2.2.1 he.2.1.1
    obtain ⟨-, -, e23, e46⟩ := ET st he
    obtain ⟨n60, nf60, -⟩ := st.2.2.2.1
    have le : ¬ Int32.ofNat nf ≤ Int32.ofNat i := fun q => by
      have := (ole (by omega) (by omega)).mp q
      omega
    have r13 : sR S 4 13 = some 23 := by rw [he.1.1]; exact hkf.1 13 23 rfl
    have hi : i < nf := by omega
    obtain ⟨c, s', c60, s'n, m99, m93, k0⟩ := EE_fam st he hi
    refine l_of (st_gRe r13) (l_of st_rv (l_of st_size (l_of (st_F (by rw [e23]; exact le)) ?_)))
    refine l_of (st_gRe r13) (l_of st_rv (l_of (st_get (oc (by omega)) (EE_get he (ST_f st hi).2)) (l_of st_cc (l_of (st_gRe k0) (l_of st_ac (l_of st_ac ?_))))))
    refine m_of (st_gIe e46) (m_of (st_F le) (m_of (st_gRe (hm 40 93 rfl)) (m_of (st_gRe (hm 47 99 rfl)) (m_of (st_aIe (oc (by omega)) m99) (m_of (st_aIe (oc (by omega)) m93) ?_)))))
    by_cases q : s' = s
    · subst q
      refine l_of (st_T rfl) (m_of (st_T rfl) (l_of st_rv (m_of st_rv ?_)))
      refine h2_xd (h_eF st he hi) (fun v S' m' p => ?_) (fun v S' m' p => ?_)
      · obtain ⟨S2, e, he', -, -, e89, e49⟩ := p
        cases e
        unfold f_K_endFamiliesOf_B38 f_M_endFamiliesOf_B30
        refine l_of st_val (m_of st_val ?_)
        rw [o1]
        refine h2_mono (h_eFs_L st hs k (i + 1) fu fu' S' m' (by omega) he') (fun a b p => ?_)
        obtain ⟨S3, p1, p2, p3, p4⟩ := p
        exact ⟨S3, p1, p2, p3.trans e89, p4.trans e49⟩
      · obtain ⟨S2, e, -⟩ := p
        cases e
    · have nK : ¬ some (lel S0 19 s') = some (lel S0 19 s) := fun z => q (ST_si st s'n hs (Option.some.inj z))
      have nM : ¬ Int32.ofNat s' = Int32.ofNat s := fun z => q (oinj (by omega) (by omega) z)
      refine l_of (st_F nK) (m_of (st_F nM) ?_)
      unfold f_K_endFamiliesOf_B38 f_M_endFamiliesOf_B30
      refine l_of st_val (m_of st_val ?_)
      rw [o1]
      exact h_eFs_L st hs k (i + 1) fu fu' S m (by omega) he
theorem h_eFs (st : ST T S0 m0 n nf nt) (he : EE d T S0 m0 n nf S m) {s : Nat} (hs : s < n) : H2 (f_K_endFamiliesOf S (some 4) (some (lel S0 19 s))) (f_M_endFamiliesOf m (some 57) (Int32.ofNat s)) (fun a m' => ∃ S', a = (.inl (), S') ∧ EE d T S0 m0 n nf S' m' ∧ sI m' 89 = sI m 89 ∧ sI S' 4 9 = sI S 4 9) := by
  unfold f_K_endFamiliesOf f_M_endFamiliesOf
  exact h_eFs_L st hs nf 0 kr_FU kr_FU S m (by omega) he
/-- one session is marked -/
theorem p_mark (st : ST T S0 m0 n nf nt) (he : EE d T S0 m0 n nf S m) {s : Nat} (hs : s < n) : Hp (f_K_markEnded S (some 4) (some (lel S0 19 s))) (fun S' => AWK (wI (wI S (lel S0 19 s) 6 0) 4 9 (sI S 4 9 - 1)) S' (Int32.ofNat 1) (Int32.ofNat s)) := by
  have hkf := st.1.2.1
  have ts := (ST_s st hs).1
  have t4 := st.1.1.1
  have n4 : lel S0 19 s ≠ 4 := fun q => by rw [q, t4] at ts; cases ts
  unfold f_K_markEnded
  refine p_of st_pZ (p_of st_gI ?_)
  rw [ti_sI_ne (fun q => n4 q.1.symm)]
  refine p_of st_pI (p_of (st_gRe (show sR (wI (wI S (lel S0 19 s) 6 0) 4 9 (sI S 4 9 - 1)) 4 1 = some 5 by rw [sR_wI, sR_wI, he.1.1]; exact hkf.1 1 5 rfl)) (p_of (st_gIe (v := Int32.ofNat s) ?_) (p_of st_gI (p_of st_rv ?_))))
  · rw [ti_sI_ne (fun q => n4 q.1), ti_sI_ne (by omega), KE_ty he.1 ts (by decide) (by decide)]
    exact (st.2.2.2.2.1 s hs).1
  · exact p_bd (p_aw (by rw [sR_wI, sR_wI, he.1.1]; exact hkf.2.1) (by rw [sR_wI, sR_wI, he.1.1]; exact hkf.2.2.1)) (fun S' a => p_ret a)
theorem osub : ∀ a, a < 61 → ∀ b, b < 61 → b ≤ a → Int32.ofNat a - Int32.ofNat b = Int32.ofNat (a - b) := by decide +kernel
theorem cnt_set {f g : Nat → Int32} {n s : Nat} (hs : s < n) (h1 : f s = 1) (h0 : g s = 0) (h : ∀ x, x ≠ s → g x = f x) : cnt g n + 1 = cnt f n := by
  have := cnt_one (f := g) (g := f) (i := s) h hs
  rw [h1, h0, if_pos rfl, if_neg (by decide)] at this
  omega
theorem EE_mark (st : ST T S0 m0 n nf nt) (he : EE d T S0 m0 n nf S m) {s : Nat} (hs : s < n) (h1 : sI m 89 s = 1) {S' m' : AS} (a : AWK (wI (wI S (lel S0 19 s) 6 0) 4 9 (sI S 4 9 - 1)) S' (Int32.ofNat 1) (Int32.ofNat s)) (b : AWM (wI m 89 s 0) m' (Int32.ofNat 1) (Int32.ofNat s)) :
    EE d T S0 m0 n nf S' m' ∧ sI m' 89 s = 0 ∧ (∀ x, x ≠ s → sI m' 89 x = sI m 89 x) ∧ cnt (sI m' 89) n + 1 = cnt (sI m 89) n ∧ sI m' 103 = sI m 103 := by
  obtain ⟨hK, hM, hS, hl, hg, ha, hz⟩ := he
  obtain ⟨t4, t5, t6, t7, -⟩ := st.1.1
  obtain ⟨n60, nf60, -⟩ := st.2.2.2.1
  have ts := (ST_s st hs).1
  have n4 : lel S0 19 s ≠ 4 := fun q => by rw [q, t4] at ts; cases ts
  have z1 : sI m' 89 s = 0 := by rw [b.1.2.2 89 s (by omega) (by omega) (by omega) (by omega), ti_sI_eq]
  have z2 : ∀ x, x ≠ s → sI m' 89 x = sI m 89 x := fun x hx => by rw [b.1.2.2 89 x (by omega) (by omega) (by omega) (by omega), ti_sI_ne (fun q => hx q.2)]
  have zc := cnt_set hs h1 z1 z2
  have z3 : sI m' 103 = sI m 103 := funext fun x => by rw [b.1.2.2 103 x (by omega) (by omega) (by omega) (by omega), ti_sI_ne (by omega)]
  have c60 := cnt_le (sI m 89) n
  refine ⟨⟨KE_a (KE_w (KE_w hK ts (by decide)) t4 (by decide)) t5 t6 t7 a, ME_a (ME_w hM (by rfl)) b, fun x hx => ?_, ?_, fun x hx => ?_, ?_, fun x hx hx2 v hv => ?_⟩, z1, z2, zc, z3⟩
  · have tx := (ST_s st hx).1
    have ne : ∀ y τ, T y = τ → τ ≠ 43 → lel S0 19 x ≠ y := fun y τ hy ht q => by
      rw [q, hy] at tx
      exact ht tx
    rw [a.1.2.2 _ _ (ne _ _ t5 (by decide)) (ne _ _ t6 (by decide)) (ne _ _ t7 (by decide)), ti_sI_ne (fun q => ne _ _ t4 (by decide) q.1)]
    by_cases c : x = s
    · rw [c, ti_sI_eq, z1]
      exact ⟨rfl, Or.inl rfl⟩
    · rw [ti_sI_ne (fun q => c (ST_si st hx hs q.1)), z2 x c]
      exact hS x hx
  · rw [a.1.2.2 4 9 (by omega) (by omega) (by omega), ti_sI_eq, hl]
    rw [show (1 : Int32) = Int32.ofNat 1 from rfl, osub _ (by omega) 1 (by omega) (by omega)]
    congr 1
    omega
  · have tx := (ST_f st hx).1
    have ne : ∀ y τ, T y = τ → τ ≠ 44 → lel S0 23 x ≠ y := fun y τ hy ht q => by
      rw [q, hy] at tx
      exact ht tx
    have r : ∀ j, sI S' (lel S0 23 x) j = sI S (lel S0 23 x) j := fun j => by
      rw [a.1.2.2 _ _ (ne _ _ t5 (by decide)) (ne _ _ t6 (by decide)) (ne _ _ t7 (by decide)), ti_sI_ne (fun q => ne _ _ t4 (by decide) q.1), ti_sI_ne (fun q => ne _ _ ts (by decide) q.1)]
    have w : ∀ j, sI m' 116 j = sI m 116 j := fun j => by rw [b.1.2.2 116 j (by omega) (by omega) (by omega) (by omega), ti_sI_ne (by omega)]
    obtain ⟨h1, h2, h3⟩ := hg x hx
    refine ⟨by rw [r, z3]; exact h1, fun v hv => by rw [r, w]; exact h2 v hv, fun q v hv => by rw [w]; exact h3 (by rw [← z3]; exact q) v hv⟩
  · refine AU_w (k := 1) (nu := s) (lv := sI m 89) (n := n) (S := wI (wI S (lel S0 19 s) 6 0) 4 9 (sI S 4 9 - 1)) (m := wI m 89 s 0) (AU_cong ha ?_ ?_ ?_ ?_ ?_ rfl) ?_ n60 n60 (by omega) (by omega) a b (fun x _ => by omega) (fun x hx => ?_) (fun x hx => ?_)
    · rw [ti_sI_ne (by omega), ti_sI_ne (fun q => by rw [← q.1, t5] at ts; cases ts)]
    · exact funext fun j => by rw [ti_sI_ne (by omega), ti_sI_ne (fun q => by rw [← q.1, t6] at ts; cases ts)]
    · exact ti_sI_ne (by omega)
    · exact funext fun j => ti_sI_ne (by omega)
    · exact funext fun j => ti_sI_ne (by omega)
    · show sL m 123 = 1200
      rw [hM.2.1]
      exact st.2.2.2.1.2.2.2.2.2.2.2.2
    · by_cases c : x = s
      · subst c
        rw [z1]
        exact ⟨fun _ => Or.inr ⟨rfl, rfl⟩, fun _ => ⟨hs, by decide⟩⟩
      · rw [z2 x c]
        exact ⟨Or.inl, fun q => q.elim id (fun z => absurd z.2.symm c)⟩
    · by_cases c : x = s
      · subst c
        exact Or.inr ⟨rfl, Or.inr ⟨rfl, by rw [z1]; decide⟩⟩
      · exact Or.inl ⟨z2 x c, hx, Or.inr (fun q => c q.symm)⟩
  · rw [b.1.2.2 116 _ (by omega) (by omega) (by omega) (by omega), ti_sI_ne (by omega)]
    exact hz x hx hx2 v hv
/-- a session ends: those that belong to it -/
theorem h_eS_L (st : ST T S0 m0 n nf nt) {s : Nat} (hs : s < n) : ∀ (k i fu fu' c : Nat) (S m : AS), i + k = n → EE d T S0 m0 n nf S m → sI m 89 s = 0 →
    H2 (f_K_endSession_L7 fu S (some 4) (some (lel S0 19 s)) (Int32.ofNat i)) (f_M_endSession_L17 fu' m (some 57) (Int32.ofNat s) (Int32.ofNat c) (Int32.ofNat i)) (fun a b => ∃ S' c' m', a = (.inl (), S') ∧ b = (Int32.ofNat c', m') ∧ EE d T S0 m0 n nf S' m' ∧ c' + cnt (sI m' 89) n = c + cnt (sI m 89) n ∧ sI m' 89 s = 0)
  | _, _, 0, _, _, _, _, _, _, _ => h2_l0
  | _, _, _ + 1, 0, _, _, _, _, _, _ => h2_m0
  | 0, i, fu + 1, fu' + 1, c, S, m, hk, he, h0 => by
    unfold f_K_endSession_L7 f_K_endSession_C7 f_M_endSession_L17 f_M_endSession_C17
    have hkf := st.1.2.1
    obtain ⟨e19, e30, -, -⟩ := ET st he
    obtain ⟨n60, nf60, -⟩ := st.2.2.2.1
    have le : Int32.ofNat n ≤ Int32.ofNat i := (ole (by omega) (by omega)).mpr (by omega)
    refine l_of (st_gRe (show sR S 4 8 = some 19 by rw [he.1.1]; exact hkf.1 8 19 rfl)) (l_of st_rv (l_of st_size (l_of (st_T (by rw [e19]; exact le)) (l_of st_rv ?_))))
    refine m_of (st_gIe e30) (m_of (st_T le) (m_of st_rv ?_))
    refine h2_xd (h_eFs st he hs) (fun v S' m' p => ?_) (fun v S' m' p => ?_)
    · obtain ⟨S2, e, he', e89, e49⟩ := p
      cases e
      exact h2_ret ⟨S', c, m', rfl, rfl, he', by rw [e89], by rw [e89]; exact h0⟩
    · obtain ⟨S2, e, -⟩ := p
      cases e
  | k + 1, i, fu + 1, fu' + 1, c, S, m, hk, he, h0 => by
    unfold f_K_endSession_L7 f_K_endSession_C7 f_M_endSession_L17 f_M_endSession_C17
    have hkf := st.1.2.1
    have hm := MF_e st.2.2.1 he.2.1.1
    obtain ⟨e19, e30, -, -⟩ := ET st he
    obtain ⟨n60, nf60, -⟩ := st.2.2.2.1
    have le : ¬ Int32.ofNat n ≤ Int32.ofNat i := fun q => by
      have := (ole (by omega) (by omega)).mp q
      omega
    have r8 : sR S 4 8 = some 19 := by rw [he.1.1]; exact hkf.1 8 19 rfl
    have hi : i < n := by omega
    refine l_of (st_gRe r8) (l_of st_rv (l_of st_size (l_of (st_F (by rw [e19]; exact le)) ?_)))
    refine l_of (st_gRe r8) (l_of st_rv (l_of (st_get (oc (by omega)) (EE_get he (ST_s st hi).2)) (l_of st_cc (l_of st_gR (l_of st_ac (l_of st_ac ?_))))))
    refine m_of (st_gIe e30) (m_of (st_F le) (m_of (st_gRe (hm 35 89 rfl)) (m_of (st_aIe (oc (by omega)) rfl) ?_)))
    have ow : sR S (lel S0 19 i) 2 = some (lel S0 19 s) ↔ sI m 88 i = Int32.ofNat s := by
      rw [he.1.1, he.2.1.2.2 88 i (by rfl)]
      exact (st.2.2.2.2.1 i hi).2.2 s hs
    obtain ⟨lv, l01⟩ := he.2.2.1 i hi
    have skip : H2 (f_K_endSession_B55 (f_K_endSession_L7 fu) S (some 4) (some (lel S0 19 s)) (Int32.ofNat i)) (f_M_endSession_B65 (f_M_endSession_L17 fu') m (some 57) (Int32.ofNat s) (Int32.ofNat c) (Int32.ofNat i)) (fun a b => ∃ S' c' m', a = (.inl (), S') ∧ b = (Int32.ofNat c', m') ∧ EE d T S0 m0 n nf S' m' ∧ c' + cnt (sI m' 89) n = c + cnt (sI m 89) n ∧ sI m' 89 s = 0) := by
      unfold f_K_endSession_B55 f_M_endSession_B65
      refine l_of st_val (m_of st_val ?_)
      rw [o1]
      exact h_eS_L st hs k (i + 1) fu fu' c S m (by omega) he h0
    by_cases c0 : sI m 89 i = 0
    · refine m_of (st_T c0) (l_if (fun _ => l_of st_gI (l_of (st_T (by rw [lv]; exact c0)) skip)) (fun _ => skip))
    · refine m_of (st_F c0) (m_of (st_gRe (hm 34 88 rfl)) (m_of (st_aIe (oc (by omega)) rfl) ?_))
      by_cases co : sI m 88 i = Int32.ofNat s
      · refine m_of (st_T co) (l_of (st_T (ow.mpr co)) (l_of st_gI (l_of (st_F (by rw [lv]; exact c0)) (l_of st_rv ?_))))
        refine m_of (st_gRe (hm 35 89 rfl)) (m_of (st_bZe (oc (by omega))) (m_of st_rv ?_))
        have i1 : sI m 89 i = 1 := l01.elim (fun q => absurd q c0) id
        refine l_pd (p_mark st he hi) (fun S1 a => m_pd (p_mw (MF_e hm rfl)) (fun m1 b => ?_))
        obtain ⟨he1, z1, z2, z3, -⟩ := EE_mark st he hi i1 a b
        refine l_of st_rv (m_of st_rv (h2_xd (h_eFs st he1 hi) (fun v S' m' p => ?_) (fun v S' m' p => ?_)))
        · obtain ⟨S2, e, he', e89, e49⟩ := p
          cases e
          refine m_of st_val ?_
          unfold f_K_endSession_B55 f_M_endSession_B65
          refine l_of st_val (m_of st_val ?_)
          rw [o1, o1]
          refine h2_mono (h_eS_L st hs k (i + 1) fu fu' (c + 1) S' m' (by omega) he' ?_) (fun a b p => ?_)
          · rw [e89]
            by_cases q : s = i
            · rw [q]; exact z1
            · rw [z2 s q]; exact h0
          · obtain ⟨S3, c3, m3, p1, p2, p3, p4, p5⟩ := p
            refine ⟨S3, c3, m3, p1, p2, p3, ?_, p5⟩
            rw [p4, e89]
            omega
        · obtain ⟨S2, e, -⟩ := p
          cases e
      · exact m_of (st_F co) (l_of (st_F (fun q => co (ow.mp q))) skip)
theorem h_eS (st : ST T S0 m0 n nf nt) (he : EE d T S0 m0 n nf S m) {s : Nat} (hs : s < n) (h1 : sI m 89 s = 1) : H2 (f_K_endSession S (some 4) (some (lel S0 19 s))) (f_M_endSession m (some 57) (Int32.ofNat s)) (fun a b => ∃ S' c' m', a = (.inl (), S') ∧ b = (Int32.ofNat c', m') ∧ EE d T S0 m0 n nf S' m' ∧ c' + cnt (sI m' 89) n = cnt (sI m 89) n ∧ sI m' 89 s = 0) := by
  have hm := MF_e st.2.2.1 he.2.1.1
  obtain ⟨n60, nf60, -⟩ := st.2.2.2.1
  unfold f_K_endSession f_M_endSession
  refine l_of st_rv (m_of (st_gRe (hm 35 89 rfl)) (m_of (st_bZe (oc (by omega))) (m_of st_rv ?_)))
  refine l_pd (p_mark st he hs) (fun S1 a => m_pd (p_mw (MF_e hm rfl)) (fun m1 b => ?_))
  obtain ⟨he1, z1, z2, z3, -⟩ := EE_mark st he hs h1 a b
  refine h2_mono (h_eS_L st hs n 0 kr_FU kr_FU 1 S1 m1 (by omega) he1 z1) (fun a b p => ?_)
  obtain ⟨S3, c3, m3, p1, p2, p3, p4, p5⟩ := p
  exact ⟨S3, c3, m3, p1, p2, p3, by omega, p5⟩
/-- all sessions of a person end -/
theorem h_eA_L (st : ST T S0 m0 n nf nt) {p : Nat} (hp : p < 6) : ∀ (k i fu fu' c b0 : Nat) (S m : AS), i + k = n → b0 ≤ 60 → EE d T S0 m0 n nf S m → c + cnt (sI m 89) n = b0 →
    H2 (f_K_endSessionsOf_L7 fu S (some 4) (some (29 + 4 * p)) (Int32.ofNat b0) (Int32.ofNat i)) (f_M_endAllOf_L4 fu' m (some 57) (Int32.ofNat p) (Int32.ofNat c) (Int32.ofNat i)) (fun a b => ∃ S' c' m', a = (.inl (Int32.ofNat c'), S') ∧ b = (Int32.ofNat c', m') ∧ EE d T S0 m0 n nf S' m' ∧ c' + cnt (sI m' 89) n = b0)
  | _, _, 0, _, _, _, _, _, _, _, _, _ => h2_l0
  | _, _, _ + 1, 0, _, _, _, _, _, _, _, _ => h2_m0
  | 0, i, fu + 1, fu' + 1, c, b0, S, m, hk, hb, he, hc => by
    unfold f_K_endSessionsOf_L7 f_K_endSessionsOf_C7 f_M_endAllOf_L4 f_M_endAllOf_C4
    have hkf := st.1.2.1
    obtain ⟨e19, e30, -, -⟩ := ET st he
    obtain ⟨n60, nf60, -⟩ := st.2.2.2.1
    have le : Int32.ofNat n ≤ Int32.ofNat i := (ole (by omega) (by omega)).mpr (by omega)
    refine l_of (st_gRe (show sR S 4 8 = some 19 by rw [he.1.1]; exact hkf.1 8 19 rfl)) (l_of st_rv (l_of st_size (l_of (st_T (by rw [e19]; exact le)) (l_of (st_gIe he.2.2.2.1) ?_))))
    refine m_of (st_gIe e30) (m_of (st_T le) ?_)
    have c60 := cnt_le (sI m 89) n
    rw [osub b0 (by omega) _ (by omega) (by omega), show b0 - cnt (sI m 89) n = c by omega]
    exact h2_ret ⟨S, c, m, rfl, rfl, he, hc⟩
  | k + 1, i, fu + 1, fu' + 1, c, b0, S, m, hk, hb, he, hc => by
    unfold f_K_endSessionsOf_L7 f_K_endSessionsOf_C7 f_M_endAllOf_L4 f_M_endAllOf_C4
    have hkf := st.1.2.1
    have hm := MF_e st.2.2.1 he.2.1.1
    obtain ⟨e19, e30, -, -⟩ := ET st he
    obtain ⟨n60, nf60, -⟩ := st.2.2.2.1
    have le : ¬ Int32.ofNat n ≤ Int32.ofNat i := fun q => by
      have := (ole (by omega) (by omega)).mp q
      omega
    have r8 : sR S 4 8 = some 19 := by rw [he.1.1]; exact hkf.1 8 19 rfl
    have hi : i < n := by omega
    obtain ⟨p', hp', pK, pM⟩ := (st.2.2.2.2.1 i hi).2.1
    refine l_of (st_gRe r8) (l_of st_rv (l_of st_size (l_of (st_F (by rw [e19]; exact le)) ?_)))
    refine l_of (st_gRe r8) (l_of st_rv (l_of (st_get (oc (by omega)) (EE_get he (ST_s st hi).2)) (l_of st_cc (l_of (st_gRe (v := some (29 + 4 * p')) (by rw [he.1.1]; exact pK)) (l_of st_ac (l_of st_ac ?_))))))
    refine m_of (st_gIe e30) (m_of (st_F le) (m_of (st_gRe (hm 35 89 rfl)) (m_of (st_aIe (oc (by omega)) rfl) ?_)))
    obtain ⟨lv, l01⟩ := he.2.2.1 i hi
    have pM : sI m 85 i = Int32.ofNat p' := (he.2.1.2.2 85 i (by rfl)).trans pM
    have skip : H2 (f_K_endSessionsOf_B54 (f_K_endSessionsOf_L7 fu) S (some 4) (some (29 + 4 * p)) (Int32.ofNat b0) (Int32.ofNat i)) (f_M_endAllOf_B40 (f_M_endAllOf_L4 fu') m (some 57) (Int32.ofNat p) (Int32.ofNat i) (Int32.ofNat c)) (fun a b => ∃ S' c' m', a = (.inl (Int32.ofNat c'), S') ∧ b = (Int32.ofNat c', m') ∧ EE d T S0 m0 n nf S' m' ∧ c' + cnt (sI m' 89) n = b0) := by
      unfold f_K_endSessionsOf_B54 f_M_endAllOf_B40 f_M_endAllOf_B41
      refine l_of st_val (m_of st_val (m_of st_val ?_))
      rw [o1, Int32.add_zero]
      exact h_eA_L st hp k (i + 1) fu fu' c b0 S m (by omega) hb he hc
    by_cases c0 : sI m 89 i = 0
    · refine m_of (st_T c0) (l_if (fun _ => l_of st_gI (l_of (st_T (by rw [lv]; exact c0)) skip)) (fun _ => skip))
    · refine m_of (st_F c0) (m_of (st_gRe (hm 31 85 rfl)) (m_of (st_aIe (oc (by omega)) pM) ?_))
      by_cases co : p' = p
      · subst co
        have i1 : sI m 89 i = 1 := l01.elim (fun q => absurd q c0) id
        refine m_of (st_T rfl) (l_of (st_T rfl) (l_of st_gI (l_of (st_F (by rw [lv]; exact c0)) (l_of st_rv (m_of st_rv ?_)))))
        refine h2_x2 (h_eS st he hi i1) (fun v S' u m' q => ?_) (fun v S' u m' q => ?_)
        · obtain ⟨S2, c', m2, e, f, he', h', -⟩ := q
          cases e
          cases f
          unfold f_K_endSessionsOf_B54 f_M_endAllOf_B41
          refine l_of st_val (m_of st_val (m_of st_val ?_))
          rw [o1, ← Int32.ofNat_add]
          exact h_eA_L st hp k (i + 1) fu fu' (c + c') b0 S' m' (by omega) hb he' (by omega)
        · obtain ⟨S2, c', m2, e, -⟩ := q
          cases e
      · exact m_of (st_F (fun z => co (oinj (by omega) (by omega) z))) (l_of (st_F (fun z => co (by have := Option.some.inj z; omega))) skip)
theorem h_eA (st : ST T S0 m0 n nf nt) (he : EE d T S0 m0 n nf S m) {p : Nat} (hp : p < 6) : H2 (f_K_endSessionsOf S (some 4) (some (29 + 4 * p))) (f_M_endAllOf m (some 57) (Int32.ofNat p)) (fun a b => ∃ S' c' m', a = (.inl (Int32.ofNat c'), S') ∧ b = (Int32.ofNat c', m') ∧ EE d T S0 m0 n nf S' m') := by
  obtain ⟨n60, nf60, -⟩ := st.2.2.2.1
  have c60 := cnt_le (sI m 89) n
  unfold f_K_endSessionsOf f_M_endAllOf
  refine l_of (st_gIe he.2.2.2.1) ?_
  refine h2_mono (h_eA_L st hp n 0 kr_FU kr_FU 0 _ S m (by omega) (by omega) he (Nat.zero_add _)) (fun a b q => ?_)
  obtain ⟨S2, c', m2, e, f, he', -⟩ := q
  exact ⟨S2, c', m2, e, f, he'⟩
end
end
section
/-! ===== twenty bits ===== -/
theorem bt_and (a b : Int32) (j : Nat) : bt (a &&& b) j = (bt a j && bt b j) := by
  unfold bt
  rw [Int32.toBitVec_and, BitVec.getLsbD_and]
theorem shl20 : ∀ n, n < 20 → ∀ j, j < 32 → bt ((1 : Int32) <<< (Int32.ofNat n &&& 31)) j = decide (j = n) := by decide +kernel
theorem msk20 : ∀ n, n < 20 → ∀ j, j < 32 → bt (((1 : Int32) <<< (Int32.ofNat n &&& 31)) ^^^ (-1 : Int32)) j = decide (j ≠ n) := by decide +kernel
theorem bt_sh20 (x : Int32) {v : Nat} (hv : v < 20) (j : Nat) : bt (x ||| ((1 : Int32) <<< (Int32.ofNat v &&& 31))) j = true ↔ bt x j = true ∨ j = v := by
  rw [bt_or]
  by_cases c : j < 32
  · rw [shl20 v hv j c, Bool.or_eq_true, decide_eq_true_iff]
  · rw [bt_big (by omega), bt_big (by omega)]
    constructor
    · intro q; cases q
    · rintro (q | q)
      · cases q
      · omega
theorem bt_cl20 (x : Int32) {v : Nat} (hv : v < 20) {j : Nat} (hj : j < 32) : bt (x &&& (((1 : Int32) <<< (Int32.ofNat v &&& 31)) ^^^ (-1 : Int32))) j = true ↔ bt x j = true ∧ j ≠ v := by
  rw [bt_and, msk20 v hv j hj, Bool.and_eq_true, decide_eq_true_iff]
theorem shr_20 : ∀ j, j < 20 → (((Int32.ofNat j &&& 31 : Int32).toBitVec).smod 32).toNat = j := by decide +kernel
theorem bt_test20 (x : Int32) {j : Nat} (h : j < 20) : ((x >>> (Int32.ofNat j &&& 31)) &&& (1 : Int32)) = (1 : Int32) ↔ bt x j = true := by
  rw [← Int32.toBitVec_inj, Int32.toBitVec_and, Int32.toBitVec_shiftRight]
  show (_ &&& 1#32) = 1#32 ↔ _
  rw [and1, BitVec.sshiftRight', shr_20 j h, BitVec.getLsbD_sshiftRight]
  unfold bt
  rw [if_pos (by omega)]
  simp
theorem bt_is20 {x : Int32} {v : Nat} (hv : v < 20) (S : AS) : f_K_isIn S (Int32.ofNat v) x = some (if bt x v = true then 1 else 0, S) := by
  unfold f_K_isIn
  by_cases c : bt x v = true
  · rw [if_pos ((bt_test20 x hv).mpr c), if_pos c]
  · rw [if_neg (fun q => c ((bt_test20 x hv).mp q)), if_neg c]
/-! ===== the keys ===== -/
def KP (t : Int) (m : AS) (k : Nat) : Prop := (k : Int) < (sI m 57 60).toInt ∧ sI m 111 k = 0 ∧ (sI m 112 k = -1 ∨ t < (sI m 112 k).toInt)
def KY (t : Int) (S m : AS) : Prop := ∃ c g : Nat, (1 ≤ c ∧ c ≤ 20 ∧ g < c) ∧ (sI m 57 60 = Int32.ofNat c ∧ sI m 57 61 = Int32.ofNat g) ∧ (sI S 25 0 = sI m 57 60 ∧ sI S 25 1 = sI m 57 61 ∧ sI S 25 2 = sI m 57 62 ∧ sI S 25 3 = sI m 57 63) ∧ sI m 112 g = -1 ∧
  (sI m 57 62 = -1 ∨ ∃ w, w < c ∧ w ≠ g ∧ sI m 57 62 = Int32.ofNat w ∧ sI m 112 w = -1) ∧
  (∀ k, k < 20 → (sI m 112 k = -1 ∧ sI S 26 k = 0) ∨ (sI m 112 k = sI S 26 k ∧ 1 ≤ (sI S 26 k).toInt)) ∧
  (∀ k, k < 20 → c ≤ k → sI m 111 k = 0 ∧ sI m 112 k = -1) ∧ (∀ k, k < 20 → (bt (sI S 25 4) k = true ↔ KP t m k))
theorem z_KY : KY 0 kr_Z kr_Z := by
  refine ⟨1, 0, by decide, by decide +kernel, by decide +kernel, by decide +kernel, Or.inl (by decide +kernel), ?_, ?_, ?_⟩
  · have h : (List.range 20).all (fun k => sI kr_Z 112 k == -1 && sI kr_Z 26 k == 0) = true := by decide +kernel
    intro k hk
    have := List.all_eq_true.mp h k (List.mem_range.mpr hk)
    simp only [Bool.and_eq_true, beq_iff_eq] at this
    exact Or.inl this
  · have h : (List.range 20).all (fun k => sI kr_Z 111 k == 0 && sI kr_Z 112 k == -1) = true := by decide +kernel
    intro k hk _
    have := List.all_eq_true.mp h k (List.mem_range.mpr hk)
    simp only [Bool.and_eq_true, beq_iff_eq] at this
    exact this
  · have h : (List.range 20).all (fun k => bt (sI kr_Z 25 4) k == (decide (k = 0))) = true := by decide +kernel
    have h1 : (List.range 20).all (fun k => sI kr_Z 111 k == 0 && sI kr_Z 112 k == -1) = true := by decide +kernel
    have h2 : (sI kr_Z 57 60).toInt = 1 := by decide +kernel
    intro k hk
    have a := List.all_eq_true.mp h k (List.mem_range.mpr hk)
    have b := List.all_eq_true.mp h1 k (List.mem_range.mpr hk)
    simp only [Bool.and_eq_true, beq_iff_eq] at a b
    unfold KP
    rw [a, h2, decide_eq_true_iff]
    exact ⟨fun q => ⟨by omega, b.1, Or.inl b.2⟩, fun q => by have := q.1; omega⟩
/-- all but the keys and the audit as before -/
def KKo (S S' : AS) : Prop := sR S' = sR S ∧ sL S' = sL S ∧ ∀ p j, p ≠ 5 → p ≠ 6 → p ≠ 7 → p ≠ 25 → p ≠ 26 → sI S' p j = sI S p j
theorem p_retire_L {now : Int32} {c : Nat} (hc : c ≤ 20) : ∀ (k i fu : Nat) (S : AS), i + k = c → sR S 25 5 = some 26 → sI S 25 0 = Int32.ofNat c →
    Hp (f_Keyring_retire_L2 fu S (some 25) now (Int32.ofNat i)) (fun S' => sR S' = sR S ∧ sL S' = sL S ∧ (∀ p j, ¬ (p = 25 ∧ j = 4) → sI S' p j = sI S p j) ∧ ∀ x, x < 20 → (bt (sI S' 25 4) x = true ↔ bt (sI S 25 4) x = true ∧ ¬ (i ≤ x ∧ x < c ∧ sI S 26 x = now)))
  | _, _, 0, _, _, _, _ => p_0
  | 0, i, fu + 1, S, hk, hr, hn => by
    unfold f_Keyring_retire_L2 f_Keyring_retire_C2
    exact p_of (st_gIe hn) (p_of (st_T ((ole (by omega) (by omega)).mpr (by omega))) (p_ret ⟨rfl, rfl, fun _ _ _ => rfl, fun x hx => ⟨fun q => ⟨q, fun z => by omega⟩, fun q => q.1⟩⟩))
  | k + 1, i, fu + 1, S, hk, hr, hn => by
    unfold f_Keyring_retire_L2 f_Keyring_retire_C2
    refine p_of (st_gIe hn) (p_of (st_F (fun q => by have := (ole (by omega) (by omega)).mp q; omega)) (p_of (st_F (fun q => by
      have := (ole (a := 20) (b := i) (by omega) (by omega)).mp q
      omega)) (p_of (st_gRe hr) (p_of (st_aIe (oc (by omega)) rfl) (p_if (fun q => ?_) (fun q => ?_))))))
    · refine p_of st_gI (p_of st_pI ?_)
      unfold f_Keyring_retire_B40
      refine p_of st_val ?_
      rw [o1]
      refine p_mono (p_retire_L hc k (i + 1) fu _ (by omega) (by rw [sR_wI]; exact hr) (by rw [ti_sI_ne (by omega)]; exact hn)) (fun S' p => ?_)
      obtain ⟨p1, p2, p3, p4⟩ := p
      refine ⟨p1, p2, fun a b h => by rw [p3 a b h, ti_sI_ne h], fun x hx => ?_⟩
      rw [p4 x hx, ti_sI_eq, bt_cl20 _ (by omega) (by omega), ti_sI_ne (by omega)]
      constructor
      · rintro ⟨⟨q1, q2⟩, q3⟩
        exact ⟨q1, fun z => q3 ⟨by omega, z.2⟩⟩
      · rintro ⟨q1, q2⟩
        refine ⟨⟨q1, fun z => q2 ⟨by omega, by omega, by rw [z]; exact q⟩⟩, fun z => q2 ⟨by omega, z.2⟩⟩
    · unfold f_Keyring_retire_B40
      refine p_of st_val ?_
      rw [o1]
      refine p_mono (p_retire_L hc k (i + 1) fu S (by omega) hr hn) (fun S' p => ?_)
      obtain ⟨p1, p2, p3, p4⟩ := p
      refine ⟨p1, p2, p3, fun x hx => ?_⟩
      rw [p4 x hx]
      constructor
      · rintro ⟨q1, q2⟩
        refine ⟨q1, fun z => ?_⟩
        by_cases e : x = i
        · rw [e] at z; exact q z.2.2
        · exact q2 ⟨by omega, z.2⟩
      · rintro ⟨q1, q2⟩
        exact ⟨q1, fun z => q2 ⟨by omega, z.2⟩⟩
theorem p_due {S : AS} {now : Int32} : Hp (f_Keyring_isDueToSign S (some 25) now) (fun q => q.2 = S ∧ (q.1 = 0 ∨ q.1 = 1) ∧ (q.1 = 1 ↔ sI S 25 2 ≠ -1 ∧ ¬ now < sI S 25 3)) := by
  unfold f_Keyring_isDueToSign
  refine p_of st_gI (p_if (fun c => p_ret ⟨rfl, Or.inl rfl, fun q => absurd (show (0 : Int32) = 1 from q) (by decide), fun q => absurd c q.1⟩) (fun c => ?_))
  exact p_of st_gI (p_if (fun d => p_ret ⟨rfl, Or.inl rfl, fun q => absurd (show (0 : Int32) = 1 from q) (by decide), fun q => absurd d q.2⟩) (fun d => p_ret ⟨rfl, Or.inr rfl, fun _ => ⟨c, d⟩, fun _ => rfl⟩))
theorem p_put {S : AS} {now : Int32} {g : Nat} (hr : sR S 25 5 = some 26) (hg : sI S 25 1 = Int32.ofNat g) (h20 : g < 20) : Hp (f_Keyring_putWaitingToSign S (some 25) now) (fun S' => S' = wI (wI (wI S 26 g (now + 20)) 25 1 (sI S 25 2)) 25 2 (-1)) := by
  unfold f_Keyring_putWaitingToSign
  refine p_of (st_gIe hg) (p_of (st_F (fun q => by have := lt0.mp q; rw [oi (by omega)] at this; omega)) (p_of (st_gIe hg) (p_of (st_F (fun q => by
    have := (ole (a := 20) (b := g) (by omega) (by omega)).mp q
    omega)) (p_of (st_gRe hr) (p_of (st_gIe hg) (p_of (st_bIe (oc (by omega))) ?_))))))
  unfold f_Keyring_putWaitingToSign_B29
  exact p_of (st_gIe (ti_sI_ne (by omega))) (p_of st_pI (p_of st_pI (p_ret rfl)))
/-- what a minute does to the keys of the class: S2 with the waiting key signing or S itself, then those retired now -/
theorem p_B44 {S : AS} {c : Nat} (h4 : K4F S) (hc : c ≤ 20) (hn : sI S 25 0 = Int32.ofNat c) : Hp (f_K_turnKeys_B44 S (some 4)) (fun S' => sR S' = sR S ∧ sL S' = sL S ∧ (∀ p j, ¬ (p = 25 ∧ j = 4) → sI S' p j = sI S p j) ∧ ∀ x, x < 20 → (bt (sI S' 25 4) x = true ↔ bt (sI S 25 4) x = true ∧ ¬ (x < c ∧ sI S 26 x = sI S 4 0))) := by
  unfold f_K_turnKeys_B44
  refine p_of (st_gRe (h4.1 15 25 rfl)) (p_of st_gI (p_of st_rv ?_))
  unfold f_Keyring_retire
  refine p_bd (p_retire_L hc c 0 kr_FU S (by omega) h4.2.2.2 hn) (fun S' p => p_ret ?_)
  obtain ⟨p1, p2, p3, p4⟩ := p
  refine ⟨p1, p2, p3, fun x hx => ?_⟩
  rw [p4 x hx]
  exact ⟨fun q => ⟨q.1, fun z => q.2 ⟨Nat.zero_le _, z⟩⟩, fun q => ⟨q.1, fun z => q.2 z.2⟩⟩
/-- the keys a minute later, none coming to sign -/
theorem KY_min {t : Int} {S S' m m' : AS} (h : KY t S m) (ht : 0 ≤ t) (h0 : (sI S 4 0).toInt = t + 1) (e : ∀ p j, ¬ (p = 25 ∧ j = 4) → sI S' p j = sI S p j) (em : ∀ p j, p = 111 ∨ p = 112 ∨ p = 57 ∧ 60 ≤ j ∧ j ≤ 63 → sI m' p j = sI m p j)
    (eb : ∀ c, sI S 25 0 = Int32.ofNat c → c ≤ 20 → ∀ x, x < 20 → (bt (sI S' 25 4) x = true ↔ bt (sI S 25 4) x = true ∧ ¬ (x < c ∧ sI S 26 x = sI S 4 0))) : KY (t + 1) S' m' := by
  obtain ⟨c, g, h1, h2, h3, h4, h5, h6, h7, h8⟩ := h
  have m60 := em 57 60 (by omega)
  have m61 := em 57 61 (by omega)
  have m62 := em 57 62 (by omega)
  have m63 := em 57 63 (by omega)
  have m1 : ∀ k, sI m' 111 k = sI m 111 k := fun k => em 111 k (by omega)
  have m2 : ∀ k, sI m' 112 k = sI m 112 k := fun k => em 112 k (by omega)
  have k26 : ∀ k, sI S' 26 k = sI S 26 k := fun k => e 26 k (by omega)
  refine ⟨c, g, h1, ⟨by rw [m60]; exact h2.1, by rw [m61]; exact h2.2⟩, ⟨?_, ?_, ?_, ?_⟩, by rw [m2]; exact h4, ?_, fun k hk => by rw [m2, k26]; exact h6 k hk, fun k hk hk2 => by rw [m1, m2]; exact h7 k hk hk2, fun k hk => ?_⟩
  · rw [e 25 0 (by omega), m60]; exact h3.1
  · rw [e 25 1 (by omega), m61]; exact h3.2.1
  · rw [e 25 2 (by omega), m62]; exact h3.2.2.1
  · rw [e 25 3 (by omega), m63]; exact h3.2.2.2
  · rw [m62]
    rcases h5 with q | ⟨w, q1, q2, q3, q4⟩
    · exact Or.inl q
    · exact Or.inr ⟨w, q1, q2, q3, by rw [m2]; exact q4⟩
  · rw [eb c (h3.1.trans h2.1) h1.2.1 k hk, h8 k hk]
    unfold KP
    rw [m60, m1, m2, h2.1, oi (by omega)]
    rcases h6 k hk with ⟨q1, q2⟩ | ⟨q1, q2⟩
    · rw [q1, q2]
      constructor
      · rintro ⟨⟨z1, z2, z3⟩, z4⟩
        exact ⟨z1, z2, Or.inl rfl⟩
      · rintro ⟨z1, z2, z3⟩
        refine ⟨⟨z1, z2, Or.inl rfl⟩, fun z => ?_⟩
        have := congrArg Int32.toInt z.2
        rw [h0, show (0 : Int32).toInt = 0 from by decide] at this
        omega
    · have n1 : ¬ sI S 26 k = -1 := fun z => by rw [z] at q2; exact absurd q2 (by decide)
      rw [q1]
      constructor
      · rintro ⟨⟨z1, z2, z3⟩, z4⟩
        refine ⟨z1, z2, Or.inr ?_⟩
        have z3 := z3.resolve_left n1
        have : (sI S 26 k).toInt ≠ t + 1 := fun z => z4 ⟨by omega, Int32.toInt_inj.mp (z.trans h0.symm)⟩
        omega
      · rintro ⟨z1, z2, z3⟩
        have z3 := z3.resolve_left n1
        refine ⟨⟨z1, z2, Or.inr (by omega)⟩, fun z => ?_⟩
        have := congrArg Int32.toInt z.2
        omega
/-- the waiting key signs, in the minute t + 1 -/
theorem KY_sign {t : Int} {S m m' : AS} (h : KY t S m) (ht : 0 ≤ t) (ht2 : t < 30000) {now : Int32} (h0 : now.toInt = t + 1) {g : Nat} (hg : sI m 57 61 = Int32.ofNat g) (hg2 : g < 20) (hw : sI m 57 62 ≠ -1)
    (em : ∀ p j, p = 111 ∨ p = 57 ∧ (j = 60 ∨ j = 63) → sI m' p j = sI m p j) (e1 : sI m' 57 61 = sI m 57 62) (e2 : sI m' 57 62 = -1) (e3 : ∀ k, sI m' 112 k = if k = g then now + 20 else sI m 112 k) : KY t (wI (wI (wI S 26 g (now + 20)) 25 1 (sI S 25 2)) 25 2 (-1)) m' := by
  obtain ⟨c, g', h1, h2, h3, h4, h5, h6, h7, h8⟩ := h
  have gg : g' = g := oinj (by omega) (by omega) (h2.2.symm.trans hg)
  subst gg
  have n20 : (now + 20).toInt = t + 21 := by
    rw [Int32.toInt_add, h0, show (20 : Int32).toInt = 20 from by decide]
    exact (bm (by omega) (by omega)).trans (by omega)
  obtain ⟨w, q1, q2, q3, q4⟩ := h5.resolve_left hw
  have m60 := em 57 60 (by omega)
  have m63 := em 57 63 (by omega)
  have m1 : ∀ k, sI m' 111 k = sI m 111 k := fun k => em 111 k (by omega)
  refine ⟨c, w, ⟨h1.1, h1.2.1, q1⟩, ⟨by rw [m60]; exact h2.1, by rw [e1]; exact q3⟩, ⟨?_, ?_, ?_, ?_⟩, ?_, Or.inl e2, fun k hk => ?_, fun k hk hk2 => ?_, fun k hk => ?_⟩
  · rw [ti_sI_ne (by omega), ti_sI_ne (by omega), ti_sI_ne (by omega), m60]; exact h3.1
  · rw [ti_sI_ne (by omega), ti_sI_eq, e1]; exact h3.2.2.1
  · rw [ti_sI_eq, e2]
  · rw [ti_sI_ne (by omega), ti_sI_ne (by omega), ti_sI_ne (by omega), m63]; exact h3.2.2.2
  · rw [e3, if_neg q2]; exact q4
  · rw [e3, ti_sI_ne (by omega), ti_sI_ne (by omega)]
    by_cases ck : k = g'
    · subst ck
      rw [if_pos rfl, ti_sI_eq]
      exact Or.inr ⟨rfl, by omega⟩
    · rw [if_neg ck, ti_sI_ne (fun z => ck z.2)]
      exact h6 k hk
  · rw [m1, e3, if_neg (by omega)]
    exact h7 k hk hk2
  · rw [ti_sI_ne (by omega), ti_sI_ne (by omega), ti_sI_ne (by omega), h8 k hk]
    unfold KP
    rw [m60, m1, e3]
    by_cases ck : k = g'
    · subst ck
      rw [if_pos rfl, h4]
      exact ⟨fun z => ⟨z.1, z.2.1, Or.inr (by omega)⟩, fun z => ⟨z.1, z.2.1, Or.inl rfl⟩⟩
    · rw [if_neg ck]
end
section
/-! ===== minutes pass ===== -/
theorem oi4 {n : Nat} (h : n ≤ 4000) : (Int32.ofNat n).toInt = n := kw_nat h
theorem ole4 {a b : Nat} (ha : a ≤ 4000) (hb : b ≤ 4000) : Int32.ofNat a ≤ Int32.ofNat b ↔ a ≤ b := by
  rw [Int32.le_iff_toInt_le, oi4 ha, oi4 hb]
  omega
theorem h2_xk {α γ β : Type} {x : Option ((α ⊕ String) × AS)} {F : α → AS → Option ((γ ⊕ String) × AS)} {y : Option β} {P : (α ⊕ String) × AS → β → Prop} {Q : (γ ⊕ String) × AS → β → Prop} (hc : H2 x y P) (h : ∀ v S' b, P (.inl v, S') b → ∀ a, F v S' = some a → Q a b) (g : ∀ v S' b, P (.inr v, S') b → Q (.inr v, S') b) : H2 (kr_bx x F) y Q := fun a b ha hb => by
  match x, ha, hc with
  | some (.inl v, S'), ha, hc => exact h v S' b (hc _ _ rfl hb) a ha
  | some (.inr v, S'), ha, hc =>
    cases ha
    exact g v S' b (hc _ _ rfl hb)
def KX (τ j : Nat) : Bool := KW τ j || (τ == 1 && j == 0) || τ == 10 || τ == 11
def MX (p j : Nat) : Bool := MW p j || (p == 57 && (j == 0 || j == 60 || j == 61 || j == 62 || j == 63)) || p == 112
/-- everything else as before -/
def XO (T : Nat → Nat) (S m S' m' : AS) : Prop := sR S' = sR S ∧ sL S' = sL S ∧ sR m' = sR m ∧ sL m' = sL m ∧ (∀ k j, T k ≠ 0 → KX (T k) j = false → sI S' k j = sI S k j) ∧ (∀ p j, MX p j = false → sI m' p j = sI m p j)
theorem XO.k {T : Nat → Nat} {S m S' m' : AS} (h : XO T S m S' m') {k j τ : Nat} (hk : T k = τ) (h0 : τ ≠ 0) (hw : KX τ j = false) : sI S' k j = sI S k j := h.2.2.2.2.1 k j (by rw [hk]; exact h0) (by rw [hk]; exact hw)
theorem XO.m {T : Nat → Nat} {S m S' m' : AS} (h : XO T S m S' m') {p j : Nat} (hw : MX p j = false) : sI m' p j = sI m p j := h.2.2.2.2.2 p j hw
theorem XO_trans {T : Nat → Nat} {S m S' m' S2 m2 : AS} (h : XO T S m S' m') (g : XO T S' m' S2 m2) : XO T S m S2 m2 :=
  ⟨g.1.trans h.1, g.2.1.trans h.2.1, g.2.2.1.trans h.2.2.1, g.2.2.2.1.trans h.2.2.2.1, fun k j a b => (g.2.2.2.2.1 k j a b).trans (h.2.2.2.2.1 k j a b), fun p j a => (g.2.2.2.2.2 p j a).trans (h.2.2.2.2.2 p j a)⟩
theorem XO_E {T : Nat → Nat} {S0 m0 S m : AS} (hK : KE T S0 S) (hM : ME m0 m) : XO T S0 m0 S m :=
  ⟨hK.1, hK.2.1, hM.1, hM.2.1, fun k j a b => hK.2.2 k j a (by
    unfold KX at b
    simp only [Bool.or_eq_false_iff] at b
    exact b.1.1.1), fun p j a => hM.2.2 p j (by
    unfold MX at a
    simp only [Bool.or_eq_false_iff] at a
    exact a.1.1)⟩
theorem ST_tr {T : Nat → Nat} {S m S' m' : AS} {n nf nt : Nat} (h : ST T S m n nf nt) (x : XO T S m S' m') : ST T S' m' n nf nt := by
  obtain ⟨⟨s1, s2, s3, s4, s5, s6⟩, h2, h3, ⟨n60, nf60, nt200, a1, a2, a3, a4, a5, a6⟩, h5, h6, h7⟩ := h
  have e : ∀ l i, lel S' l i = lel S l i := fun l i => by
    unfold lel
    rw [x.1]
  refine ⟨⟨s1, ?_, by rw [x.2.1]; exact s3, s4, fun s hs => ?_, fun f hf => ?_⟩, fun i hi => by rw [x.1]; exact h2 i hi, MF_e h3 x.2.2.1, ⟨n60, nf60, nt200, ?_, ?_, ?_, ?_, ?_, ?_⟩, fun s hs => ?_, fun f hf => ?_, fun v hv => ?_⟩
  · unfold K4F
    rw [x.1]
    exact s2
  · rw [e, x.1]
    exact s5 s hs
  · rw [e, x.1]
    exact s6 f hf
  · exact (x.k s1.2.2.2.2.1 (by decide) (by decide)).trans a1
  · exact (x.m (by rfl)).trans a2
  · exact (x.k s1.2.2.2.2.2 (by decide) (by decide)).trans a3
  · exact (x.m (by rfl)).trans a4
  · exact (x.m (by rfl)).trans a5
  · rw [x.2.2.2.1]; exact a6
  · obtain ⟨b1, ⟨p, b2, b3, b4⟩, b5⟩ := h5 s hs
    rw [e, x.1, x.k (s5 s hs).1 (by decide) (by decide), x.m (p := 85) (by rfl), x.m (p := 88) (by rfl)]
    exact ⟨b1, ⟨p, b2, b3, b4⟩, fun o ho => by rw [e]; exact b5 o ho⟩
  · obtain ⟨b1, ⟨c, s, b2, b3, b4, b5, b6⟩, b7⟩ := h6 f hf
    rw [e, x.1, x.k (s6 f hf).1 (by decide) (by decide), x.k (s6 f hf).1 (by decide) (by decide)]
    refine ⟨b1, ⟨c, s, b2, b3, by rw [x.m (by rfl)]; exact b4, by rw [x.m (by rfl)]; exact b5, by rw [e]; exact b6⟩, fun v hv => ?_⟩
    rw [b7 v hv]
    constructor
    · rintro ⟨t, q1, q2, q3⟩
      exact ⟨t, q1, by rw [x.m (by rfl)]; exact q2, by rw [x.m (by rfl)]; exact q3⟩
    · rintro ⟨t, q1, q2, q3⟩
      exact ⟨t, q1, by rw [x.m (by rfl)] at q2; exact q2, by rw [x.m (by rfl)] at q3; exact q3⟩
  · rw [x.k (s4 v hv) (by decide) (by decide), x.m (by rfl)]
    exact h7 v hv
theorem KY_cong {t : Int} {S S' m m' : AS} (h : KY t S m) (e : ∀ j, sI S' 25 j = sI S 25 j) (e6 : ∀ j, sI S' 26 j = sI S 26 j) (em : ∀ p j, p = 111 ∨ p = 112 ∨ p = 57 ∧ 60 ≤ j ∧ j ≤ 63 → sI m' p j = sI m p j) : KY t S' m' := by
  obtain ⟨c, g, h1, h2, h3, h4, h5, h6, h7, h8⟩ := h
  have m60 := em 57 60 (by omega)
  have m61 := em 57 61 (by omega)
  have m62 := em 57 62 (by omega)
  have m63 := em 57 63 (by omega)
  have m1 : ∀ k, sI m' 111 k = sI m 111 k := fun k => em 111 k (by omega)
  have m2 : ∀ k, sI m' 112 k = sI m 112 k := fun k => em 112 k (by omega)
  refine ⟨c, g, h1, by rw [m60, m61]; exact h2, by rw [e, e, e, e, m60, m61, m62, m63]; exact h3, by rw [m2]; exact h4, ?_, fun k hk => by rw [m2, e6]; exact h6 k hk, fun k hk hk2 => by rw [m1, m2]; exact h7 k hk hk2, fun k hk => ?_⟩
  · rw [m62]
    rcases h5 with q | ⟨w, q1, q2, q3, q4⟩
    · exact Or.inl q
    · exact Or.inr ⟨w, q1, q2, q3, by rw [m2]; exact q4⟩
  · rw [e, h8 k hk]
    unfold KP
    rw [m60, m1, m2]
section
variable {T : Nat → Nat} {S0 m0 S m : AS} {n nf nt : Nat}
def UB (n : Nat) (S m : AS) : Prop := ∀ s, s < n → sI S (lel S 19 s) 5 = sI m 87 s ∧ sI S (lel S 19 s) 4 = sI m 86 s
/-- nobody is live -/
theorem p_none (hm : MF m) (h30 : sI m 57 30 = Int32.ofNat n) (n60 : n ≤ 60) (h0 : ∀ s, s < n → sI m 89 s = 0) {k45 : AS → Option Nat → Int32 → Int32 → Int32 → Option (Int32 × AS)} {x1 x4 : Int32} {c : Nat} : ∀ (k i fu : Nat), i + k = n →
    Hp (f_M_pass_L121 k45 fu m (some 57) x1 (Int32.ofNat c) x4 (Int32.ofNat i)) (fun b => k45 m (some 57) x1 (Int32.ofNat c) (x4 + 1) = some b)
  | _, _, 0, _ => p_0
  | 0, i, fu + 1, hk => by
    unfold f_M_pass_L121 f_M_pass_C121
    exact p_of (st_gIe h30) (p_of (st_T ((ole (by omega) (by omega)).mpr (by omega))) (p_of st_val (fun b hb => hb)))
  | k + 1, i, fu + 1, hk => by
    unfold f_M_pass_L121 f_M_pass_C121
    refine p_of (st_gIe h30) (p_of (st_F (fun q => by have := (ole (by omega) (by omega)).mp q; omega)) (p_of (st_gRe (hm 35 89 rfl)) (p_of (st_aIe (oc (by omega)) (h0 i (by omega))) (p_of (st_T rfl) ?_))))
    unfold f_M_pass_B179 f_M_pass_B180 f_M_pass_B198
    refine p_of (st_T rfl) (p_of st_val (p_of st_val ?_))
    rw [o1, Int32.add_zero]
    exact p_none hm h30 n60 h0 k (i + 1) fu (by omega)
/-- those that are too old end -/
theorem h_old_L (st : ST T S0 m0 n nf nt) (hnow : sI S0 4 0 = sI m0 57 0) (hub : UB n S0 m0) {k45 : AS → Option Nat → Int32 → Int32 → Int32 → Option (Int32 × AS)} {x1 x4 : Int32} {b0 : Nat} (hb : b0 ≤ 60) : ∀ (k i fu fu' c : Nat) (S m : AS), i + k = n → EE 0 T S0 m0 n nf S m → c + cnt (sI m 89) n = b0 →
    H2 (f_K_endOldSessions_L10 fu S (some 4) (Int32.ofNat i)) (f_M_pass_L121 k45 fu' m (some 57) x1 (Int32.ofNat c) x4 (Int32.ofNat i)) (fun a b => ∃ S' c' m', a = (.inl (), S') ∧ EE 0 T S0 m0 n nf S' m' ∧ c' + cnt (sI m' 89) n = b0 ∧ k45 m' (some 57) x1 (Int32.ofNat c') (x4 + 1) = some b)
  | _, _, 0, _, _, _, _, _, _, _ => h2_l0
  | _, _, _ + 1, 0, _, _, _, _, _, _ => h2_m0
  | 0, i, fu + 1, fu' + 1, c, S, m, hk, he, hc => by
    unfold f_K_endOldSessions_L10 f_K_endOldSessions_C10 f_M_pass_L121 f_M_pass_C121
    obtain ⟨e19, e30, -, -⟩ := ET st he
    obtain ⟨n60, nf60, -⟩ := st.2.2.2.1
    have le : Int32.ofNat n ≤ Int32.ofNat i := (ole (by omega) (by omega)).mpr (by omega)
    refine l_of (st_gRe (show sR S 4 8 = some 19 by rw [he.1.1]; exact st.1.2.1.1 8 19 rfl)) (l_of st_rv (l_of st_size (l_of (st_T (by rw [e19]; exact le)) ?_)))
    refine m_of (st_gIe e30) (m_of (st_T le) (m_of st_val (fun a b ha hb => ?_)))
    cases ha
    exact ⟨S, c, m, rfl, he, hc, hb⟩
  | k + 1, i, fu + 1, fu' + 1, c, S, m, hk, he, hc => by
    unfold f_K_endOldSessions_L10 f_K_endOldSessions_C10 f_M_pass_L121 f_M_pass_C121
    have hm := MF_e st.2.2.1 he.2.1.1
    obtain ⟨e19, e30, -, -⟩ := ET st he
    obtain ⟨n60, nf60, -⟩ := st.2.2.2.1
    have le : ¬ Int32.ofNat n ≤ Int32.ofNat i := fun q => by
      have := (ole (by omega) (by omega)).mp q
      omega
    have r8 : sR S 4 8 = some 19 := by rw [he.1.1]; exact st.1.2.1.1 8 19 rfl
    have hi : i < n := by omega
    have ts := (ST_s st hi).1
    obtain ⟨lv, l01⟩ := he.2.2.1 i hi
    obtain ⟨u1, u2⟩ := hub i hi
    have eN : sI S 4 0 = sI m0 57 0 := (KE_ty he.1 st.1.1.1 (by decide) (by decide)).trans hnow
    have e5 : sI S (lel S0 19 i) 5 = sI m0 87 i := (KE_ty he.1 ts (by decide) (by decide)).trans u1
    have e4 : sI S (lel S0 19 i) 4 = sI m0 86 i := (KE_ty he.1 ts (by decide) (by decide)).trans u2
    refine l_of (st_gRe r8) (l_of st_rv (l_of st_size (l_of (st_F (by rw [e19]; exact le)) ?_)))
    refine l_of (st_gRe r8) (l_of st_rv (l_of (st_get (oc (by omega)) (EE_get he (ST_s st hi).2)) (l_of st_cc (l_of (st_gIe lv) ?_))))
    refine m_of (st_gIe e30) (m_of (st_F le) (m_of (st_gRe (hm 35 89 rfl)) (m_of (st_aIe (oc (by omega)) rfl) ?_)))
    have skip : H2 (f_K_endOldSessions_B56 (f_K_endOldSessions_L10 fu) S (some 4) (Int32.ofNat i)) (f_M_pass_B179 k45 (f_M_pass_L121 k45 fu') m (some 57) x1 (Int32.ofNat c) x4 (Int32.ofNat i)) (fun a b => ∃ S' c' m', a = (.inl (), S') ∧ EE 0 T S0 m0 n nf S' m' ∧ c' + cnt (sI m' 89) n = b0 ∧ k45 m' (some 57) x1 (Int32.ofNat c') (x4 + 1) = some b) := by
      unfold f_K_endOldSessions_B56 f_M_pass_B179 f_M_pass_B180 f_M_pass_B198
      refine l_of st_val (m_of (st_T rfl) (m_of st_val (m_of st_val ?_)))
      rw [o1, Int32.add_zero]
      exact h_old_L st hnow hub hb k (i + 1) fu fu' c S m (by omega) he hc
    by_cases c0 : sI m 89 i = 0
    · exact l_of (st_T c0) (m_of (st_T c0) skip)
    · have i1 : sI m 89 i = 1 := l01.elim (fun q => absurd q c0) id
      refine l_of (st_F c0) (m_of (st_F c0) (l_of (st_gIe eN) (l_of st_rv ?_)))
      refine m_of (st_gIe (he.2.1.2.2 57 0 (by rfl))) (m_of (st_gRe (hm 33 87 rfl)) (m_of (st_aIe (oc (by omega)) (he.2.1.2.2 87 i (by rfl))) ?_))
      have ends : H2 ((kr_rv S 22 (some 4)).bind fun u16 => kr_bx (f_K_endSession S (some 4) (some (lel S0 19 i))) fun z18 S17 => f_K_endOldSessions_B56 (f_K_endOldSessions_L10 fu) S17 (some 4) (Int32.ofNat i)) (f_M_pass_B175 k45 (f_M_pass_L121 k45 fu') m (some 57) x1 (Int32.ofNat c) x4 (Int32.ofNat i)) (fun a b => ∃ S' c' m', a = (.inl (), S') ∧ EE 0 T S0 m0 n nf S' m' ∧ c' + cnt (sI m' 89) n = b0 ∧ k45 m' (some 57) x1 (Int32.ofNat c') (x4 + 1) = some b) := by
        unfold f_M_pass_B175 f_M_pass_B180
        refine l_of st_rv (m_of (st_F one0) (m_of st_rv (h2_x2 (h_eS st he hi i1) (fun v S' u m' q => ?_) (fun v S' u m' q => ?_))))
        · obtain ⟨S2, c', m2, e, f, he', h', -⟩ := q
          cases e
          cases f
          unfold f_K_endOldSessions_B56 f_M_pass_B198
          refine l_of st_val (m_of st_val (m_of st_val ?_))
          rw [o1, ← Int32.ofNat_add]
          exact h_old_L st hnow hub hb k (i + 1) fu fu' (c + c') S' m' (by omega) he' (by omega)
        · obtain ⟨S2, c', m2, e, -⟩ := q
          cases e
      have old : ∀ w, Hp (f_Session_isOldAt S (some (lel S0 19 i)) w) (fun q => q = (if 30 < w - sI m0 87 i ∨ ¬ w - sI m0 86 i ≤ 480 then 1 else 0, S)) := fun w => by
        unfold f_Session_isOldAt f_Session_isOldAt_B23
        refine p_of (st_gIe e5) (p_if (fun q => p_ret ?_) (fun q => p_of (st_gIe e4) (p_if (fun q2 => p_ret ?_) (fun q2 => p_ret ?_))))
        · rw [if_pos (Or.inl q)]
        · rw [if_neg (fun z => z.elim q (fun z => z q2))]
        · rw [if_pos (Or.inr q2)]
      refine l_p2 (old _) (fun v S' e => ?_)
      obtain ⟨ev, eS⟩ := Prod.mk.inj (show (v, S') = _ from e)
      rw [eS]
      by_cases q1 : 30 < sI m0 57 0 - sI m0 87 i
      · refine m_of (st_T q1) (l_of (st_F ?_) ends)
        rw [ev, if_pos (Or.inl q1)]
        exact one0
      · refine m_of (st_F q1) (m_of (st_gIe (he.2.1.2.2 57 0 (by rfl))) (m_of (st_gRe (hm 32 86 rfl)) (m_of (st_aIe (oc (by omega)) (he.2.1.2.2 86 i (by rfl))) ?_)))
        by_cases q2 : sI m0 57 0 - sI m0 86 i ≤ 480
        · refine m_of (st_T q2) (l_of (st_T ?_) skip)
          rw [ev, if_neg (fun z => z.elim q1 (fun z => z q2))]
        · refine m_of (st_F q2) (l_of (st_F ?_) ends)
          rw [ev, if_pos (Or.inr q2)]
          exact one0
theorem cnt0 {f : Nat → Int32} : ∀ {n : Nat}, cnt f n = 0 → ∀ s, s < n → f s ≠ 1
  | 0, _, s, hs => absurd hs (Nat.not_lt_zero _)
  | n + 1, h, s, hs => by
    have h : cnt f n + (if f n = 1 then 1 else 0) = 0 := h
    by_cases c : s = n
    · subst c
      intro q
      rw [if_pos q] at h
      omega
    · exact cnt0 (n := n) (by omega) s (by omega)
theorem h_old (st : ST T S m n nf nt) (he : EE 0 T S m n nf S m) (hnow : sI S 4 0 = sI m 57 0) (hub : UB n S m) {k45 : AS → Option Nat → Int32 → Int32 → Int32 → Option (Int32 × AS)} {x1 x4 : Int32} {b0 c : Nat} (hb : b0 ≤ 60) (hc : c + cnt (sI m 89) n = b0) :
    H2 (f_K_endOldSessions S (some 4)) (f_M_pass_B118 k45 m (some 57) x1 (Int32.ofNat c) x4) (fun a b => ∃ S' c' m', a = (.inl (), S') ∧ EE 0 T S m n nf S' m' ∧ c' + cnt (sI m' 89) n = b0 ∧ k45 m' (some 57) x1 (Int32.ofNat c') (x4 + 1) = some b) := by
  obtain ⟨n60, nf60, -⟩ := st.2.2.2.1
  unfold f_K_endOldSessions f_M_pass_B118
  refine l_of (st_gIe he.2.2.2.1) (l_if (fun q => ?_) (fun q => ?_))
  · have c60 := cnt_le (sI m 89) n
    have z : cnt (sI m 89) n = 0 := oinj (by omega) (by omega) q
    intro a b ha hb2
    cases ha
    refine ⟨S, c, m, rfl, he, hc, p_none st.2.2.1 st.2.2.2.1.2.2.2.2.1 n60 (fun s hs => ?_) n 0 kr_FU (by omega) b hb2⟩
    exact (he.2.2.1 s hs).2.elim id (fun w => absurd w (cnt0 z s hs))
  · exact h_old_L st hnow hub hb n 0 kr_FU kr_FU c S m (by omega) he hc
/-- what holds from minute to minute -/
def PI (T : Nat → Nat) (n nf nt : Nat) (S m : AS) : Prop := ST T S m n nf nt ∧ EE 0 T S m n nf S m ∧ (T 25 = 10 ∧ T 26 = 11) ∧ KY (sI m 57 0).toInt S m ∧ (sI S 4 0 = sI m 57 0 ∧ 0 ≤ (sI m 57 0).toInt) ∧ UB n S m
theorem EE_self (h : EE 0 T S0 m0 n nf S m) : EE 0 T S m n nf S m := by
  obtain ⟨hK, hM, h3, h4, h5, h6, h7⟩ := h
  have e : ∀ l i, lel S l i = lel S0 l i := fun l i => by
    unfold lel
    rw [hK.1]
  exact ⟨KE_rf T S, ME_rf m, fun s hs => by rw [e]; exact h3 s hs, h4, fun f hf => by rw [e]; exact h5 f hf, h6, h7⟩
/-- the keys' minute, then the sessions' -/
theorem h_min {T : Nat → Nat} {n nf nt : Nat} {S m : AS} (h : PI T n nf nt S m) (ht : (sI m 57 0).toInt < 30000) {k45 : AS → Option Nat → Int32 → Int32 → Int32 → Option (Int32 × AS)} {x1 x4 : Int32} {b0 c : Nat} (hb : b0 ≤ 60) (hc : c + cnt (sI m 89) n = b0) {α : Type} {G : AS → Option ((α ⊕ String) × AS)} {Q : (α ⊕ String) × AS → Int32 × AS → Prop}
    (hG : ∀ S' m' c', PI T n nf nt S' m' → (sI m' 57 0).toInt = (sI m 57 0).toInt + 1 → c' + cnt (sI m' 89) n = b0 → XO T S m S' m' → H2 (G S') (k45 m' (some 57) x1 (Int32.ofNat c') (x4 + 1)) Q) :
    H2 ((gI S 22 0 (some 4)).bind fun v2 => (pI S 22 0 (some 4) (v2 + (1 : Int32))).bind fun S3 => (kr_rv S3 22 (some 4)).bind fun u4 => (f_K_turnKeys S3 (some 4)).bind fun S5 => (kr_rv S5 22 (some 4)).bind fun u6 => kr_bx (f_K_endOldSessions S5 (some 4)) fun z8 S7 => G S7)
      ((gI m 23 0 (some 57)).bind fun v16 => (pI m 23 0 (some 57) (v16 + (1 : Int32))).bind fun S17 => (gI S17 23 62 (some 57)).bind fun v18 => if v18 = (-1 : Int32) then f_M_pass_B118 k45 S17 (some 57) x1 (Int32.ofNat c) x4 else (gI S17 23 0 (some 57)).bind fun v19 => (gI S17 23 63 (some 57)).bind fun v20 => if v19 < v20 then f_M_pass_B118 k45 S17 (some 57) x1 (Int32.ofNat c) x4 else
        (gR S17 23 65 (some 57)).bind fun v21 => (gI S17 23 61 (some 57)).bind fun v22 => (gI S17 23 0 (some 57)).bind fun v23 => (bI S17 v21 v22 (v23 + (20 : Int32))).bind fun S24 => (gI S24 23 62 (some 57)).bind fun v25 => (pI S24 23 61 (some 57) v25).bind fun S26 => (pI S26 23 62 (some 57) (-1 : Int32)).bind fun S27 => (gI S27 23 61 (some 57)).bind fun v28 => (kr_rv S27 23 (some 57)).bind fun u29 => (f_M_write S27 (some 57) (5 : Int32) v28).bind fun S30 => f_M_pass_B118 k45 S30 (some 57) x1 (Int32.ofNat c) x4) Q := by
  obtain ⟨st, he, ⟨t25, t26⟩, hy, ⟨hn, hn0⟩, hub⟩ := h
  obtain ⟨n60, nf60, -⟩ := st.2.2.2.1
  obtain ⟨t4, t5, t6, t7, -⟩ := st.1.1
  have hkf := st.1.2.1
  have hm := st.2.2.1
  have ha := he.2.2.2.2.2.1
  have e1 : (sI m 57 0 + 1).toInt = (sI m 57 0).toInt + 1 := by
    rw [Int32.toInt_add, show (1 : Int32).toInt = 1 from by decide]
    exact bm (by omega) (by omega)
  refine l_of (st_gIe hn) (l_of st_pI (l_of st_rv (m_of st_gI (m_of st_pI ?_))))
  -- behind the keys
  have go : ∀ S4 m4 : AS, XO T S m S4 m4 → KY ((sI m 57 0).toInt + 1) S4 m4 → AU 0 (sI m 89) n S4 m4 → sI S4 4 0 = sI m 57 0 + 1 → sI m4 57 0 = sI m 57 0 + 1 → (∀ k j τ, T k = τ → τ = 43 ∧ j = 6 ∨ τ = 1 ∧ j = 9 ∨ τ = 44 ∧ (j = 6 ∨ j = 11) → sI S4 k j = sI S k j) → (∀ p, p = 89 ∨ p = 103 ∨ p = 116 → sI m4 p = sI m p) →
      H2 ((kr_rv S4 22 (some 4)).bind fun u6 => kr_bx (f_K_endOldSessions S4 (some 4)) fun z8 S7 => G S7) (f_M_pass_B118 k45 m4 (some 57) x1 (Int32.ofNat c) x4) Q := fun S4 m4 x y au k0 q0 kS kM => by
    have st4 := ST_tr st x
    have e : ∀ l i, lel S4 l i = lel S l i := fun l i => by
      unfold lel
      rw [x.1]
    have e89 := kM 89 (by omega)
    have he4 : EE 0 T S4 m4 n nf S4 m4 := by
      refine ⟨KE_rf _ _, ME_rf _, fun s hs => ?_, ?_, fun f hf => ?_, ?_, by rw [kM 116 (by omega)]; exact he.2.2.2.2.2.2⟩
      · rw [e, kS _ 6 43 (ST_s st hs).1 (by omega), e89]
        exact he.2.2.1 s hs
      · rw [kS 4 9 1 t4 (by omega), e89]
        exact he.2.2.2.1
      · rw [e, kS _ 6 44 (ST_f st hf).1 (by omega), kS _ 11 44 (ST_f st hf).1 (by omega), kM 103 (by omega), kM 116 (by omega)]
        exact he.2.2.2.2.1 f hf
      · rw [e89]
        exact au
    have ub4 : UB n S4 m4 := fun s hs => by
      rw [e, x.k (ST_s st hs).1 (by decide) (by decide), x.k (ST_s st hs).1 (by decide) (by decide), x.m (by rfl), x.m (by rfl)]
      exact hub s hs
    refine l_of st_rv (h2_xk (h_old st4 he4 (k0.trans q0.symm) ub4 hb (by rw [e89]; exact hc)) (fun v S' b p a hha => ?_) (fun v S' b p => ?_))
    · obtain ⟨S2, c', m', e2, he', hc', hk⟩ := p
      cases e2
      have xe := XO_E he'.1 he'.2.1
      have n5 : sI S' 4 0 = sI m 57 0 + 1 := (KE_ty he'.1 t4 (by decide) (by decide)).trans k0
      have n6 : sI m' 57 0 = sI m 57 0 + 1 := (he'.2.1.2.2 57 0 (by rfl)).trans q0
      refine hG S' m' c' ⟨ST_tr st4 xe, EE_self he', ⟨t25, t26⟩, ?_, ⟨n5.trans n6.symm, by rw [n6, e1]; omega⟩, fun s hs => ?_⟩ (by rw [n6]; exact e1) hc' (XO_trans x xe) a b hha hk
      · rw [n6, e1]
        exact KY_cong y (fun j => KE_ty he'.1 t25 (by decide) (by rfl)) (fun j => KE_ty he'.1 t26 (by decide) (by rfl)) (fun p j q => he'.2.1.2.2 p j (by
          rcases q with rfl | rfl | ⟨rfl, q1, q2⟩
          · rfl
          · rfl
          · have : j = 60 ∨ j = 61 ∨ j = 62 ∨ j = 63 := by omega
            rcases this with rfl | rfl | rfl | rfl <;> rfl))
      · have e' : lel S' 19 s = lel S4 19 s := by
          unfold lel
          rw [he'.1.1]
        rw [e', KE_ty he'.1 (ST_s st4 hs).1 (by decide) (by decide), KE_ty he'.1 (ST_s st4 hs).1 (by decide) (by decide), he'.2.1.2.2 87 s (by rfl), he'.2.1.2.2 86 s (by rfl)]
        exact ub4 s hs
    · obtain ⟨S2, c', m', e2, -⟩ := p
      cases e2
  obtain ⟨kc, kg, y1, y2, y3, y4, y5, -⟩ := id hy
  have n1 : sI (wI S 4 0 (sI m 57 0 + 1)) 4 0 = sI m 57 0 + 1 := ti_sI_eq _ _ _ _
  have y3' : KY (sI m 57 0).toInt (wI S 4 0 (sI m 57 0 + 1)) (wI m 57 0 (sI m 57 0 + 1)) := KY_cong hy (fun j => ti_sI_ne (by omega)) (fun j => ti_sI_ne (by omega)) (fun p j q => ti_sI_ne (by omega))
  have hk3 : K4F (wI S 4 0 (sI m 57 0 + 1)) := hkf
  unfold f_K_turnKeys
  rw [show ∀ (x : Option (Option Nat)) (F : Option Nat → Option AS) (G : AS → Option ((α ⊕ String) × AS)), (x.bind F).bind G = x.bind (fun v => (F v).bind G) from fun x F G => Option.bind_assoc x F G]
  refine l_of (st_gRe (hk3.1 15 25 rfl)) ?_
  rw [show ∀ (x : Option Int32) (F : Int32 → Option AS) (G : AS → Option ((α ⊕ String) × AS)), (x.bind F).bind G = x.bind (fun v => (F v).bind G) from fun x F G => Option.bind_assoc x F G]
  refine l_of (st_gIe n1) ?_
  rw [show ∀ (x : Option Unit) (F : Unit → Option AS) (G : AS → Option ((α ⊕ String) × AS)), (x.bind F).bind G = x.bind (fun v => (F v).bind G) from fun x F G => Option.bind_assoc x F G]
  refine l_of st_rv ?_
  rw [show ∀ (x : Option (Int32 × AS)) (F : Int32 → AS → Option AS) (G : AS → Option ((α ⊕ String) × AS)), (kr_b2 x F).bind G = kr_b2 x (fun v s => (F v s).bind G) from fun x F G => by cases x <;> rfl]
  refine l_p2 p_due (fun v9 S8 p => ?_)
  obtain ⟨p0, p1, p2⟩ := p
  have p0 : S8 = _ := p0
  have p2 : v9 = 1 ↔ _ := p2
  rw [p0]
  rw [ti_sI_ne (by omega), ti_sI_ne (by omega), y3.2.2.1, y3.2.2.2] at p2
  have xo3 : XO T S m (wI S 4 0 (sI m 57 0 + 1)) (wI m 57 0 (sI m 57 0 + 1)) := ⟨rfl, rfl, rfl, rfl, fun k j a b => ti_sI_ne (fun q => by
    rw [q.1, q.2, t4] at b
    cases b), fun p j a => ti_sI_ne (fun q => by
    rw [q.1, q.2] at a
    cases a)⟩
  have skip : ¬ v9 = 1 → H2 ((if v9 = 0 then f_K_turnKeys_B44 (wI S 4 0 (sI m 57 0 + 1)) (some 4) else (gR (wI S 4 0 (sI m 57 0 + 1)) 22 15 (some 4)).bind fun v10 => (gI (wI S 4 0 (sI m 57 0 + 1)) 22 0 (some 4)).bind fun v11 => (kr_rv (wI S 4 0 (sI m 57 0 + 1)) 15 v10).bind fun u12 => (f_Keyring_putWaitingToSign (wI S 4 0 (sI m 57 0 + 1)) v10 v11).bind fun S13 => (gR S13 22 1 (some 4)).bind fun v14 => (gR S13 22 15 (some 4)).bind fun v15 => (gI S13 15 1 v15).bind fun v16 => (gI S13 22 0 (some 4)).bind fun v17 => (kr_rv S13 12 v14).bind fun u18 => (f_Audit_write S13 v14 (5 : Int32) v16 v17).bind fun S19 => f_K_turnKeys_B44 S19 (some 4)).bind fun S5 => (kr_rv S5 22 (some 4)).bind fun u6 => kr_bx (f_K_endOldSessions S5 (some 4)) fun z8 S7 => G S7) (f_M_pass_B118 k45 (wI m 57 0 (sI m 57 0 + 1)) (some 57) x1 (Int32.ofNat c) x4) Q := fun nv => by
    rw [if_pos (p1.resolve_right nv)]
    refine l_pd (p_B44 (S := wI S 4 0 (sI m 57 0 + 1)) hk3 y1.2.1 (by rw [ti_sI_ne (by omega)]; exact y3.1.trans y2.1)) (fun S5 p => ?_)
    obtain ⟨r1, r2, r3, r4⟩ := p
    refine go S5 (wI m 57 0 (sI m 57 0 + 1)) ?_ ?_ ?_ ?_ (ti_sI_eq _ _ _ _) ?_ ?_
    · refine XO_trans xo3 ⟨r1, r2, rfl, rfl, fun k j a b => r3 k j (fun q => ?_), fun _ _ _ => rfl⟩
      rw [q.1, q.2, t25] at b
      cases b
    · exact KY_min y3' hn0 (by rw [ti_sI_eq]; exact e1) r3 (fun _ _ _ => rfl) (fun c2 q1 q2 x hx => by
        have : c2 = kc := oinj (by omega) (by omega) (q1.symm.trans (by rw [ti_sI_ne (by omega)]; exact y3.1.trans y2.1))
        rw [this]
        exact r4 x hx)
    · exact AU_cong ha (by rw [r3 5 2 (by omega), ti_sI_ne (by omega)]) (funext fun j => by rw [r3 6 j (by omega), ti_sI_ne (by omega)]) (ti_sI_ne (by omega)) (funext fun j => ti_sI_ne (by omega)) (funext fun j => ti_sI_ne (by omega)) rfl
    · rw [r3 4 0 (by omega), ti_sI_eq]
    · intro k j τ hk q
      rw [r3 k j (fun z => by
        rw [z.1, t25] at hk
        omega), ti_sI_ne (fun z => by
        rw [z.1, t4] at hk
        omega)]
    · intro p q
      exact funext fun j => ti_sI_ne (by omega)
  have m62 : sI (wI m 57 0 (sI m 57 0 + 1)) 57 62 = sI m 57 62 := ti_sI_ne (by omega)
  have m63 : sI (wI m 57 0 (sI m 57 0 + 1)) 57 63 = sI m 57 63 := ti_sI_ne (by omega)
  refine m_of (st_gIe m62) ?_
  by_cases c1 : sI m 57 62 = -1
  · exact m_of (st_T c1) (skip (fun q => (p2.mp q).1 c1))
  refine m_of (st_F c1) (m_of (st_gIe (ti_sI_eq _ _ _ _)) (m_of (st_gIe m63) ?_))
  by_cases c2 : sI m 57 0 + 1 < sI m 57 63
  · exact m_of (st_T c2) (skip (fun q => (p2.mp q).2 c2))
  have v1 : v9 = 1 := p2.mpr ⟨c1, c2⟩
  obtain ⟨w, w1, w2, w3, w4⟩ := y5.resolve_left c1
  rw [if_neg (by rw [v1]; decide)]
  refine m_of (st_F c2) (m_of (st_gRe (MF_e hm rfl 65 112 rfl)) (m_of (st_gIe (v := Int32.ofNat kg) ((ti_sI_ne (by omega)).trans y2.2)) (m_of (st_gIe (ti_sI_eq _ _ _ _)) (m_of (st_bIe (oc (by omega))) ?_))))
  refine m_of (st_gIe (v := Int32.ofNat w) ((ti_sI_ne (by omega)).trans (m62.trans w3))) (m_of st_pI (m_of st_pI (m_of (st_gIe (v := Int32.ofNat w) ((ti_sI_ne (by omega)).trans (ti_sI_eq _ _ _ _))) (m_of st_rv ?_))))
  obtain ⟨m27, em27⟩ : ∃ m27, m27 = wI (wI (wI (wI m 57 0 (sI m 57 0 + 1)) 112 kg (sI m 57 0 + 1 + 20)) 57 61 (Int32.ofNat w)) 57 62 (-1) := ⟨_, rfl⟩
  rw [← em27]
  refine m_pd (p_mw (m := m27) (by rw [em27]; exact MF_e hm rfl)) (fun m30 b => ?_)
  have b : AWM m27 m30 (Int32.ofNat 5) (Int32.ofNat w) := b
  rw [show ∀ (x : Option (Option Nat)) (F : Option Nat → Option AS) (G : AS → Option ((α ⊕ String) × AS)), (x.bind F).bind G = x.bind (fun v => (F v).bind G) from fun x F G => Option.bind_assoc x F G]
  refine l_of (st_gRe (hk3.1 15 25 rfl)) ?_
  rw [show ∀ (x : Option Int32) (F : Int32 → Option AS) (G : AS → Option ((α ⊕ String) × AS)), (x.bind F).bind G = x.bind (fun v => (F v).bind G) from fun x F G => Option.bind_assoc x F G]
  refine l_of (st_gIe n1) ?_
  rw [show ∀ (x : Option Unit) (F : Unit → Option AS) (G : AS → Option ((α ⊕ String) × AS)), (x.bind F).bind G = x.bind (fun v => (F v).bind G) from fun x F G => Option.bind_assoc x F G]
  refine l_of st_rv ?_
  rw [show ∀ (x : Option AS) (F : AS → Option AS) (G : AS → Option ((α ⊕ String) × AS)), (x.bind F).bind G = x.bind (fun v => (F v).bind G) from fun x F G => Option.bind_assoc x F G]
  refine l_pd (p_put (g := kg) hk3.2.2.2 (by rw [ti_sI_ne (by omega)]; exact y3.2.1.trans y2.2) (by omega)) (fun S13 e13 => ?_)
  have e13 : S13 = wI (wI (wI (wI S 4 0 (sI m 57 0 + 1)) 26 kg (sI m 57 0 + 1 + 20)) 25 1 (sI (wI S 4 0 (sI m 57 0 + 1)) 25 2)) 25 2 (-1) := e13
  have y13 : KY (sI m 57 0).toInt S13 m27 := by
    rw [e13]
    refine KY_sign y3' hn0 ht e1 ((ti_sI_ne (by omega)).trans y2.2) (by omega) (by rw [m62]; exact c1) (fun p j q => ?_) ?_ ?_ (fun k => ?_)
    · rw [em27, ti_sI_ne (by omega), ti_sI_ne (by omega), ti_sI_ne (by omega)]
    · rw [em27, ti_sI_ne (by omega), ti_sI_eq, m62, w3]
    · rw [em27, ti_sI_eq]
    · rw [em27, ti_sI_ne (by omega), ti_sI_ne (by omega)]
      by_cases q : k = kg
      · rw [q, ti_sI_eq, if_pos rfl]
      · rw [ti_sI_ne (fun z => q z.2), if_neg q]
  have r13 : sR S13 = sR S := by rw [e13]; rfl
  have l13 : sL S13 = sL S := by rw [e13]; rfl
  have k13 : K4F S13 := by
    unfold K4F
    rw [r13]
    exact hkf
  have s13 : ∀ k j, k ≠ 25 → k ≠ 26 → ¬ (k = 4 ∧ j = 0) → sI S13 k j = sI S k j := fun k j a1 a2 a3 => by
    rw [e13, ti_sI_ne (fun q => a1 q.1), ti_sI_ne (fun q => a1 q.1), ti_sI_ne (fun q => a2 q.1), ti_sI_ne a3]
  have n13 : sI S13 4 0 = sI m 57 0 + 1 := by
    rw [e13, ti_sI_ne (by omega), ti_sI_ne (by omega), ti_sI_ne (by omega), ti_sI_eq]
  have g13 : sI S13 25 1 = Int32.ofNat w := by
    rw [e13, ti_sI_ne (by omega), ti_sI_eq, ti_sI_ne (by omega), y3.2.2.1, w3]
  have c13 : sI S13 25 0 = Int32.ofNat kc := by
    rw [e13, ti_sI_ne (by omega), ti_sI_ne (by omega), ti_sI_ne (by omega), ti_sI_ne (by omega), y3.1, y2.1]
  rw [show ∀ (x : Option (Option Nat)) (F : Option Nat → Option AS) (G : AS → Option ((α ⊕ String) × AS)), (x.bind F).bind G = x.bind (fun v => (F v).bind G) from fun x F G => Option.bind_assoc x F G]
  refine l_of (st_gRe (k13.1 1 5 rfl)) ?_
  rw [show ∀ (x : Option (Option Nat)) (F : Option Nat → Option AS) (G : AS → Option ((α ⊕ String) × AS)), (x.bind F).bind G = x.bind (fun v => (F v).bind G) from fun x F G => Option.bind_assoc x F G]
  refine l_of (st_gRe (k13.1 15 25 rfl)) ?_
  rw [show ∀ (x : Option Int32) (F : Int32 → Option AS) (G : AS → Option ((α ⊕ String) × AS)), (x.bind F).bind G = x.bind (fun v => (F v).bind G) from fun x F G => Option.bind_assoc x F G]
  refine l_of (st_gIe g13) ?_
  rw [show ∀ (x : Option Int32) (F : Int32 → Option AS) (G : AS → Option ((α ⊕ String) × AS)), (x.bind F).bind G = x.bind (fun v => (F v).bind G) from fun x F G => Option.bind_assoc x F G]
  refine l_of st_gI ?_
  rw [show ∀ (x : Option Unit) (F : Unit → Option AS) (G : AS → Option ((α ⊕ String) × AS)), (x.bind F).bind G = x.bind (fun v => (F v).bind G) from fun x F G => Option.bind_assoc x F G]
  refine l_of st_rv ?_
  rw [show ∀ (x : Option AS) (F : AS → Option AS) (G : AS → Option ((α ⊕ String) × AS)), (x.bind F).bind G = x.bind (fun v => (F v).bind G) from fun x F G => Option.bind_assoc x F G]
  refine l_pd (p_aw k13.2.1 k13.2.2.1) (fun S19 a => ?_)
  have a : AWK S13 S19 (Int32.ofNat 5) (Int32.ofNat w) := a
  have k19 : K4F S19 := by
    unfold K4F
    rw [a.1.1, r13]
    exact hkf
  refine l_pd (p_B44 k19 y1.2.1 (by rw [a.1.2.2 25 0 (by omega) (by omega) (by omega)]; exact c13)) (fun S5 p => ?_)
  obtain ⟨r1, r2, r3, r4⟩ := p
  have o27 : ∀ p j, p ≠ 112 → ¬ (p = 57 ∧ (j = 0 ∨ j = 61 ∨ j = 62)) → sI m27 p j = sI m p j := fun p j a1 a2 => by
    rw [em27, ti_sI_ne (by omega), ti_sI_ne (by omega), ti_sI_ne (by omega), ti_sI_ne (by omega)]
  refine go S5 m30 ⟨?_, ?_, ?_, ?_, fun k j q1 q2 => ?_, fun p j q => ?_⟩ ?_ ?_ ?_ ?_ ?_ ?_
  · rw [r1, a.1.1, r13]
  · rw [r2, a.1.2.1, l13]
  · rw [b.1.1, em27]; rfl
  · rw [b.1.2.1, em27]; rfl
  · have n5 : ∀ x, (T x = 2 ∨ T x = 3 ∨ T x = 4 ∨ T x = 10 ∨ T x = 11) → k ≠ x := fun x hx z => by
      rw [z] at q2
      rcases hx with hx | hx | hx | hx | hx <;> rw [hx] at q2 <;> cases q2
    rw [r3 k j (fun z => n5 25 (by omega) z.1), a.1.2.2 k j (n5 5 (by omega)) (n5 6 (by omega)) (n5 7 (by omega)), s13 k j (n5 25 (by omega)) (n5 26 (by omega)) (fun z => by
      rw [z.1, z.2, t4] at q2
      cases q2)]
  · rw [b.1.2.2 p j (fun z => by rw [z] at q; cases q) (fun z => by rw [z] at q; cases q) (fun z => by rw [z] at q; cases q) (fun z => by
      obtain ⟨z1, z2⟩ := z
      subst z1
      rcases z2 with rfl | rfl <;> cases q), o27 p j (fun z => by rw [z] at q; cases q) (fun z => by
      obtain ⟨z1, z2⟩ := z
      subst z1
      rcases z2 with rfl | rfl | rfl <;> cases q)]
  · refine KY_min (S := S19) (m := m30) (KY_cong y13 (fun j => a.1.2.2 25 j (by omega) (by omega) (by omega)) (fun j => a.1.2.2 26 j (by omega) (by omega) (by omega)) (fun p j q => b.1.2.2 p j (by omega) (by omega) (by omega) (by omega))) hn0 ?_ r3 (fun _ _ _ => rfl) (fun c2 q1 q2 x hx => ?_)
    · rw [a.1.2.2 4 0 (by omega) (by omega) (by omega), n13]
      exact e1
    · have : c2 = kc := oinj (by omega) (by omega) (q1.symm.trans (by rw [a.1.2.2 25 0 (by omega) (by omega) (by omega)]; exact c13))
      rw [this]
      exact r4 x hx
  · refine AU_cong (S := S19) (m := m30) (AU_w (k := 5) (nu := w) (lv := sI m 89) (lv' := sI m 89) (n := n) (n' := n) (S := S13) (m := m27) (AU_cong ha ?_ ?_ ?_ ?_ ?_ rfl) ?_ n60 n60 (by omega) (by omega) a b (fun s _ => by omega) (fun s _ => ⟨Or.inl, fun q => q.elim id (fun z => absurd z.1 (by decide))⟩) (fun s h => Or.inl ⟨rfl, h, Or.inl (by omega)⟩)) (r3 5 2 (by omega)) (funext fun j => r3 6 j (by omega)) rfl rfl rfl rfl
    · exact s13 5 2 (by omega) (by omega) (by omega)
    · exact funext fun j => s13 6 j (by omega) (by omega) (by omega)
    · exact o27 57 77 (by omega) (by omega)
    · exact funext fun j => o27 123 j (by omega) (by omega)
    · exact funext fun j => o27 124 j (by omega) (by omega)
    · rw [em27]
      exact st.2.2.2.1.2.2.2.2.2.2.2.2
  · rw [r3 4 0 (by omega), a.1.2.2 4 0 (by omega) (by omega) (by omega)]
    exact n13
  · rw [b.1.2.2 57 0 (by omega) (by omega) (by omega) (by omega), em27, ti_sI_ne (by omega), ti_sI_ne (by omega), ti_sI_ne (by omega), ti_sI_eq]
  · intro k j τ hk q
    have n5 : ∀ x τ', T x = τ' → τ' = 2 ∨ τ' = 3 ∨ τ' = 4 ∨ τ' = 10 ∨ τ' = 11 → k ≠ x := fun x τ' hx hz z => by
      rw [z, hx] at hk
      omega
    rw [r3 k j (fun z => n5 25 10 t25 (by omega) z.1), a.1.2.2 k j (n5 5 2 t5 (by omega)) (n5 6 3 t6 (by omega)) (n5 7 4 t7 (by omega)), s13 k j (n5 25 10 t25 (by omega)) (n5 26 11 t26 (by omega)) (fun z => by
      rw [z.1, t4] at hk
      omega)]
  · intro p q
    exact funext fun j => by rw [b.1.2.2 p j (by omega) (by omega) (by omega) (by omega), o27 p j (by omega) (by omega)]
theorem h_pass_L {mm b0 : Nat} (hmm : mm ≤ 600) (hb : b0 ≤ 60) : ∀ (k i fu fu' c : Nat) (S m : AS), i + k = mm → PI T n nf nt S m → (sI m 57 0).toInt + k ≤ 30000 → c + cnt (sI m 89) n = b0 →
    H2 (f_K_pass_L38 fu S (some 4) (Int32.ofNat mm) (Int32.ofNat b0) (Int32.ofNat i)) (f_M_pass_L45 fu' m (some 57) (Int32.ofNat mm) (Int32.ofNat c) (Int32.ofNat i)) (fun a b => ∃ S' c' m', a = (.inl (Int32.ofNat c'), S') ∧ b = (Int32.ofNat c', m') ∧ PI T n nf nt S' m' ∧ XO T S m S' m' ∧ (sI m' 57 0).toInt = (sI m 57 0).toInt + k)
  | _, _, 0, _, _, _, _, _, _, _, _ => h2_l0
  | _, _, _ + 1, 0, _, _, _, _, _, _, _ => h2_m0
  | 0, i, fu + 1, fu' + 1, c, S, m, hk, h, ht, hc => by
    unfold f_K_pass_L38 f_K_pass_C38 f_M_pass_L45 f_M_pass_C45
    have le : Int32.ofNat mm ≤ Int32.ofNat i := (ole4 (by omega) (by omega)).mpr (by omega)
    have c60 := cnt_le (sI m 89) n
    have n60 := h.1.2.2.2.1.1
    refine l_of (st_T le) (m_of (st_T le) (l_of (st_gIe h.2.1.2.2.2.1) ?_))
    rw [osub b0 (by omega) _ (by omega) (by omega), show b0 - cnt (sI m 89) n = c by omega]
    exact h2_ret ⟨S, c, m, rfl, rfl, h, ⟨rfl, rfl, rfl, rfl, fun _ _ _ _ => rfl, fun _ _ _ => rfl⟩, by omega⟩
  | k + 1, i, fu + 1, fu' + 1, c, S, m, hk, h, ht, hc => by
    unfold f_K_pass_L38 f_K_pass_C38 f_M_pass_L45 f_M_pass_C45
    have le : ¬ Int32.ofNat mm ≤ Int32.ofNat i := fun q => by
      have := (ole4 (by omega) (by omega)).mp q
      omega
    refine l_of (st_F le) (m_of (st_F le) ?_)
    refine h_min (k45 := f_M_pass_L45 fu') (G := fun S7 => (some (Int32.ofNat i + (1 : Int32))).bind fun i9 => f_K_pass_L38 fu S7 (some 4) (Int32.ofNat mm) (Int32.ofNat b0) i9) h (by omega) hb hc (fun S' m' c' h' ht' hc' x' => ?_)
    refine l_of st_val ?_
    rw [o1]
    refine h2_mono (h_pass_L hmm hb k (i + 1) fu fu' c' S' m' (by omega) h' (by omega) hc') (fun a b p => ?_)
    obtain ⟨S2, c2, m2, p1, p2, p3, p4, p5⟩ := p
    exact ⟨S2, c2, m2, p1, p2, p3, XO_trans x' p4, by omega⟩
end
end
section
/-! ===== the whole relation, by components: class cells of S, reference cells of m ===== -/
def Kp (T T' : Nat → Nat) (cs : List Nat) (S S' : AS) : Prop := (∀ k, T k ≠ 0 → T' k = T k) ∧ (∀ k j, T k ≠ 0 → cl (T k) j ∈ cs → sI S' k j = sI S k j) ∧ (∀ k j, T k ≠ 0 → cr (T k) j ∈ cs → sR S' k j = sR S k j)
theorem Kp_rf (T : Nat → Nat) (cs : List Nat) (S : AS) : Kp T T cs S S := ⟨fun _ _ => rfl, fun _ _ _ _ => rfl, fun _ _ _ _ => rfl⟩
theorem Kp_of {T T' : Nat → Nat} {w cs : List Nat} {S S' : AS} {c s : Nat} (hR : Rl T w S c s T' S') (hw : cs.all (fun z => !w.contains z) = true) : Kp T T' cs S S' := by
  have no : ∀ z, z ∈ cs → ¬ z ∈ w := fun z hz q => by
    have := List.all_eq_true.mp hw z hz
    rw [List.contains_iff_mem.mpr q] at this
    cases this
  exact ⟨hR.ty, fun k j h q => hR.fI k j h (no _ q), fun k j h q => hR.fR k j h (no _ q)⟩
theorem Kp_off {T T' : Nat → Nat} {w cs : List Nat} {S S' : AS} {c s : Nat} (hR : Rl T w S c s T' S') (hw : ∀ z ∈ w, ¬ z ∈ cs) : Kp T T' cs S S' := ⟨hR.ty, fun k j h q => hR.fI k j h (fun z => hw _ z q), fun k j h q => hR.fR k j h (fun z => hw _ z q)⟩
theorem Kp.A {T T' : Nat → Nat} {cs : List Nat} {S S' : AS} (h : Kp T T' cs S S') {k τ : Nat} (hk : T k = τ) (hd : 40 ≤ kd τ) (hz : 100 * τ ∈ cs) (j : Nat) : sI S' k j = sI S k j := by
  refine h.2.1 k j ?_ ?_
  · rw [hk]
    rintro rfl
    exact absurd hd (by decide)
  · rw [hk, show cl τ j = 100 * τ from if_neg (by omega)]
    exact hz
theorem Kp.AR {T T' : Nat → Nat} {cs : List Nat} {S S' : AS} (h : Kp T T' cs S S') {k τ : Nat} (hk : T k = τ) (hd : 40 ≤ kd τ) (hz : 50000 + 100 * τ ∈ cs) (j : Nat) : sR S' k j = sR S k j := by
  refine h.2.2 k j ?_ ?_
  · rw [hk]
    rintro rfl
    exact absurd hd (by decide)
  · rw [hk, show cr τ j = 50000 + 100 * τ from congrArg (50000 + ·) (if_neg (by omega))]
    exact hz
theorem Kp.O {T T' : Nat → Nat} {cs : List Nat} {S S' : AS} (h : Kp T T' cs S S') {k τ j : Nat} (hk : T k = τ) (h0 : τ ≠ 0) (hz : cl τ j ∈ cs) : sI S' k j = sI S k j := h.2.1 k j (by rw [hk]; exact h0) (by rw [hk]; exact hz)
theorem Kp.R {T T' : Nat → Nat} {cs : List Nat} {S S' : AS} (h : Kp T T' cs S S') {k τ j : Nat} (hk : T k = τ) (h0 : τ ≠ 0) (hz : cr τ j ∈ cs) : sR S' k j = sR S k j := h.2.2 k j (by rw [hk]; exact h0) (by rw [hk]; exact hz)
theorem Kp.F {T T' : Nat → Nat} {cs : List Nat} {m m' : AS} (h : Kp T T' cs m m') (hT : TI T m) {j : Nat} (hz : cl 100 j ∈ cs) : sI m' 57 j = sI m 57 j := h.O hT.t9.1 (by decide) hz
theorem Kp.M {T T' : Nat → Nat} {cs : List Nat} {m m' : AS} (h : Kp T T' cs m m') (hT : TI T m) {j p : Nat} (hj : mft j = some p) (hd : 40 ≤ kd (100 + j)) (hz : 100 * (100 + j) ∈ cs) (i : Nat) : sI m' p i = sI m p i := by
  have h81 : j < 81 := gd_lt hj
  have e := List.all_eq_true.mp mft_ok j (List.mem_range.mpr h81)
  simp only [hj, Bool.and_eq_true, beq_iff_eq] at e
  exact h.A (md_at hT e.1 e.2).2.1 hd hz i
/-- a list's elements lie where they lay -/
theorem Kp.L {T T' : Nat → Nat} {cs : List Nat} {S S' : AS} (h : Kp T T' cs S S') (hT : TI T S) {q i : Nat} (hq : q < 7) (h1 : cr (20 + q) 1 ∈ cs) (h2 : cr (30 + q) 0 ∈ cs) (hi : (i : Int) < (sI S (lp q) 2).toInt) : lel S' (lp q) i = lel S (lp q) i := by
  obtain ⟨l1, d, l2, l3, l4, l5, l6⟩ := hT.t6 q hq
  have e1 : sR S' (lp q) 1 = sR S (lp q) 1 := h.R l1 (by omega) h1
  have hd : T d = 30 + q := by
    rcases l3 with l3 | l3
    · exact l3
    · subst l3
      rw [hT.t8.2.2.2.2.2.1] at l4
      omega
  have e2 : sR S' d i = sR S d i := by
    refine h.AR hd ?_ ?_ i
    · rw [(lp_all q hq).2.2.1]
      decide
    · rw [show cr (30 + q) 0 = 50000 + 100 * (30 + q) from congrArg (50000 + ·) (if_neg (by rw [(lp_all q hq).2.2.1]; decide))] at h2
      exact h2
  unfold lel
  rw [e1, l2]
  show (sR S' d i).getD 0 = (sR S d i).getD 0
  rw [e2]
def nn (v : Int32) : Nat := v.toNatClampNeg
theorem nn_o {n : Nat} (h : n < 301) : nn (Int32.ofNat n) = n := oc h
/-- how many: versions, attempts, sessions, codes, families, tokens, recoveries -/
def nV (m : AS) : Nat := nn (sI m 57 9)
def uA (m : AS) : Nat := nn (sI m 57 19)
def nS (m : AS) : Nat := nn (sI m 57 30)
def nC (m : AS) : Nat := nn (sI m 57 39)
def nF (m : AS) : Nat := nn (sI m 57 46)
def nT (m : AS) : Nat := nn (sI m 57 52)
def nR (m : AS) : Nat := nn (sI m 57 70)
/-- a list of the class against a number of the reference -/
def SZ (l j b : Nat) (S m : AS) : Prop := nn (sI m 57 j) ≤ b ∧ sI m 57 j = Int32.ofNat (nn (sI m 57 j)) ∧ sI S l 2 = sI m 57 j
/-- the row of minutes of who holds them in the field j -/
def mn (S : AS) (p j : Nat) : Nat := (sR S ((sR S p j).getD 0) 0).getD 0
def mok (v : Int32) : Prop := v = -1 ∨ (0 ≤ v.toInt ∧ v.toInt ≤ 30000)
def cNW (S m : AS) : Prop := sI S 4 0 = sI m 57 0 ∧ 0 ≤ (sI m 57 0).toInt ∧ (sI m 57 0).toInt ≤ 30000
def cPF (S _m : AS) : Prop := PF S
def cWgt (S _m : AS) : Prop := sI S 1 0 = 1 ∧ sI S 1 1 = 2 ∧ sI S 1 2 = 3
def cFac (S m : AS) : Prop := ∀ i, i < 6 → (∀ f, f < 3 → sI S (30 + 4 * i) f = sI m 58 (3 * i + f) ∧ sI S (31 + 4 * i) f = sI m 59 (3 * i + f) ∧ (sI m 58 (3 * i + f) = 1 → 0 ≤ (sI m 59 (3 * i + f)).toInt ∧ (sI m 59 (3 * i + f)).toInt ≤ 4)) ∧ sI S (29 + 4 * i) 3 = sI m 60 i
def WR (k v : Int32) : Prop := (k = -1 ∧ v = -1000) ∨ (k = v ∧ 0 ≤ k.toInt ∧ k.toInt ≤ 30000)
def cWrg (S m : AS) : Prop := ∀ i, i < 6 → WR (sI S (29 + 4 * i) 4) (sI m 61 (3 * i + 2)) ∧ WR (sI S (29 + 4 * i) 5) (sI m 61 (3 * i + 1)) ∧ WR (sI S (29 + 4 * i) 6) (sI m 61 (3 * i))
def cKn (S m : AS) : Prop := ∀ i, i < 6 → ∀ d, d < 6 → (bt (sI S (29 + 4 * i) 7) d = true ↔ sI m 62 (6 * i + d) ≠ 0) ∧ (bt (sI S (29 + 4 * i) 8) d = true ↔ sI m 63 (6 * i + d) ≠ 0)
def cCon (S m : AS) : Prop := ∀ c, c < 4 → (∀ i, i < 6 → sI S (32 + 4 * i) c = sI m 91 (4 * i + c)) ∧ sI S 20 c = sI m 91 (24 + c)
def cHlp (S m : AS) : Prop := ∀ i, i < 6 → sI S (29 + 4 * i) 10 = sI m 65 i
def cAwy (S m : AS) : Prop := ∀ i, i < 6 → sI S (29 + 4 * i) 11 = sI m 64 i
def cPts (S m : AS) : Prop := ∀ i, i < 3 → sI S 9 i = sI m 73 i ∧ sI S 10 i = sI m 74 i
def cLnk (S m : AS) : Prop := ∀ i, i < 6 → sI S 28 i = sI m 122 i
def fa (S : AS) (p j : Nat) : Nat := (sR S p j).getD 0
def FLW (S m : AS) (p v : Nat) : Prop := ∃ n, 1 ≤ n ∧ n ≤ 12 ∧ sI S p 5 = Int32.ofNat n ∧ sI m 66 v = Int32.ofNat n ∧ ∀ j k, j < 5 → k < n → sI S (fa S p j) k = sI m (67 + j) (12 * v + k)
def cVer (S m : AS) : Prop := SZ 17 9 8 S m ∧ ∀ v, v < nV m → FLW S m (lel S 17 v) v ∧ (∀ k : Nat, (k : Int) < (sI m 66 v).toInt → sI m 67 (12 * v + k) = 0 → 1 ≤ (sI m 69 (12 * v + k)).toInt) ∧ lel S 17 v ≠ fa S 4 5 ∧ (∀ j i, j < 5 → i < 5 → fa S (lel S 17 v) j ≠ fa S (fa S 4 5) i) ∧ ∀ u, u < nV m → lel S 17 u = lel S 17 v → u = v
def cDrB (_S m : AS) : Prop := ∀ k : Nat, (k : Int) < (sI m 66 8).toInt → sI m 67 (96 + k) = 0 → 1 ≤ (sI m 69 (96 + k)).toInt
def cAtt (S m : AS) : Prop := SZ 18 19 60 S m ∧ ∀ a, a < uA m → (∀ b, b < uA m → lel S 18 b = lel S 18 a → b = a) ∧
  (∃ i, i < 6 ∧ sR S (lel S 18 a) 0 = some (29 + 4 * i) ∧ sI m 75 a = Int32.ofNat i) ∧ (∃ d, d < 6 ∧ sI S (lel S 18 a) 1 = Int32.ofNat d ∧ sI m 76 a = Int32.ofNat d) ∧ (∃ d, d < 6 ∧ sI S (lel S 18 a) 2 = Int32.ofNat d ∧ sI m 77 a = Int32.ofNat d) ∧
  (∃ v, v < nV m ∧ sR S (lel S 18 a) 3 = some (lel S 17 v) ∧ sI m 78 a = Int32.ofNat v) ∧ (∃ x, sR S (lel S 18 a) 4 = some x)
def cAst (S m : AS) : Prop := (∀ a, uA m ≤ a → a < 60 → sI m 82 a = 0) ∧ ∀ a, a < uA m → sI S (lel S 18 a) 5 = sI m 80 a ∧ sI S (lel S 18 a) 8 = sI m 82 a ∧ sI S (lel S 18 a) 9 = sI m 83 a ∧ (sI m 80 a = 0 → sI S (lel S 18 a) 6 = sI m 79 a ∧ sI S (lel S 18 a) 7 = sI m 81 a ∧ (0 ≤ (sI m 82 a).toInt ∧ (sI m 82 a).toInt ≤ 11) ∧ 0 ≤ (sI m 81 a).toInt ∧ (sI m 81 a).toInt < (sI m 69 (12 * nn (sI m 78 a) + nn (sI m 79 a))).toInt)
def cAsh (S m : AS) : Prop := ∀ a, a < uA m → ∀ f, f < 3 → sI S (mn S (lel S 18 a) 4) f = sI m 84 (3 * a + f) ∧ mok (sI m 84 (3 * a + f))
def cSes (S m : AS) : Prop := SZ 19 30 60 S m ∧ ∀ s, s < nS m → sI S (lel S 19 s) 0 = Int32.ofNat s ∧ (∃ p, p < 6 ∧ sR S (lel S 19 s) 1 = some (29 + 4 * p) ∧ sI m 85 s = Int32.ofNat p) ∧
  ((sR S (lel S 19 s) 2 = none ∧ sI m 88 s = -1) ∨ ∃ o, o < s ∧ sR S (lel S 19 s) 2 = some (lel S 19 o) ∧ sI m 88 s = Int32.ofNat o) ∧ (∃ x, sR S (lel S 19 s) 3 = some x) ∧ sI S (lel S 19 s) 4 = sI m 86 s
def cUsd (S m : AS) : Prop := ∀ s, s < nS m → sI S (lel S 19 s) 5 = sI m 87 s
def cLiv (S m : AS) : Prop := (∀ s, s < nS m → sI S (lel S 19 s) 6 = sI m 89 s ∧ (sI m 89 s = 0 ∨ sI m 89 s = 1)) ∧ sI S 4 9 = Int32.ofNat (cnt (sI m 89) (nS m))
def cSsh (S m : AS) : Prop := ∀ s, s < nS m → ∀ f, f < 3 → sI S (mn S (lel S 19 s) 3) f = sI m 90 (3 * s + f) ∧ mok (sI m 90 (3 * s + f))
def cMin (S m : AS) : Prop := (∀ a b, a < uA m → b < uA m → mn S (lel S 18 a) 4 = mn S (lel S 18 b) 4 → a = b) ∧ (∀ a b, a < nS m → b < nS m → mn S (lel S 19 a) 3 = mn S (lel S 19 b) 3 → a = b) ∧ (∀ a b, a < uA m → b < nS m → mn S (lel S 18 a) 4 ≠ mn S (lel S 19 b) 3)
def cCod (S m : AS) : Prop := SZ 22 39 60 S m ∧ ∀ c, c < nC m → (∀ b, b < nC m → lel S 22 b = lel S 22 c → b = c) ∧ (∃ s, s < nS m ∧ sR S (lel S 22 c) 0 = some (lel S 19 s) ∧ sI m 93 c = Int32.ofNat s) ∧ (∃ v, v < 4 ∧ sI S (lel S 22 c) 1 = Int32.ofNat v ∧ sI m 94 c = Int32.ofNat v) ∧ (∃ v, v < 4 ∧ sI S (lel S 22 c) 2 = Int32.ofNat v ∧ sI m 95 c = Int32.ofNat v) ∧ sI S (lel S 22 c) 3 = sI m 96 c ∧ sI S (lel S 22 c) 4 = sI m 97 c ∧ sI S (lel S 22 c) 5 = sI m 98 c ∧ (sI m 98 c = -1 ∨ ∃ f, f < nF m ∧ sI m 98 c = Int32.ofNat f)
def cFre (S m : AS) : Prop := ∀ c, c < nC m → sI m 98 c = -1 → sI S (lel S 22 c) 6 = 0 ∧ sI S (lel S 22 c) 7 = 0 ∧ sI S (lel S 22 c) 10 = 0 ∧ sI S (lel S 22 c) 11 = 0
def cFam (S m : AS) : Prop := SZ 23 46 60 S m ∧ ∀ f, f < nF m → ∃ c, c < nC m ∧ lel S 23 f = lel S 22 c ∧ sI m 99 f = Int32.ofNat c ∧ sI m 98 c = Int32.ofNat f ∧ ∀ x, x < nC m → sI m 98 x = Int32.ofNat f → x = c
def cNum (S m : AS) : Prop := ∀ f, f < nF m → sI S (lel S 23 f) 7 = sI m 100 f ∧ (sI m 100 f ≠ 0 → sI S (lel S 23 f) 8 = sI m 101 f) ∧ sI S (lel S 23 f) 9 = sI m 102 f
def cGod (S m : AS) : Prop := (∀ x, nF m ≤ x → x < 60 → ∀ v, v < 4 → sI m 116 (60 * v + x) = 0) ∧ ∀ f, f < nF m → sI S (lel S 23 f) 6 = sI m 103 f ∧ (∀ v, v < 4 → (bt (sI S (lel S 23 f) 11) v = true ↔ sI m 116 (60 * v + f) = 1)) ∧ (sI m 103 f ≠ 0 → ∀ v, v < 4 → sI m 116 (60 * v + f) = 0)
def cTok (S m : AS) : Prop := SZ 24 52 200 S m ∧ ∀ t, t < nT m → (∃ f, f < nF m ∧ sR S (lel S 24 t) 0 = some (lel S 23 f) ∧ sI m 108 t = Int32.ofNat f) ∧ sI S (lel S 24 t) 1 = sI m 104 t ∧ (∃ v, v < 4 ∧ sI S (lel S 24 t) 2 = Int32.ofNat v ∧ sI m 105 t = Int32.ofNat v) ∧ sI S (lel S 24 t) 3 = sI m 106 t ∧ sI S (lel S 24 t) 4 = sI m 107 t ∧ (∃ k, k < 20 ∧ sI S (lel S 24 t) 5 = Int32.ofNat k ∧ sI m 109 t = Int32.ofNat k) ∧ sI S (lel S 24 t) 6 = sI m 110 t ∧ 0 ≤ (sI m 110 t).toInt ∧ (sI m 110 t).toInt ≤ 30010
def cAud (S m : AS) : Prop := ∀ f, f < nF m → ∀ v, v < 4 → (bt (sI S (lel S 23 f) 10) v = true ↔ ∃ t, t < nT m ∧ sI m 108 t = Int32.ofNat f ∧ sI m 105 t = Int32.ofNat v)
def cSrv (S m : AS) : Prop := ∀ v, v < 4 → (sI S (53 + v) 1 = 0 ↔ sI m 113 v ≠ 0)
def cNed (S m : AS) : Prop := ∀ v, v < 4 → sI S (53 + v) 0 = sI m 92 v
def cChe (S m : AS) : Prop := ∀ v, v < 4 → (∀ k, k < 20 → bt (sI S (53 + v) 2) k = bt (sI m 114 v) k) ∧ sI S (53 + v) 3 = sI m 115 v
def cKey (S m : AS) : Prop := KY (sI m 57 0).toInt S m
def cRec (S m : AS) : Prop := SZ 27 70 20 S m ∧ (∀ r, nR m ≤ r → r < 20 → sI m 120 r = 0 ∧ sI m 121 r = 0) ∧ ∀ r, r < nR m → (∀ b, b < nR m → lel S 27 b = lel S 27 r → b = r) ∧ (∃ i, i < 6 ∧ sR S (lel S 27 r) 0 = some (29 + 4 * i) ∧ sI m 117 r = Int32.ofNat i) ∧ sI S (lel S 27 r) 1 = sI m 118 r ∧ sI S (lel S 27 r) 2 = sI m 119 r ∧ sI S (lel S 27 r) 3 = sI m 120 r ∧ (0 ≤ (sI m 120 r).toInt ∧ (sI m 120 r).toInt < 64) ∧ sI S (lel S 27 r) 4 = sI m 121 r
def cAU (S m : AS) : Prop := AU 0 (sI m 89) (nS m) S m
end
