/-! ===== bits ===== -/
def bt (v : Int32) (j : Nat) : Bool := v.toBitVec.getLsbD j
theorem bt_or (a b : Int32) (j : Nat) : bt (a ||| b) j = (bt a j || bt b j) := by
  unfold bt
  rw [Int32.toBitVec_or, BitVec.getLsbD_or]
theorem bt_0 (j : Nat) : bt 0 j = false := by
  unfold bt
  exact BitVec.getLsbD_zero
theorem bt_ext {a b : Int32} (h : ∀ j, j < 32 → bt a j = bt b j) : a = b := by
  apply Int32.toBitVec_inj.mp
  exact BitVec.eq_of_getLsbD_eq (fun i hi => h i hi)
theorem bt_big {a : Int32} {j : Nat} (h : 32 ≤ j) : bt a j = false := by
  unfold bt
  exact BitVec.getLsbD_of_ge _ _ h
theorem shl_t : ∀ n, n < 12 → ∀ j, j < 32 → bt ((1 : Int32) <<< (Int32.ofNat n &&& 31)) j = decide (j = n) := by decide +kernel
theorem bt_shl {n j : Nat} (h : n < 12) : bt ((1 : Int32) <<< (Int32.ofNat n &&& 31)) j = decide (j = n) := by
  by_cases c : j < 32
  · exact shl_t n h j c
  · rw [bt_big (by omega), decide_eq_false (by omega)]
theorem and1 (y : BitVec 32) : (y &&& 1#32) = 1#32 ↔ y.getLsbD 0 = true := by
  constructor
  · intro h
    have := congrArg (fun z => z.getLsbD 0) h
    simpa using this
  · intro h
    apply BitVec.eq_of_getLsbD_eq
    intro i hi
    rw [BitVec.getLsbD_and]
    by_cases c : i = 0
    · subst c
      rw [h]
      simp
    · have : (1#32).getLsbD i = false := by
        rw [BitVec.getLsbD_one]
        simp [c]
      rw [this, Bool.and_false]
theorem shr_n : ∀ j, j < 12 → (((Int32.ofNat j &&& 31 : Int32).toBitVec).smod 32).toNat = j := by decide +kernel
theorem bt_test (x : Int32) {j : Nat} (h : j < 12) : ((x >>> (Int32.ofNat j &&& 31)) &&& (1 : Int32)) = (1 : Int32) ↔ bt x j = true := by
  rw [← Int32.toBitVec_inj, Int32.toBitVec_and, Int32.toBitVec_shiftRight]
  show (_ &&& 1#32) = 1#32 ↔ _
  rw [and1, BitVec.sshiftRight', shr_n j h, BitVec.getLsbD_sshiftRight]
  unfold bt
  rw [if_pos (by omega)]
  simp
def cb (f : Nat → Bool) : Nat → Nat
  | 0 => 0
  | n + 1 => cb f n + (if f n = true then 1 else 0)
theorem cb_le (f : Nat → Bool) : ∀ n, cb f n ≤ n
  | 0 => Nat.le_refl _
  | n + 1 => by
    have := cb_le f n
    show cb f n + (if f n = true then 1 else 0) ≤ n + 1
    split <;> omega
theorem cb_mono {f g : Nat → Bool} (h : ∀ j, f j = true → g j = true) : ∀ n, cb f n ≤ cb g n
  | 0 => Nat.le_refl _
  | n + 1 => by
    have := cb_mono h n
    show cb f n + (if f n = true then 1 else 0) ≤ cb g n + (if g n = true then 1 else 0)
    by_cases c : f n = true
    · rw [if_pos c, if_pos (h n c)]; omega
    · rw [if_neg c]; omega
theorem cb_lt {f g : Nat → Bool} (h : ∀ j, f j = true → g j = true) {i : Nat} (h1 : ¬ f i = true) (h2 : g i = true) : ∀ {n}, i < n → cb f n < cb g n
  | 0, hi => absurd hi (Nat.not_lt_zero _)
  | n + 1, hi => by
    show cb f n + (if f n = true then 1 else 0) < cb g n + (if g n = true then 1 else 0)
    by_cases c : i = n
    · subst c
      rw [if_neg h1, if_pos h2]
      have := cb_mono h i
      omega
    · have := cb_lt h h1 h2 (n := n) (by omega)
      by_cases d : f n = true
      · rw [if_pos d, if_pos (h n d)]; omega
      · rw [if_neg d]; omega
/-! ===== rows as a graph: tests, what comes next ===== -/
def te (S : AS) (b j : Nat) : Prop := In 1 4 (sI S 67 (b + j))
def nx (S : AS) (b j t : Nat) : Prop := (sI S 70 (b + j)).toInt = (t : Int) ∨ (sI S 71 (b + j)).toInt = (t : Int)
def clo (S : AS) (b n : Nat) (C : Nat → Prop) : Prop := ∀ k, k < n → C k → te S b k → ∀ t, nx S b k t → C t
/-- what the reference finds from a step: the set R -/
def circ (S : AS) (n f : Nat) (b : Int32) (R : Nat → Prop) : Prop := R f ∧ clo S 96 n R ∧ (∀ C, C f → clo S 96 n C → ∀ j, R j → C j) ∧ In 0 1 b ∧ (b = 1 ↔ ∃ k, k < n ∧ R k ∧ te S 96 k ∧ nx S 96 k f)
theorem i96 {j : Nat} (hj : j < 12) : ((96 : Int32) + Int32.ofNat j).toInt = 96 + (j : Int) ∧ ((96 : Int32) + Int32.ofNat j).toNatClampNeg = 96 + j := by
  have : ∀ j, j < 12 → ((96 : Int32) + Int32.ofNat j).toInt = 96 + (j : Int) ∧ ((96 : Int32) + Int32.ofNat j).toNatClampNeg = 96 + j := by decide +kernel
  exact this j hj
theorem b2_s {α β : Type} (v : α) (S : AS) (f : α → AS → Option β) : kr_b2 (some (v, S)) f = f v S := rfl
theorem isTest_t {S : AS} {a : Int32} (h : In 1 4 a) : f_M_isTest S a = some (1, S) := by
  unfold f_M_isTest
  rw [if_neg (fun q => by
    have := Int32.lt_iff_toInt_lt.mp q
    rw [show (1 : Int32).toInt = 1 from by decide] at this
    have := h.1
    omega), if_neg (fun q => by
    have := Int32.lt_iff_toInt_lt.mp q
    rw [show (4 : Int32).toInt = 4 from by decide] at this
    have := h.2
    omega)]
theorem isTest_f {S : AS} {a : Int32} (h : ¬ In 1 4 a) : f_M_isTest S a = some (0, S) := by
  unfold f_M_isTest
  by_cases c1 : a < 1
  · rw [if_pos c1]
  · by_cases c2 : 4 < a
    · rw [if_neg c1, if_pos c2]
    · exact absurd (In_w (In_of (Int32.not_lt.mp c1) (Int32.not_lt.mp c2)) (by decide) (by decide)) h
def by1 (v : Int32) : Int32 := if v < 0 then 0 else (1 : Int32) <<< (v &&& 31)
theorem lt0 {v : Int32} : v < 0 ↔ v.toInt < 0 := by
  rw [Int32.lt_iff_toInt_lt, show (0 : Int32).toInt = 0 from by decide]
theorem bt_by1 {v : Int32} (h : In (-1) 11 v) (t : Nat) : bt (by1 v) t = decide (v.toInt = (t : Int)) := by
  unfold by1
  by_cases c : v < 0
  · rw [if_pos c, bt_0]
    have := lt0.mp c
    rw [decide_eq_false (by omega)]
  · rw [if_neg c]
    have c' : ¬ v.toInt < 0 := fun q => c (lt0.mpr q)
    obtain ⟨n, hn, rfl⟩ := ofNat_In (n := 11) (v := v) ⟨by omega, h.2⟩
    rw [bt_shl (by omega), (gl2 n (by omega)).1]
    by_cases e : t = n
    · subst e
      rw [decide_eq_true rfl, decide_eq_true rfl]
    · rw [decide_eq_false e, decide_eq_false (by omega)]
theorem ci_B103 {S : AS} {x0 : Option Nat} {x1 x2 x3 x5 x6 x7 y0 : Int32} {k9 : AS → Option Nat → Int32 → Int32 → Int32 → Int32 → Option (Int32 × AS)} {k19 : AS → Option Nat → Int32 → Int32 → Int32 → Int32 → Int32 → Option (Int32 × AS)} : f_M_circles_B103 k9 k19 S x0 x1 x2 x3 x5 x6 x7 y0 = k19 S x0 x1 x2 ((x3 ||| by1 x6) ||| by1 x7) y0 (x5 + 1) := by
  unfold f_M_circles_B103 f_M_circles_B119 f_M_circles_B135 f_M_circles_B137 by1
  by_cases c : x6 < 0
  · rw [if_pos c, if_pos c, Option.bind_some]
    by_cases d : x7 < 0
    · rw [if_pos d, if_pos d]; rfl
    · rw [if_neg d, if_neg d]; rfl
  · rw [if_neg c, if_neg c, Option.bind_some]
    by_cases d : x7 < 0
    · rw [if_pos d, if_pos d]; rfl
    · rw [if_neg d, if_neg d]; rfl
theorem toNat8 : (8 : Int32).toNatClampNeg = 8 := by decide
theorem ci_in {T : Nat → Nat} {S : AS} {x : Option Nat} (hT : TI T S) (hx : Tx T 100 x) (hsr : SR S) {n f : Nat} (hn : n ≤ 12) (hs8 : (sI S 66 8).toInt = (n : Int)) (hf : f < 12) {x2 x30 x40 : Int32} {k9 : AS → Option Nat → Int32 → Int32 → Int32 → Int32 → Option (Int32 × AS)} {Q : Int32 × AS → Prop}
    (hk : ∀ x3 x4, (∀ j, bt x30 j = true → bt x3 j = true) → (∀ k, k < n → bt x2 k = true → te S 96 k → ∀ t, nx S 96 k t → bt x3 t = true) → (∀ C : Nat → Prop, clo S 96 n C → (∀ j, bt x2 j = true → C j) → (∀ j, bt x30 j = true → C j) → ∀ j, bt x3 j = true → C j) → In 0 1 x4 → (x4 = 1 ↔ x40 = 1 ∨ ∃ k, k < n ∧ bt x2 k = true ∧ te S 96 k ∧ nx S 96 k f) → Ho (k9 S x (Int32.ofNat f) x2 x3 x4) Q) :
    ∀ m j fu, j + m = n → m < fu → ∀ x3 x4, (∀ i, bt x30 i = true → bt x3 i = true) → (∀ k, k < j → bt x2 k = true → te S 96 k → ∀ t, nx S 96 k t → bt x3 t = true) → (∀ C : Nat → Prop, clo S 96 n C → (∀ i, bt x2 i = true → C i) → (∀ i, bt x30 i = true → C i) → ∀ i, bt x3 i = true → C i) → In 0 1 x4 → (x4 = 1 ↔ x40 = 1 ∨ ∃ k, k < j ∧ bt x2 k = true ∧ te S 96 k ∧ nx S 96 k f) → Ho (f_M_circles_L19 k9 fu S x (Int32.ofNat f) x2 x3 x4 (Int32.ofNat j)) Q := by
  intro m
  induction m with
  | zero =>
    intro j fu h1 h2 x3 x4 ha hb hc h4 hd
    obtain ⟨fu, rfl⟩ : ∃ g, fu = g + 1 := ⟨fu - 1, by omega⟩
    have hj : j = n := by omega
    subst hj
    show Ho (f_M_circles_C19 _ _ _ _ _ _ _ _ _) Q
    unfold f_M_circles_C19
    refine r_gR hT hx rfl rfl (fun v4 g4 => ?_)
    refine r_aIs hT g4 rfl (p := 66) rfl rfl (by decide : In 0 8 (8 : Int32)) (by decide) (fun v5 _ e5 => ?_)
    rw [toNat8] at e5
    refine r_ifT (Int32.le_iff_toInt_le.mpr ?_) (hk x3 x4 ha hb hc h4 hd)
    rw [e5, hs8, (gl2 j (by omega)).1]
    omega
  | succ m ih =>
    intro j fu h1 h2 x3 x4 ha hb hc h4 hd
    obtain ⟨fu, rfl⟩ : ∃ g, fu = g + 1 := ⟨fu - 1, by omega⟩
    have hj : j < 12 := by omega
    have e1 : Int32.ofNat j + (1 : Int32) = Int32.ofNat (j + 1) := (Int32.ofNat_add j 1).symm
    show Ho (f_M_circles_C19 _ _ _ _ _ _ _ _ _) Q
    unfold f_M_circles_C19
    refine r_gR hT hx rfl rfl (fun v4 g4 => ?_)
    refine r_aIs hT g4 rfl (p := 66) rfl rfl (by decide : In 0 8 (8 : Int32)) (by decide) (fun v5 _ e5 => ?_)
    rw [toNat8] at e5
    refine r_ifF (fun q => by
      have := Int32.le_iff_toInt_le.mp q
      rw [e5, hs8, (gl2 j (by omega)).1] at this
      omega) ?_
    have hix : In 0 107 ((96 : Int32) + Int32.ofNat j) := ⟨by rw [(i96 hj).1]; omega, by rw [(i96 hj).1]; omega⟩
    by_cases cb : ((x2 >>> (Int32.ofNat j &&& 31)) &&& (1 : Int32)) = (1 : Int32)
    · rw [if_pos cb]
      have hbj := (bt_test x2 hj).mp cb
      refine r_gR hT hx rfl rfl (fun v6 g6 => ?_)
      refine r_aIs hT g6 rfl (p := 67) rfl rfl hix (by decide) (fun v7 _ e7 => ?_)
      rw [(i96 hj).2] at e7
      by_cases ct : In 1 4 v7
      · have hte : te S 96 j := In_cell e7 ct
        rw [isTest_t ct, b2_s]
        refine r_ifF (by decide) ?_
        refine r_gR hT hx rfl rfl (fun v10 g10 => ?_)
        refine r_aIs hT g10 rfl (p := 70) rfl rfl hix (by decide) (fun v11 _ e11 => ?_)
        refine r_gR hT hx rfl rfl (fun v12 g12 => ?_)
        refine r_aIs hT g12 rfl (p := 71) rfl rfl hix (by decide) (fun v13 _ e13 => ?_)
        have kc : In 1 4 (sI S 67 ((96 : Int32) + Int32.ofNat j).toNatClampNeg) := by rw [(i96 hj).2]; exact hte
        have r11 : In (-1) 11 v11 := SR_y hsr hix kc (by decide) e11
        have r13 : In (-1) 11 v13 := SR_n hsr hix kc (by decide) e13
        rw [(i96 hj).2] at e11 e13
        have hnx : ∀ t : Nat, nx S 96 j t ↔ v11.toInt = (t : Int) ∨ v13.toInt = (t : Int) := fun t => by
          unfold nx
          rw [e11, e13]
        have eqf : ∀ {v : Int32}, v = Int32.ofNat f ↔ v.toInt = (f : Int) := fun {v} => by
          constructor
          · intro q
            rw [q, (gl2 f (by omega)).1]
          · intro q
            exact ofNat_of q
        have hbits : ∀ t, bt ((x3 ||| by1 v11) ||| by1 v13) t = true ↔ bt x3 t = true ∨ nx S 96 j t := fun t => by
          rw [bt_or, bt_or, bt_by1 r11, bt_by1 r13, Bool.or_eq_true, Bool.or_eq_true, decide_eq_true_iff, decide_eq_true_iff, hnx, or_assoc]
        have go : ∀ y : Int32, In 0 1 y → (y = 1 ↔ x4 = 1 ∨ nx S 96 j f) → Ho (f_M_circles_B103 k9 (f_M_circles_L19 k9 fu) S x (Int32.ofNat f) x2 x3 (Int32.ofNat j) v11 v13 y) Q := by
          intro y hy hy1
          rw [ci_B103, e1]
          refine ih (j + 1) fu (by omega) (by omega) _ _ (fun i hi => (hbits i).mpr (Or.inl (ha i hi))) ?_ ?_ hy ?_
          · intro k hk' hbk hk2 t ht
            by_cases e : k = j
            · subst e
              exact (hbits t).mpr (Or.inr ht)
            · exact (hbits t).mpr (Or.inl (hb k (by omega) hbk hk2 t ht))
          · intro C hC h2C h3C i hi
            rcases (hbits i).mp hi with q | q
            · exact hc C hC h2C h3C i q
            · exact hC j (by omega) (h2C j hbj) hte i q
          · rw [hy1, hd]
            constructor
            · rintro ((q | ⟨k, k1, k2⟩) | q)
              · exact Or.inl q
              · exact Or.inr ⟨k, by omega, k2⟩
              · exact Or.inr ⟨j, by omega, hbj, hte, q⟩
            · rintro (q | ⟨k, k1, k2, k3, k4⟩)
              · exact Or.inl (Or.inl q)
              · by_cases e : k = j
                · subst e
                  exact Or.inr k4
                · exact Or.inl (Or.inr ⟨k, by omega, k2, k3, k4⟩)
        by_cases c4 : x4 = 0
        · rw [if_pos c4]
          by_cases cy : v11 = Int32.ofNat f
          · rw [if_pos cy]
            exact go 1 (by decide) ⟨fun _ => Or.inr ((hnx f).mpr (Or.inl (eqf.mp cy))), fun _ => rfl⟩
          · rw [if_neg cy]
            by_cases cn : v13 = Int32.ofNat f
            · rw [if_pos cn]
              exact go 1 (by decide) ⟨fun _ => Or.inr ((hnx f).mpr (Or.inr (eqf.mp cn))), fun _ => rfl⟩
            · rw [if_neg cn]
              refine go 0 (by decide) ⟨fun q => absurd q (by decide), fun q => ?_⟩
              rcases q with q | q
              · rw [c4] at q
                exact absurd q (by decide)
              · rcases (hnx f).mp q with q | q
                · exact absurd (eqf.mpr q) cy
                · exact absurd (eqf.mpr q) cn
        · rw [if_neg c4]
          have : x4 = 1 := by
            rcases In01 h4 with q | q
            · exact absurd q c4
            · exact q
          exact go 1 (by decide) ⟨fun _ => Or.inl this, fun _ => rfl⟩
      · rw [isTest_f ct, b2_s]
        refine r_ifT rfl ?_
        unfold f_M_circles_B137
        refine r_val ?_
        rw [e1]
        have hnt : ¬ te S 96 j := fun q => ct (In_read e7 q)
        refine ih (j + 1) fu (by omega) (by omega) _ _ ha ?_ hc h4 ?_
        · intro k hk' hbk hk2 t ht
          by_cases e : k = j
          · subst e
            exact absurd hk2 hnt
          · exact hb k (by omega) hbk hk2 t ht
        · rw [hd]
          constructor
          · rintro (q | ⟨k, k1, k2⟩)
            · exact Or.inl q
            · exact Or.inr ⟨k, by omega, k2⟩
          · rintro (q | ⟨k, k1, k2, k3, k4⟩)
            · exact Or.inl q
            · by_cases e : k = j
              · subst e
                exact absurd k3 hnt
              · exact Or.inr ⟨k, by omega, k2, k3, k4⟩
    · rw [if_neg cb]
      unfold f_M_circles_B137
      refine r_val ?_
      rw [e1]
      have hnb : ¬ bt x2 j = true := fun q => cb ((bt_test x2 hj).mpr q)
      refine ih (j + 1) fu (by omega) (by omega) _ _ ha ?_ hc h4 ?_
      · intro k hk' hbk hk2 t ht
        by_cases e : k = j
        · subst e
          exact absurd hbk hnb
        · exact hb k (by omega) hbk hk2 t ht
      · rw [hd]
        constructor
        · rintro (q | ⟨k, k1, k2⟩)
          · exact Or.inl q
          · exact Or.inr ⟨k, by omega, k2⟩
        · rintro (q | ⟨k, k1, k2, k3, k4⟩)
          · exact Or.inl q
          · by_cases e : k = j
            · subst e
              exact absurd k2 hnb
            · exact Or.inr ⟨k, by omega, k2, k3, k4⟩
theorem ci_out {T : Nat → Nat} {S : AS} {x : Option Nat} (hT : TI T S) (hx : Tx T 100 x) (hsr : SR S) {n f : Nat} (hn : n ≤ 12) (hs8 : (sI S 66 8).toInt = (n : Int)) (hf : f < 12) :
    ∀ m fu x2 x3 x4, 33 ≤ m + cb (bt x2) 32 → m < fu → (∀ j, bt x2 j = true → bt x3 j = true) → bt x3 f = true → (∀ k, k < n → bt x2 k = true → te S 96 k → ∀ t, nx S 96 k t → bt x3 t = true) → (∀ C : Nat → Prop, C f → clo S 96 n C → ∀ j, bt x3 j = true → C j) → In 0 1 x4 → (x4 = 1 ↔ ∃ k, k < n ∧ bt x2 k = true ∧ te S 96 k ∧ nx S 96 k f) → Ho (f_M_circles_L9 fu S x (Int32.ofNat f) x2 x3 x4) (fun q => q.2 = S ∧ ∃ R, circ S n f q.1 R) := by
  intro m
  induction m with
  | zero =>
    intro fu x2 x3 x4 h1
    have := cb_le (bt x2) 32
    omega
  | succ m ih =>
    intro fu x2 x3 x4 h1 h2 ha hf3 hb hc h4 hd
    obtain ⟨fu, rfl⟩ : ∃ g, fu = g + 1 := ⟨fu - 1, by omega⟩
    show Ho (f_M_circles_C9 _ _ _ _ _ _ _) _
    unfold f_M_circles_C9
    by_cases c : x3 = x2
    · rw [if_pos c]
      subst c
      refine r_z h4 (r_some ⟨rfl, fun j => bt x3 j = true, hf3, ?_, ?_, h4, hd⟩)
      · intro k hk hck hte t ht
        exact hb k hk hck hte t ht
      · intro C hC1 hC2 j hj
        exact hc C hC1 hC2 j hj
    · rw [if_neg c]
      have hlt : cb (bt x2) 32 < cb (bt x3) 32 := by
        have : ∃ i, i < 32 ∧ ¬ bt x2 i = true ∧ bt x3 i = true := by
          refine Classical.byContradiction (fun q => c (bt_ext (fun j hj => ?_)))
          by_cases e : bt x3 j = true
          · by_cases e2 : bt x2 j = true
            · rw [e, e2]
            · exact absurd ⟨j, hj, e2, e⟩ q
          · by_cases e2 : bt x2 j = true
            · exact absurd (ha j e2) e
            · rw [Bool.not_eq_true] at e e2
              rw [e, e2]
        obtain ⟨i, i1, i2, i3⟩ := this
        exact cb_lt ha i2 i3 i1
      refine ci_in hT hx hsr hn hs8 hf (x2 := x3) (x30 := x3) (x40 := x4) ?_ n 0 kr_FU (by omega) (by show n < 2000; omega) x3 x4 (fun _ q => q) (fun k hk => absurd hk (Nat.not_lt_zero _)) (fun C hC h2 h3 i hi => h3 i hi) h4 ?_
      · intro y3 y4 ya yb yc y4' yd
        refine ih fu x3 y3 y4 (by omega) (by omega) ya (ya f hf3) yb ?_ y4' ?_
        · intro C hC1 hC2 j hj
          exact yc C hC2 (fun i hi => hc C hC1 hC2 i hi) (fun i hi => hc C hC1 hC2 i hi) j hj
        · rw [yd]
          constructor
          · rintro (q | q)
            · obtain ⟨k, k1, k2, k3⟩ := hd.mp q
              exact ⟨k, k1, ha k k2, k3⟩
            · exact q
          · exact fun q => Or.inr q
      · constructor
        · exact fun q => Or.inl q
        · rintro (q | ⟨k, k1, -⟩)
          · exact q
          · exact absurd k1 (Nat.not_lt_zero _)
theorem t_circ {T : Nat → Nat} {S : AS} {x : Option Nat} (hT : TI T S) (hx : Tx T 100 x) (hsr : SR S) {n f : Nat} (hn : n ≤ 12) (hs8 : (sI S 66 8).toInt = (n : Int)) (hf : f < 12) : Ho (f_M_circles S x (Int32.ofNat f)) (fun q => q.2 = S ∧ ∃ R, circ S n f q.1 R) := by
  unfold f_M_circles
  refine r_val ?_
  refine ci_out hT hx hsr hn hs8 hf 1000 kr_FU 0 _ 0 (by omega) (by decide) (fun j h => by rw [bt_0] at h; cases h) (by rw [bt_shl hf, decide_eq_true rfl]) (fun k _ h => by rw [bt_0] at h; cases h) ?_ (by decide) ?_
  · intro C hC _ j hj
    rw [bt_shl hf, decide_eq_true_iff] at hj
    rw [hj]
    exact hC
  · constructor
    · exact fun q => absurd q (by decide)
    · rintro ⟨k, -, h, -⟩
      rw [bt_0] at h
      cases h
