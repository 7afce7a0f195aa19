/-! ===== a service's line ===== -/
def hB (m : AS) (s nt f : Nat) : Bool := (List.range nt).any fun t => decide (sI m 108 t = Int32.ofNat f ∧ sI m 105 t = Int32.ofNat s)
theorem hB_iff (m : AS) (s nt f : Nat) : hB m s nt f = true ↔ ∃ t, t < nt ∧ sI m 108 t = Int32.ofNat f ∧ sI m 105 t = Int32.ofNat s := by
  unfold hB
  rw [List.any_eq_true]
  constructor
  · rintro ⟨t, h1, h2⟩
    have h2 := of_decide_eq_true h2
    exact ⟨t, List.mem_range.mp h1, h2⟩
  · rintro ⟨t, h1, h2⟩
    exact ⟨t, List.mem_range.mpr h1, decide_eq_true h2⟩
/-- a family's end that the service hears of now -/
def hgB (m : AS) (s nt f : Nat) : Bool := decide (sI m 103 f = 0) && (decide (sI m 116 (60 * s + f) = 0) && hB m s nt f)
theorem hgB_T {m : AS} {s nt f : Nat} (h1 : sI m 103 f = 0) (h2 : sI m 116 (60 * s + f) = 0) (h3 : hB m s nt f = true) : hgB m s nt f = true := by
  unfold hgB
  rw [decide_eq_true h1, decide_eq_true h2, h3]
  rfl
theorem hgB_F {m : AS} {s nt f : Nat} (h : ¬ sI m 103 f = 0 ∨ ¬ sI m 116 (60 * s + f) = 0 ∨ hB m s nt f = false) : hgB m s nt f = false := by
  unfold hgB
  rcases h with h | h | h
  · rw [decide_eq_false h, Bool.false_and]
  · rw [decide_eq_false h, Bool.false_and, Bool.and_false]
  · rw [h, Bool.and_false, Bool.and_false]
theorem hgB_103 {m : AS} {s nt f : Nat} (h : hgB m s nt f = true) : sI m 103 f = 0 := by
  unfold hgB at h
  rw [Bool.and_eq_true] at h
  exact of_decide_eq_true h.1
def cN (g : Nat → Bool) : Nat → Nat
  | 0 => 0
  | n + 1 => cN g n + (if g n = true then 1 else 0)
theorem cN_T {g : Nat → Bool} {i : Nat} (h : g i = true) : Int32.ofNat (cN g i) + 1 = Int32.ofNat (cN g (i + 1)) := by
  rw [o1]
  show _ = Int32.ofNat (cN g i + (if g i = true then 1 else 0))
  rw [if_pos h]
theorem cN_F {g : Nat → Bool} {i : Nat} (h : g i = false) : Int32.ofNat (cN g i) + 0 = Int32.ofNat (cN g (i + 1)) := by
  rw [Int32.add_zero]
  show _ = Int32.ofNat (cN g i + (if g i = true then 1 else 0))
  rw [h, if_neg (by decide), Nat.add_zero]
section
variable {S0 m0 : AS} {nf nk nt : Nat}
/-- the law's look at the tokens -/
theorem o_hearL {Q : Int32 × AS → Prop} {k1009 : AS → Option Nat → Option Nat → Option Nat → Option Nat → Option Nat → Int32 → Int32 → Int32 → Option (Int32 × AS)} {S : AS} {s i : Nat} {told : Int32} (r127 : Rw S 127 14) (r136 : Rw S 136 50) (r137 : Rw S 137 60) (r139 : Rw S 139 16) (c4 : sI S 127 4 = Int32.ofNat nt) (t20 : nt ≤ 20) (tok : lTok nf nk nt S m0) (f10 : nf ≤ 10) (k10 : nk ≤ 10) (s4 : s < 4) (hi : i < nf)
    (g1 : sI S 136 (5 * i + 4) = sI m0 103 i) (g2 : bt (sI S 139 (4 * s + 3)) i = true ↔ sI m0 116 (60 * s + i) = 1) (g3 : q01 (sI m0 116 (60 * s + i)))
    (Hn : hgB m0 s nt i = false → Ho (f_W_tokens_B1132 k1009 S (some 4) (some 127) (some 136) (some 137) (some 139) (Int32.ofNat s) told (Int32.ofNat i)) Q) (Hy : hgB m0 s nt i = true → Ho (f_W_tokens_B1133 k1009 S (some 4) (some 127) (some 136) (some 137) (some 139) (Int32.ofNat s) told (Int32.ofNat i) (1 : Int32)) Q) :
    ∀ (k j fu : Nat) (h : Int32), j + k = nt → k < fu → (h = 0 ∨ h = 1) → (h = 1 ↔ ∃ t, t < j ∧ sI m0 108 t = Int32.ofNat i ∧ sI m0 105 t = Int32.ofNat s) → Ho (f_W_tokens_L1033 k1009 fu S (some 4) (some 127) (some 136) (some 137) (some 139) (Int32.ofNat s) told (Int32.ofNat i) h (Int32.ofNat j)) Q
  | _, _, 0, _, _, h, _, _ => absurd h (Nat.not_lt_zero _)
  | k, j, fu + 1, h, hk, hfu, h01, hh => by
    unfold f_W_tokens_L1033 f_W_tokens_C1033
    refine o_aIe r127 (n := 4) rfl (by decide) c4 ?_
    by_cases hj : j < nt
    · obtain ⟨k, rfl⟩ : ∃ k', k = k' + 1 := ⟨k - 1, by omega⟩
      refine r_ifF (fun q => by have := (oleq (a := nt) (b := j) (by omega) (by omega)).mp q; omega) ?_
      have nxt : ∀ h' : Int32, (h' = 0 ∨ h' = 1) → (h' = 1 ↔ ∃ t, t < j + 1 ∧ sI m0 108 t = Int32.ofNat i ∧ sI m0 105 t = Int32.ofNat s) → Ho (f_W_tokens_B1086 k1009 (f_W_tokens_L1033 k1009 fu) S (some 4) (some 127) (some 136) (some 137) (some 139) (Int32.ofNat s) told (Int32.ofNat i) (Int32.ofNat j) h') Q := fun h' q1 q2 => by
        unfold f_W_tokens_B1086
        refine r_val ?_
        rw [o1]
        exact o_hearL r127 r136 r137 r139 c4 t20 tok f10 k10 s4 hi g1 g2 g3 Hn Hy k (j + 1) fu h' (by omega) (by omega) q1 q2
      obtain ⟨⟨cl, ao, ac, sc, cl4, ao4, ac4, sc16, t1, m104, m105, -⟩, ⟨fa, ke, hfa, hke, t2, m108, -⟩, -⟩ := tok j hj
      have one : (sI m0 108 j = Int32.ofNat i ∧ sI m0 105 j = Int32.ofNat s) ↔ fa = i ∧ ao = s := by
        rw [m108, m105]
        exact ⟨fun q => ⟨oinjq (by omega) (by omega) q.1, oinjq (by omega) (by omega) q.2⟩, fun q => ⟨by rw [q.1], by rw [q.2]⟩⟩
      have ex : (∃ t, t < j + 1 ∧ sI m0 108 t = Int32.ofNat i ∧ sI m0 105 t = Int32.ofNat s) ↔ (∃ t, t < j ∧ sI m0 108 t = Int32.ofNat i ∧ sI m0 105 t = Int32.ofNat s) ∨ (fa = i ∧ ao = s) := by
        rw [← one]
        constructor
        · rintro ⟨t, q1, q2⟩
          by_cases c : t = j
          · rw [c] at q2
            exact Or.inr q2
          · exact Or.inl ⟨t, by omega, q2⟩
        · rintro (⟨t, q1, q2⟩ | q)
          · exact ⟨t, by omega, q2⟩
          · exact ⟨j, by omega, q⟩
      have yes : (h = 1 ∨ (fa = i ∧ ao = s)) → Ho (f_W_tokens_B1081 k1009 (f_W_tokens_L1033 k1009 fu) S (some 4) (some 127) (some 136) (some 137) (some 139) (Int32.ofNat s) told (Int32.ofNat i) (Int32.ofNat j)) Q := fun q => by
        unfold f_W_tokens_B1081
        refine nxt 1 (Or.inr rfl) ⟨fun _ => ?_, fun _ => rfl⟩
        rw [ex]
        rcases q with q | q
        · exact Or.inl (hh.mp q)
        · exact Or.inr q
      have no : h = 0 → ¬ (fa = i ∧ ao = s) → Ho (f_W_tokens_B1085 k1009 (f_W_tokens_L1033 k1009 fu) S (some 4) (some 127) (some 136) (some 137) (some 139) (Int32.ofNat s) told (Int32.ofNat i) (Int32.ofNat j)) Q := fun q1 q2 => by
        unfold f_W_tokens_B1085
        refine nxt 0 (Or.inl rfl) ⟨fun z => absurd z (by decide), fun z => ?_⟩
        rw [ex] at z
        rcases z with z | z
        · have := hh.mpr z
          rw [q1] at this
          exact absurd this (by decide)
        · exact absurd z q2
      rcases h01 with e | e
      · refine r_ifT e (o_aIe r137 (n := 3 * j + 1) (wix 3 j 1) (by omega) t2 ?_)
        rw [(tf_all fa (by omega) ke (by omega)).1]
        by_cases c : fa = i
        · refine r_ifT (by rw [c]) (o_aIe r137 (n := 3 * j) (wmul 3 j) (by omega) t1 (r_val ?_))
          rw [(tk_all cl cl4 ao ao4 ac ac4 sc sc16).1]
          by_cases d : ao = s
          · exact r_ifT (by rw [d]) (yes (Or.inr ⟨c, d⟩))
          · exact r_ifF (fun q => d (oinjq (by omega) (by omega) q)) (no e (fun q => d q.2))
        · exact r_ifF (fun q => c (oinjq (by omega) (by omega) q)) (no e (fun q => c q.1))
      · exact r_ifF (by rw [e]; decide) (yes (Or.inl e))
    · refine r_ifT ((oleq (by omega) (by omega)).mpr (by omega)) ?_
      have e : j = nt := by omega
      subst e
      rcases h01 with e | e
      · refine r_ifT e (Hn (hgB_F (Or.inr (Or.inr ?_))))
        cases c : hB m0 s j i with
        | false => rfl
        | true =>
          have := hh.mpr ((hB_iff m0 s j i).mp c)
          rw [e] at this
          exact absurd this (by decide)
      · have hb : hB m0 s j i = true := (hB_iff m0 s j i).mpr (hh.mp e)
        refine r_ifF (by rw [e]; decide) (o_aIe r136 (n := 5 * i + 4) (wix 5 i 4) (by omega) g1 ?_)
        by_cases c : sI m0 103 i = 0
        · refine r_ifT c (o_aI r139 (n := 4 * s + 3) (wix 4 s 3) (by omega) ?_)
          rw [bitv _ (by omega)]
          rcases g3 with d | d
          · have : bt (sI S 139 (4 * s + 3)) i = false := by
              cases x : bt (sI S 139 (4 * s + 3)) i with
              | false => rfl
              | true =>
                have := g2.mp x
                rw [d] at this
                exact absurd this (by decide)
            exact r_ifT (by rw [this]; rfl) (Hy (hgB_T c d hb))
          · exact r_ifF (by rw [g2.mpr d]; decide) (Hn (hgB_F (Or.inr (Or.inl (by rw [d]; decide)))))
        · exact r_ifF c (Hn (hgB_F (Or.inl c)))
/-- the law's families -/
theorem o_lineL {Q : Int32 × AS → Prop} {s : Nat} (lr : LR S0) (c3 : sI S0 127 3 = Int32.ofNat nf) (c4 : sI S0 127 4 = Int32.ofNat nt) (t20 : nt ≤ 20) (tok : lTok nf nk nt S0 m0) (god : lGod nf S0 m0) (f10 : nf ≤ 10) (k10 : nk ≤ 10) (s4 : s < 4) (up : sI S0 139 (4 * s) = 0) (b0 : ∀ f, f < 10 → (bt (sI S0 139 (4 * s + 3)) f = true ↔ sI m0 116 (60 * s + f) = 1) ∧ q01 (sI m0 116 (60 * s + f)))
    (H : ∀ Sa, LF S0 Sa → (∀ q j, ¬ (q = 139 ∧ j = 4 * s + 3) → sI Sa q j = sI S0 q j) → (∀ f, f < 10 → (bt (sI Sa 139 (4 * s + 3)) f = true ↔ sI m0 116 (60 * s + f) = 1 ∨ (f < nf ∧ hgB m0 s nt f = true))) → Ho (f_W_tokens_B1181 Sa (some 4) (Int32.ofNat s) (Int32.ofNat (cN (hgB m0 s nt) nf))) Q) :
    ∀ (k i fu : Nat) (S : AS), i + k = nf → k < fu → LF S0 S → (∀ q j, ¬ (q = 139 ∧ j = 4 * s + 3) → sI S q j = sI S0 q j) → (∀ f, f < 10 → (bt (sI S 139 (4 * s + 3)) f = true ↔ sI m0 116 (60 * s + f) = 1 ∨ (f < i ∧ hgB m0 s nt f = true))) → Ho (f_W_tokens_L1009 fu S (some 4) (some 127) (some 136) (some 137) (some 139) (Int32.ofNat s) (Int32.ofNat (cN (hgB m0 s nt) i)) (Int32.ofNat i)) Q
  | _, _, 0, _, _, h, _, _, _ => absurd h (Nat.not_lt_zero _)
  | k, i, fu + 1, S, hk, hfu, l, o, hb => by
    obtain ⟨r127, -, -, -, -, -, -, -, -, r136, r137, -, r139, -⟩ := l.LR lr
    unfold f_W_tokens_L1009 f_W_tokens_C1009
    refine o_aIe r127 (n := 3) rfl (by decide) ((o 127 3 (by omega)).trans c3) ?_
    by_cases hi : i < nf
    · obtain ⟨k, rfl⟩ : ∃ k', k = k' + 1 := ⟨k - 1, by omega⟩
      refine r_ifF (fun q => by have := (oleq (a := nf) (b := i) (by omega) (by omega)).mp q; omega) (o_aIe r139 (n := 4 * s) (wmul 4 s) (by omega) ((o 139 _ (by omega)).trans up) (r_ifT rfl ?_))
      -- what is written, then the next family
      have nxt : ∀ (v : Int32) (cc : Int32), cc = Int32.ofNat (cN (hgB m0 s nt) (i + 1)) → (∀ f, f < 10 → (bt v f = true ↔ sI m0 116 (60 * s + f) = 1 ∨ (f < i + 1 ∧ hgB m0 s nt f = true))) → Ho ((bI S (some 139) ((4 : Int32) * Int32.ofNat s + (3 : Int32)) v).bind fun S94 => (some (Int32.ofNat i + (1 : Int32))).bind fun i95 => f_W_tokens_L1009 fu S94 (some 4) (some 127) (some 136) (some 137) (some 139) (Int32.ofNat s) cc i95) Q := fun v cc ec hv => by
        refine o_bI r139 (n := 4 * s + 3) (wix 4 s 3) (by omega) (r_val ?_)
        rw [o1, ec]
        exact o_lineL lr c3 c4 t20 tok god f10 k10 s4 up b0 H k (i + 1) fu _ (by omega) (by omega) (LF_w l (by decide)) (fun q j z => (ti_sI_ne z).trans (o q j z)) (fun f hf => by rw [ti_sI_eq]; exact hv f hf)
      refine o_hearL (nf := nf) (nk := nk) (m0 := m0) r127 r136 r137 r139 ((o 127 4 (by omega)).trans c4) t20 (lTok_fr tok (funext fun j => o 137 j (by omega)) rfl rfl rfl rfl rfl rfl rfl) f10 k10 s4 hi ((o 136 _ (by omega)).trans (god i hi).1) ((hb i (by omega)).trans ⟨fun q => q.elim id (fun z => absurd z.1 (Nat.lt_irrefl _)), Or.inl⟩) (b0 i (by omega)).2 (fun gf => ?_) (fun gt => ?_) nt 0 kr_FU 0 (by omega) (show nt < 2000 by omega) (Or.inl rfl) ⟨fun z => absurd z (by decide), fun ⟨t, z, _⟩ => absurd z (Nat.not_lt_zero _)⟩
      · unfold f_W_tokens_B1132 f_W_tokens_B1133
        refine r_ifT rfl ?_
        unfold f_W_tokens_B1147
        refine r_val (r_val (o_aI r139 (n := 4 * s + 3) (wix 4 s 3) (by omega) (r_ifT rfl ?_)))
        unfold f_W_tokens_B1173
        refine nxt _ _ (cN_F gf) (fun f hf => ?_)
        rw [bt_or, bt_0, Bool.or_false, hb f hf]
        refine or_congr Iff.rfl ⟨fun z => ⟨by omega, z.2⟩, fun z => ⟨?_, z.2⟩⟩
        have : f ≠ i := fun q => by
          rw [q, gf] at z
          exact absurd z.2 (by decide)
        omega
      · unfold f_W_tokens_B1133
        refine r_ifF one0 ?_
        unfold f_W_tokens_B1147
        refine r_val (r_val (o_aI r139 (n := 4 * s + 3) (wix 4 s 3) (by omega) (r_ifF one0 ?_)))
        unfold f_W_tokens_B1173
        refine nxt _ _ (cN_T gt) (fun f hf => ?_)
        rw [bt_sh _ (by omega) f, hb f hf]
        constructor
        · rintro ((z | z) | z)
          · exact Or.inl z
          · exact Or.inr ⟨by omega, z.2⟩
          · rw [z]
            exact Or.inr ⟨by omega, gt⟩
        · rintro (z | z)
          · exact Or.inl (Or.inl z)
          · by_cases e : f = i
            · exact Or.inr e
            · exact Or.inl (Or.inr ⟨by omega, z.2⟩)
    · refine r_ifT ((oleq (by omega) (by omega)).mpr (by omega)) ?_
      have e : i = nf := by omega
      subst e
      exact H S l o hb
end
section
variable {mm : AS} {nf nt : Nat}
theorem p_lineL {s : Nat} (hmf : MF mm) (h46 : sI mm 57 46 = Int32.ofNat nf) (f10 : nf ≤ 10) (h52 : sI mm 57 52 = Int32.ofNat nt) (t20 : nt ≤ 20) (s4 : s < 4) (up : sI mm 113 s = 0) (g01 : ∀ f, f < nf → q01 (sI mm 103 f)) (b01 : ∀ f, f < 10 → q01 (sI mm 116 (60 * s + f))) : ∀ (k i fu : Nat) (M : AS), i + k = nf → sR M = sR mm → (∀ q j, ¬ (q = 116 ∧ ∃ f, f < i ∧ j = 60 * s + f) → sI M q j = sI mm q j) → (∀ f, f < i → q01 (sI M 116 (60 * s + f)) ∧ (sI M 116 (60 * s + f) = 1 ↔ sI mm 116 (60 * s + f) = 1 ∨ hgB mm s nt f = true)) →
    Hp (f_M_line_L37 fu M (some 57) (Int32.ofNat s) (Int32.ofNat (cN (hgB mm s nt) i)) (Int32.ofNat i)) (fun q => q.1 = Int32.ofNat (cN (hgB mm s nt) nf) ∧ (∀ a j, ¬ (a = 116 ∧ ∃ f, f < nf ∧ j = 60 * s + f) → sI q.2 a j = sI mm a j) ∧ ∀ f, f < nf → q01 (sI q.2 116 (60 * s + f)) ∧ (sI q.2 116 (60 * s + f) = 1 ↔ sI mm 116 (60 * s + f) = 1 ∨ hgB mm s nt f = true))
  | _, _, 0, _, _, _, _, _ => p_0
  | k, i, fu + 1, M, hk, r, o, hb => by
    have hm := MF_e hmf r
    have o' : ∀ q j, q ≠ 116 → sI M q j = sI mm q j := fun q j h => o q j (fun z => h z.1)
    unfold f_M_line_L37 f_M_line_C37
    refine p_of (st_gIe ((o' 57 46 (by omega)).trans h46)) ?_
    by_cases hi : i < nf
    · obtain ⟨k, rfl⟩ : ∃ k', k = k' + 1 := ⟨k - 1, by omega⟩
      refine p_of (st_F (fun q => by have := (oleq (a := nf) (b := i) (by omega) (by omega)).mp q; omega)) (p_of (st_gRe (hm 66 113 rfl)) (p_of (st_aIe (oc (by omega)) ((o' 113 s (by omega)).trans up)) (p_of (st_T rfl) ?_)))
      have ix : ((60 : Int32) * Int32.ofNat s + Int32.ofNat i).toNatClampNeg = 60 * s + i := by
        rw [show (60 : Int32) * Int32.ofNat s + Int32.ofNat i = Int32.ofNat (60 * s + i) from wix 60 s i]
        exact oc (by omega)
      have old : sI M 116 (60 * s + i) = sI mm 116 (60 * s + i) := o 116 _ (fun ⟨_, f, h1, h2⟩ => by omega)
      -- written, then on
      have nxt : ∀ (x4 y2 : Int32), (x4 = 0 → hgB mm s nt i = false) → (x4 ≠ 0 → hgB mm s nt i = true) → q01 y2 → (y2 = 1 ↔ sI mm 116 (60 * s + i) = 1 ∨ hgB mm s nt i = true) → Hp (f_M_line_B127 (f_M_line_L37 fu) M (some 57) (Int32.ofNat s) (Int32.ofNat (cN (hgB mm s nt) i)) (Int32.ofNat i) x4 (some 116) ((60 : Int32) * Int32.ofNat s + Int32.ofNat i) y2) (fun q => q.1 = Int32.ofNat (cN (hgB mm s nt) nf) ∧ (∀ a j, ¬ (a = 116 ∧ ∃ f, f < nf ∧ j = 60 * s + f) → sI q.2 a j = sI mm a j) ∧ ∀ f, f < nf → q01 (sI q.2 116 (60 * s + f)) ∧ (sI q.2 116 (60 * s + f) = 1 ↔ sI mm 116 (60 * s + f) = 1 ∨ hgB mm s nt f = true)) := fun x4 y2 h0 h1 hy hy2 => by
        unfold f_M_line_B127
        refine p_of (st_bZe ix) ?_
        have go : Hp (f_M_line_L37 fu (wI M 116 (60 * s + i) y2) (some 57) (Int32.ofNat s) (Int32.ofNat (cN (hgB mm s nt) (i + 1))) (Int32.ofNat (i + 1))) (fun q => q.1 = Int32.ofNat (cN (hgB mm s nt) nf) ∧ (∀ a j, ¬ (a = 116 ∧ ∃ f, f < nf ∧ j = 60 * s + f) → sI q.2 a j = sI mm a j) ∧ ∀ f, f < nf → q01 (sI q.2 116 (60 * s + f)) ∧ (sI q.2 116 (60 * s + f) = 1 ↔ sI mm 116 (60 * s + f) = 1 ∨ hgB mm s nt f = true)) := by
          refine p_lineL hmf h46 f10 h52 t20 s4 up g01 b01 k (i + 1) fu _ (by omega) r (fun q j z => ?_) (fun f hf => ?_)
          · rw [ti_sI_ne (fun w => z ⟨w.1, i, by omega, w.2⟩)]
            exact o q j (fun ⟨w1, f, w2, w3⟩ => z ⟨w1, f, by omega, w3⟩)
          · by_cases e : f = i
            · rw [e, ti_sI_eq]
              exact ⟨hy, hy2⟩
            · rw [ti_sI_ne (by omega)]
              exact hb f (by omega)
        by_cases c : x4 = 0
        · refine p_of (st_T c) ?_
          unfold f_M_line_B139
          refine p_of st_val (p_of st_val ?_)
          rw [cN_F (h0 c), o1]
          exact go
        · refine p_of (st_F c) ?_
          unfold f_M_line_B139
          refine p_of st_val (p_of st_val ?_)
          rw [cN_T (h1 c), o1]
          exact go
      -- nothing to tell
      have no : hgB mm s nt i = false → Hp (f_M_line_B90 (f_M_line_L37 fu) M (some 57) (Int32.ofNat s) (Int32.ofNat (cN (hgB mm s nt) i)) (Int32.ofNat i)) (fun q => q.1 = Int32.ofNat (cN (hgB mm s nt) nf) ∧ (∀ a j, ¬ (a = 116 ∧ ∃ f, f < nf ∧ j = 60 * s + f) → sI q.2 a j = sI mm a j) ∧ ∀ f, f < nf → q01 (sI q.2 116 (60 * s + f)) ∧ (sI q.2 116 (60 * s + f) = 1 ↔ sI mm 116 (60 * s + f) = 1 ∨ hgB mm s nt f = true)) := fun gf => by
        unfold f_M_line_B90 f_M_line_B91
        refine p_of (st_gRe (hm 69 116 rfl)) (p_of (st_gRe (hm 69 116 rfl)) (p_of (st_aIe ix old) ?_))
        rcases b01 i (by omega) with b | b
        · exact p_of (st_T b) (p_of (st_T rfl) (nxt 0 0 (fun _ => gf) (fun z => absurd rfl z) (Or.inl rfl) ⟨fun z => absurd z (by decide), fun z => by
            rcases z with z | z
            · rw [b] at z
              exact absurd z (by decide)
            · rw [gf] at z
              exact absurd z (by decide)⟩))
        · refine p_of (st_F (by rw [b]; decide)) ?_
          unfold f_M_line_B122
          exact nxt 0 1 (fun _ => gf) (fun z => absurd rfl z) (Or.inr rfl) ⟨fun _ => Or.inl b, fun _ => rfl⟩
      refine p_of (st_gRe (hm 51 103 rfl)) (p_of (st_aIe (oc (by omega)) (o' 103 i (by omega))) ?_)
      rcases g01 i hi with g | g
      · refine p_of (st_T g) (p_of (st_gRe (hm 69 116 rfl)) (p_of (st_aIe ix old) ?_))
        rcases b01 i (by omega) with b | b
        · refine p_of (st_T b) (p_of st_rv (p_b2 (p_hears (m := M) (nt := nt) hm ((o' 57 52 (by omega)).trans h52) (by omega)) (fun v m' p => ?_)))
          obtain ⟨q1, q2, q3⟩ := p
          have q1 : m' = M := q1
          rw [q1]
          have q3 : v = 1 ↔ hB mm s nt i = true := by
            rw [hB_iff]
            refine q3.trans ⟨?_, ?_⟩
            · rintro ⟨t, a1, a2, a3⟩
              exact ⟨t, a1, by rw [← o' 108 t (by omega)]; exact a2, by rw [← o' 105 t (by omega)]; exact a3⟩
            · rintro ⟨t, a1, a2, a3⟩
              exact ⟨t, a1, by rw [o' 108 t (by omega)]; exact a2, by rw [o' 105 t (by omega)]; exact a3⟩
          by_cases c : v = 0
          · refine p_of (st_T c) (no (hgB_F (Or.inr (Or.inr ?_))))
            cases x : hB mm s nt i with
            | false => rfl
            | true =>
              have := q3.mpr x
              rw [c] at this
              exact absurd this (by decide)
          · have v1 : v = 1 := q2.resolve_left c
            have gt : hgB mm s nt i = true := hgB_T g b (q3.mp v1)
            refine p_of (st_F c) ?_
            unfold f_M_line_B91
            refine p_of (st_gRe (hm 69 116 rfl)) (p_of (st_gRe (hm 69 116 rfl)) (p_of (st_aIe ix old) (p_of (st_T b) (p_of (st_F one0) ?_))))
            unfold f_M_line_B122
            exact nxt 1 1 (fun z => absurd z one0) (fun _ => gt) (Or.inr rfl) ⟨fun _ => Or.inr gt, fun _ => rfl⟩
        · exact p_of (st_F (by rw [b]; decide)) (no (hgB_F (Or.inr (Or.inl (by rw [b]; decide)))))
      · exact p_of (st_F (by rw [g]; decide)) (no (hgB_F (Or.inl (by rw [g]; decide))))
    · have e : i = nf := by omega
      subst e
      exact p_of (st_T ((oleq (by omega) (by omega)).mpr (by omega))) (p_ret ⟨rfl, o, hb⟩)
end
theorem p_line {m : AS} {nf nt s : Nat} (hmf : MF m) (h46 : sI m 57 46 = Int32.ofNat nf) (f10 : nf ≤ 10) (h52 : sI m 57 52 = Int32.ofNat nt) (t20 : nt ≤ 20) (s4 : s < 4) (v01 : q01 (sI m 113 s)) (g01 : ∀ f, f < nf → q01 (sI m 103 f)) (b01 : ∀ f, f < 10 → q01 (sI m 116 (60 * s + f))) : Hp (f_M_line m (some 57) (Int32.ofNat s)) (fun q => sI q.2 57 82 = 0 ∧ sI q.2 113 s = ng (sI m 113 s) ∧ (sI m 113 s = 0 → (nf = 0 ∨ 0 < nf) → q.1 = 0 ∧ ∀ k j, ¬ (k = 57 ∧ j = 82) → ¬ (k = 113 ∧ j = s) → sI q.2 k j = sI m k j) ∧
    (sI m 113 s = 1 → q.1 = Int32.ofNat (cN (hgB m s nt) nf) ∧ (∀ k j, ¬ (k = 57 ∧ j = 82) → ¬ (k = 113 ∧ j = s) → ¬ (k = 116 ∧ ∃ f, f < nf ∧ j = 60 * s + f) → sI q.2 k j = sI m k j) ∧ ∀ f, f < nf → q01 (sI q.2 116 (60 * s + f)) ∧ (sI q.2 116 (60 * s + f) = 1 ↔ sI m 116 (60 * s + f) = 1 ∨ hgB m s nt f = true))) := by
  unfold f_M_line
  refine p_of (st_b2 (q_ser m _)) ?_
  rw [if_pos (in3 s4)]
  refine p_of st_rv (p_b2 p_may (fun v m' q => ?_))
  rw [if_neg one0] at q
  obtain ⟨q1, q2⟩ := Prod.mk.inj q
  rw [q1]
  obtain ⟨m1, e1⟩ : ∃ m1, m1 = wI m 57 82 0 := ⟨_, rfl⟩
  rw [q2, ← e1]
  have hm1 : MF m1 := by rw [e1]; exact MF_e hmf rfl
  have o : ∀ k j, ¬ (k = 57 ∧ j = 82) → sI m1 k j = sI m k j := fun k j z => by rw [e1, ti_sI_ne z]
  refine p_of (st_F one0) (p_of (st_gRe (hm1 66 113 rfl)) (p_of (st_gRe (hm1 66 113 rfl)) (p_of (st_aIe (oc (by omega)) (o 113 s (by omega))) ?_)))
  rcases v01 with e | e
  · -- it goes down
    refine p_of (st_T e) ?_
    unfold f_M_line_B32
    refine p_of (st_bZe (oc (by omega))) ?_
    obtain ⟨m2, e2⟩ : ∃ m2, m2 = wI m1 113 s 1 := ⟨_, rfl⟩
    rw [← e2]
    have hm2 : MF m2 := by rw [e2]; exact MF_e hm1 rfl
    have o2 : ∀ k j, ¬ (k = 57 ∧ j = 82) → ¬ (k = 113 ∧ j = s) → sI m2 k j = sI m k j := fun k j z1 z2 => by
      rw [e2, ti_sI_ne z2]
      exact o k j z1
    have m82 : sI m2 57 82 = 0 := by rw [e2, ti_sI_ne (by omega), e1, ti_sI_eq]
    have m113 : sI m2 113 s = 1 := by rw [e2, ti_sI_eq]
    have fin : ∀ fu, Hp (f_M_line_L37 fu m2 (some 57) (Int32.ofNat s) (0 : Int32) (0 : Int32)) (fun q => q = (0, m2)) := fun fu => by
      cases fu with
      | zero => exact p_0
      | succ fu =>
        unfold f_M_line_L37 f_M_line_C37
        refine p_of (st_gIe ((o2 57 46 (by omega) (by omega)).trans h46)) ?_
        by_cases c : nf = 0
        · exact p_of (st_T (by rw [c]; decide)) (p_ret rfl)
        · exact p_of (st_F (fun q => c (by have := (oleq (a := nf) (b := 0) (by omega) (by omega)).mp q; omega))) (p_of (st_gRe (hm2 66 113 rfl)) (p_of (st_aIe (oc (by omega)) m113) (p_of (st_F one0) (p_ret rfl))))
    refine p_mono (fin kr_FU) (fun q h => ?_)
    rw [h]
    exact ⟨m82, by rw [e]; exact m113, fun _ _ => ⟨rfl, o2⟩, fun z => absurd (e.symm.trans z) (by decide)⟩
  · -- it comes up
    refine p_of (st_F (by rw [e]; decide)) ?_
    unfold f_M_line_B32
    refine p_of (st_bZe (oc (by omega))) ?_
    obtain ⟨m2, e2⟩ : ∃ m2, m2 = wI m1 113 s 0 := ⟨_, rfl⟩
    rw [← e2]
    have hm2 : MF m2 := by rw [e2]; exact MF_e hm1 rfl
    have o2 : ∀ k j, ¬ (k = 57 ∧ j = 82) → ¬ (k = 113 ∧ j = s) → sI m2 k j = sI m k j := fun k j z1 z2 => by
      rw [e2, ti_sI_ne z2]
      exact o k j z1
    have m82 : sI m2 57 82 = 0 := by rw [e2, ti_sI_ne (by omega), e1, ti_sI_eq]
    have m113 : sI m2 113 s = 0 := by rw [e2, ti_sI_eq]
    have gb : ∀ f, hgB m2 s nt f = hgB m s nt f := fun f => by
      have h108 : sI m2 108 = sI m 108 := funext fun j => o2 108 j (by omega) (by omega)
      have h105 : sI m2 105 = sI m 105 := funext fun j => o2 105 j (by omega) (by omega)
      unfold hgB hB
      rw [o2 103 f (by omega) (by omega), o2 116 _ (by omega) (by omega), h108, h105]
    have gbe : hgB m2 s nt = hgB m s nt := funext gb
    refine p_mono (p_lineL (mm := m2) (nf := nf) (nt := nt) hm2 ((o2 57 46 (by omega) (by omega)).trans h46) f10 ((o2 57 52 (by omega) (by omega)).trans h52) t20 s4 m113 (fun f hf => by rw [o2 103 f (by omega) (by omega)]; exact g01 f hf) (fun f hf => by rw [o2 116 _ (by omega) (by omega)]; exact b01 f hf) nf 0 kr_FU m2 (by omega) rfl (fun _ _ _ => rfl) (fun f hf => absurd hf (Nat.not_lt_zero _))) (fun q h => ?_)
    obtain ⟨h1, h2, h3⟩ := h
    rw [gbe] at h1 h3
    refine ⟨(h2 57 82 (fun z => by omega)).trans m82, ?_, fun z => absurd (e.symm.trans z) (by decide), fun _ => ⟨h1, fun k j z1 z2 z3 => (h2 k j z3).trans (o2 k j z1 z2), fun f hf => ?_⟩⟩
    · rw [e]
      exact (h2 113 s (fun z => by omega)).trans m113
    · have := h3 f hf
      rw [o2 116 (60 * s + f) (by omega) (by omega)] at this
      exact this
section
variable {n r : Nat} {T : Nat → Nat} {S : AS}
theorem l_line (L : L54 n r T S) (hn : n ≤ 500) {y : Int32} : Ho (f_W_tokens S (some 4) (3 : Int32) y (some 127) (some 133) (some 134) (some 135) (some 136) (some 137) (some 138) (some 139) (some 140)) (G54 n r) := by
  obtain ⟨iv, rp, tl, pts, -, ns, nc, nf, nt, nk, na, lw⟩ := id L
  have lr := TL_LR iv.1 tl
  obtain ⟨⟨z1, z2, z3, z4, z5, -⟩, ⟨now, aud, key, -⟩, -, -, -, -, ⟨-, -, -, -, god⟩, tok, out, ⟨srv, tol⟩, -⟩ := id lw
  have nt20 := z4.2.2
  have nf10 := z3.2.2
  have nk10 := z5.2.2
  obtain ⟨r127, -, -, -, -, -, -, -, -, r136, r137, r138, r139, -⟩ := id lr
  unfold f_W_tokens
  refine r_ifF (by decide) (r_ifF (by decide) (r_ifF (by decide) (o_some 4 rfl (by decide) (by decide) (fun s s4 => r_ifT rfl ?_))))
  obtain ⟨⟨v0, v01⟩, v1, v2, vm⟩ := srv s s4
  obtain ⟨tb, tz, tg⟩ := tol s s4
  refine o_aIe r139 (n := 4 * s) (wmul 4 s) (by omega) v0 (o_bI r139 (n := 4 * s) (wmul 4 s) (by omega) ?_)
  have ev : (1 : Int32) - sI S 113 s = ng (sI S 113 s) := by
    rcases v01 with e | e <;> rw [e] <;> rfl
  rw [ev]
  obtain ⟨Sb, eb⟩ : ∃ Sb, Sb = wI S 139 (4 * s) (ng (sI S 113 s)) := ⟨_, rfl⟩
  rw [← eb]
  have lb : LF S Sb := by rw [eb]; exact LF_w (LF_rf S) (by decide)
  have ob : ∀ k j, ¬ (k = 139 ∧ j = 4 * s) → sI Sb k j = sI S k j := fun k j q => by rw [eb, ti_sI_ne q]
  have b0 : sI Sb 139 (4 * s) = ng (sI S 113 s) := by rw [eb, ti_sI_eq]
  -- the call and the relation behind it, from rows with the bits as they are to be
  have call : ∀ (Sa : AS) (told : Int32), LF Sb Sa → (∀ q j, ¬ (q = 139 ∧ j = 4 * s + 3) → sI Sa q j = sI Sb q j) → ((sI S 113 s = 0 ∧ told = 0 ∧ ∀ f, f < 10 → (bt (sI Sa 139 (4 * s + 3)) f = true ↔ sI S 116 (60 * s + f) = 1)) ∨ (sI S 113 s = 1 ∧ told = Int32.ofNat (cN (hgB S s nt) nf) ∧ ∀ f, f < 10 → (bt (sI Sa 139 (4 * s + 3)) f = true ↔ sI S 116 (60 * s + f) = 1 ∨ (f < nf ∧ hgB S s nt f = true)))) → Ho (f_W_tokens_B1181 Sa (some 4) (Int32.ofNat s) told) (G54 n r) := fun Sa told la' oa hc => by
    have la : LF S Sa := LF_tr lb la'
    unfold f_W_tokens_B1181
    obtain ⟨c', v, S1, S2, T1, e1, e2, g, an⟩ := tg_line (a0 := Int32.ofNat s) (LF_IV iv tl la) (by omega) (LF_RPF iv.1 tl rp la)
    have bh := PK_BH L la g (by decide +kernel) (by decide +kernel) (by decide +kernel)
    obtain ⟨-, -, -, -, kS, kS1, kG, mf⟩ := id bh
    have gk0 : GK S S1 := GK_tr (LF_GK la) kG
    have eg : ∀ k j, 57 ≤ k → k < 126 → k ≠ 57 → sI S1 k j = sI S k j := fun k j h1 h2 h3 => gk0 k j h1 h2 (by omega)
    have gbe : hgB S1 s nt = hgB S s nt := funext fun f => by
      have h108 : sI S1 108 = sI S 108 := funext fun j => eg 108 j (by omega) (by omega) (by omega)
      have h105 : sI S1 105 = sI S 105 := funext fun j => eg 105 j (by omega) (by omega) (by omega)
      unfold hgB hB
      rw [eg 103 f (by omega) (by omega) (by omega), eg 116 _ (by omega) (by omega) (by omega), h108, h105]
    obtain ⟨v82, m113, pa, pb⟩ := p_line (nf := nf) (nt := nt) mf ((gk0 57 46 (by omega) (by omega) (by omega)).trans z3.2.1) nf10 ((gk0 57 52 (by omega) (by omega) (by omega)).trans z4.2.1) nt20 s4 (by rw [eg 113 s (by omega) (by omega) (by omega)]; exact v01) (fun f hf => by rw [eg 103 f (by omega) (by omega) (by omega)]; exact (god f hf).2) (fun f hf => by rw [eg 116 _ (by omega) (by omega) (by omega)]; exact (tb f hf).2) _ e2
    rw [eg 113 s (by omega) (by omega) (by omega)] at m113 pa pb
    rw [gbe] at pb
    have m113 : sI S2 113 s = ng (sI S 113 s) := m113
    have s2 : ∀ k j, 127 ≤ k → k < 141 → sI S2 k j = sI Sa k j := fun k j h1 h2 => by rw [kS k h1 h2]
    -- who was told, and what is as it was
    have all : v = told ∧ (∀ k j, 57 ≤ k → k < 126 → ¬ (k = 57 ∧ (100 ≤ j ∨ j = 82)) → ¬ (k = 113 ∧ j = s) → ¬ (k = 116 ∧ ∃ f, f < nf ∧ j = 60 * s + f) → sI S2 k j = sI S k j) ∧ ∀ f, f < 10 → (bt (sI S2 139 (4 * s + 3)) f = true ↔ sI S2 116 (60 * s + f) = 1) ∧ q01 (sI S2 116 (60 * s + f)) ∧ (nf ≤ f → sI S2 116 (60 * s + f) = 0) ∧ (f < nf → sI S 103 f = 1 → sI S2 116 (60 * s + f) = 0) := by
      rcases hc with ⟨h1, h2, h3⟩ | ⟨h1, h2, h3⟩
      · obtain ⟨w1, w2⟩ := pa h1 (by omega)
        have w1 : v = 0 := w1
        have w2 : ∀ k j, ¬ (k = 57 ∧ j = 82) → ¬ (k = 113 ∧ j = s) → sI S2 k j = sI S1 k j := w2
        refine ⟨w1.trans h2.symm, fun k j q1 q2 q3 q4 _ => (w2 k j (by omega) q4).trans (gk0 k j q1 q2 q3), fun f hf => ?_⟩
        have e : sI S2 116 (60 * s + f) = sI S 116 (60 * s + f) := (w2 116 _ (by omega) (by omega)).trans (eg 116 _ (by omega) (by omega) (by omega))
        rw [e, s2 139 _ (by omega) (by omega)]
        exact ⟨h3 f hf, (tb f hf).2, fun q => tz f q hf, fun q1 q2 => tg f q1 q2⟩
      · obtain ⟨w1, w2, w3⟩ := pb h1
        have w1 : v = Int32.ofNat (cN (hgB S s nt) nf) := w1
        have w2 : ∀ k j, ¬ (k = 57 ∧ j = 82) → ¬ (k = 113 ∧ j = s) → ¬ (k = 116 ∧ ∃ f, f < nf ∧ j = 60 * s + f) → sI S2 k j = sI S1 k j := w2
        have w3 : ∀ f, f < nf → q01 (sI S2 116 (60 * s + f)) ∧ (sI S2 116 (60 * s + f) = 1 ↔ sI S1 116 (60 * s + f) = 1 ∨ hgB S s nt f = true) := w3
        refine ⟨w1.trans h2.symm, fun k j q1 q2 q3 q4 q5 => (w2 k j (by omega) q4 q5).trans (gk0 k j q1 q2 q3), fun f hf => ?_⟩
        rw [s2 139 _ (by omega) (by omega)]
        by_cases c : f < nf
        · obtain ⟨y1, y2⟩ := w3 f c
          rw [eg 116 _ (by omega) (by omega) (by omega)] at y2
          refine ⟨(h3 f hf).trans ⟨fun q => y2.mpr (q.imp id (fun z => z.2)), fun q => (y2.mp q).imp id (fun z => ⟨c, z⟩)⟩, y1, fun q => absurd q (by omega), fun _ q => y1.resolve_right (fun z => ?_)⟩
          rcases y2.mp z with z | z
          · rw [tg f c q] at z
            exact absurd z (by decide)
          · rw [hgB_103 z] at q
            exact absurd q (by decide)
        · have e : sI S2 116 (60 * s + f) = sI S 116 (60 * s + f) := (w2 116 _ (by omega) (by omega) (fun ⟨_, f', q1, q2⟩ => by omega)).trans (eg 116 _ (by omega) (by omega) (by omega))
          rw [e]
          refine ⟨(h3 f hf).trans ⟨fun q => q.elim id (fun z => absurd z.1 c), Or.inl⟩, (tb f hf).2, fun q => tz f q hf, fun q => absurd q c⟩
    obtain ⟨ev', oM, hb⟩ := all
    have oW : ∀ k j, 127 ≤ k → k < 141 → ¬ (k = 139 ∧ (j = 4 * s ∨ j = 4 * s + 3)) → sI S2 k j = sI S k j := fun k j h1 h2 h3 => (s2 k j h1 h2).trans ((oa k j (by omega)).trans (ob k j (by omega)))
    refine o_b2 e1 (o_fin (by rw [ANc_0 an (by decide) v82, ev']) (BH_L bh (lPN_e pts (fun j => oM 73 j (by omega) (by omega) (by omega) (by omega) (fun z => by omega)) (oM 57 0 (by omega) (by omega) (by omega) (by omega) (fun z => by omega))) ⟨ns, nc, nf, nt, nk, na, LWa_line lw (fun k j h1 h2 h3 => oW k j h1 h2 (by omega)) (fun k j h1 h2 h3 h4 => oM k j h1 h2 h3 (by omega) (fun z => by omega)) (fun s' hs' => ?_) (fun s' hs' => ?_)⟩))
    · rw [oM 114 s' (by omega) (by omega) (by omega) (by omega) (fun z => by omega), oM 115 s' (by omega) (by omega) (by omega) (by omega) (fun z => by omega)]
      by_cases c : s' = s
      · rw [c, s2 139 _ (by omega) (by omega), oa 139 (4 * s) (by omega), b0, m113, oW 139 _ (by omega) (by omega) (by omega), oW 139 _ (by omega) (by omega) (by omega)]
        refine ⟨⟨rfl, ?_⟩, v1, v2, vm⟩
        unfold ng q01
        rcases v01 with e | e <;> rw [e] <;> decide
      · rw [oW 139 _ (by omega) (by omega) (by omega), oW 139 _ (by omega) (by omega) (by omega), oW 139 _ (by omega) (by omega) (by omega), oM 113 s' (by omega) (by omega) (by omega) (by omega) (fun z => by omega)]
        exact srv s' hs'
    · by_cases c : s' = s
      · rw [c]
        refine ⟨fun f hf => ⟨(hb f hf).1, (hb f hf).2.1⟩, fun f h1 h2 => (hb f h2).2.2.1 h1, fun f h1 h2 => (hb f (by omega)).2.2.2 h1 ?_⟩
        rw [← oM 103 f (by omega) (by omega) (by omega) (by omega) (fun z => by omega)]
        exact h2
      · obtain ⟨x1, x2, x3⟩ := tol s' hs'
        have e116 : ∀ f, f < 10 → sI S2 116 (60 * s' + f) = sI S 116 (60 * s' + f) := fun f hf => oM 116 _ (by omega) (by omega) (by omega) (by omega) (fun ⟨_, f', q1, q2⟩ => by omega)
        rw [oW 139 _ (by omega) (by omega) (by omega)]
        refine ⟨fun f hf => by rw [e116 f hf]; exact x1 f hf, fun f h1 h2 => by rw [e116 f h2]; exact x2 f h1 h2, fun f h1 h2 => ?_⟩
        rw [oM 103 f (by omega) (by omega) (by omega) (by omega) (fun z => by omega)] at h2
        rw [e116 f (by omega)]
        exact x3 f h1 h2
  rcases v01 with e | e
  · -- down: the law's loop ends at once
    obtain ⟨r127b, -, -, -, -, -, -, -, -, -, -, -, r139b, -⟩ := lb.LR lr
    have fin : Ho (f_W_tokens_B1181 Sb (some 4) (Int32.ofNat s) (0 : Int32)) (G54 n r) := call Sb 0 (LF_rf Sb) (fun _ _ _ => rfl) (Or.inl ⟨e, rfl, fun f hf => by rw [ob 139 _ (by omega)]; exact (tb f hf).1⟩)
    show Ho (f_W_tokens_C1009 (f_W_tokens_L1009 1999) Sb (some 4) (some 127) (some 136) (some 137) (some 139) (Int32.ofNat s) 0 0) (G54 n r)
    unfold f_W_tokens_C1009
    refine o_aIe r127b (n := 3) rfl (by decide) ((ob 127 3 (by omega)).trans z3.1) ?_
    by_cases c : nf = 0
    · exact r_ifT (by rw [c]; decide) fin
    · exact r_ifF (fun q => c (by have := (oleq (a := nf) (b := 0) (by omega) (by omega)).mp q; omega)) (o_aIe (v := 1) r139b (n := 4 * s) (wmul 4 s) (by omega) (b0.trans (by rw [e]; rfl)) (r_ifF one0 fin))
  · have b0' : sI Sb 139 (4 * s) = 0 := b0.trans (by rw [e]; rfl)
    refine o_lineL (S0 := Sb) (m0 := S) (nk := nk) (lb.LR lr) ((ob 127 3 (by omega)).trans z3.1) ((ob 127 4 (by omega)).trans z4.1) nt20 (lTok_fr tok (funext fun j => ob 137 j (by omega)) rfl rfl rfl rfl rfl rfl rfl) (lGod_fr god (fun j _ => ob 136 j (by omega)) rfl) nf10 nk10 s4 b0' (fun f hf => by rw [ob 139 _ (by omega)]; exact tb f hf) (fun Sa h1 h2 h3 => call Sa _ h1 h2 (Or.inr ⟨e, rfl, h3⟩)) nf 0 kr_FU Sb (by omega) (show nf < 2000 by omega) (LF_rf Sb) (fun _ _ _ => rfl) (fun f hf => ?_)
    rw [ob 139 _ (by omega), (tb f hf).1]
    exact ⟨Or.inl, fun q => q.elim id (fun z => absurd z.1 (Nat.not_lt_zero _))⟩
end
