/-! ===== rules of one program of the law alone; entries; families and sessions that end ===== -/
theorem o_aI {α : Type} {S : AS} {k l n : Nat} {i : Int32} {F : Int32 → Option α} {Q : α → Prop} (r : Rw S k l) (hi : i = Int32.ofNat n) (hn : n < l) (g : Ho (F (sI S k n)) Q) : Ho ((aI S 40 (some k) i).bind F) Q := by rw [Rw_aI r hi hn]; exact g
theorem o_aIe {α : Type} {S : AS} {k l n : Nat} {i v : Int32} {F : Int32 → Option α} {Q : α → Prop} (r : Rw S k l) (hi : i = Int32.ofNat n) (hn : n < l) (e : sI S k n = v) (g : Ho (F v) Q) : Ho ((aI S 40 (some k) i).bind F) Q := by rw [Rw_aI r hi hn, e]; exact g
theorem o_bI {α : Type} {S : AS} {k l n : Nat} {i v : Int32} {F : AS → Option α} {Q : α → Prop} (r : Rw S k l) (hi : i = Int32.ofNat n) (hn : n < l) (g : Ho (F (wI S k n v)) Q) : Ho ((bI S (some k) i v).bind F) Q := by rw [Rw_bI r hi hn]; exact g
theorem o_bd {α β : Type} {x : Option α} {v : α} {F : α → Option β} {Q : β → Prop} (e : x = some v) (g : Ho (F v) Q) : Ho (x.bind F) Q := by rw [e]; exact g
theorem o_bo {α β : Type} {x : Option α} {F : α → Option β} {P : α → Prop} {Q : β → Prop} (h : Ho x P) (g : ∀ v, P v → Ho (F v) Q) : Ho (x.bind F) Q := by
  obtain ⟨v, e, p⟩ := h
  rw [e]
  exact g v p
theorem o_mono {α : Type} {x : Option α} {P Q : α → Prop} (h : Ho x P) (g : ∀ v, P v → Q v) : Ho x Q := by
  obtain ⟨v, e, p⟩ := h
  exact ⟨v, e, g v p⟩
/-- the law's part and the reference's, each by itself -/
theorem w_sep {α β : Type} {x : Option α} {y : Option β} {P : α → Prop} {R : β → Prop} {Q : α → β → Prop} (h : Ho x P) (g : Hp y R) (k : ∀ a b, P a → R b → Q a b) : HW x y Q := fun b hb => by
  obtain ⟨a, e, p⟩ := h
  exact ⟨a, e, k a b p (g b hb)⟩
theorem w_bo {α β γ : Type} {x : Option α} {F : α → Option γ} {y : Option β} {P : α → Prop} {Q : γ → β → Prop} (h : Ho x P) (g : ∀ v, P v → HW (F v) y Q) : HW (x.bind F) y Q := by
  obtain ⟨v, e, p⟩ := h
  rw [e]
  exact g v p
theorem w_b2o {α β γ : Type} {x : Option (α × AS)} {F : α → AS → Option γ} {y : Option β} {P : α × AS → Prop} {Q : γ → β → Prop} (h : Ho x P) (g : ∀ v S', P (v, S') → HW (F v S') y Q) : HW (kr_b2 x F) y Q := by
  obtain ⟨⟨v, S'⟩, e, p⟩ := h
  rw [e]
  exact g v S' p
theorem oiq {n : Nat} (h : n ≤ 100000) : (Int32.ofNat n).toInt = (n : Int) := Int32.toInt_ofNat_of_lt (by omega)
theorem oleq {a b : Nat} (ha : a ≤ 100000) (hb : b ≤ 100000) : Int32.ofNat a ≤ Int32.ofNat b ↔ a ≤ b := by
  rw [Int32.le_iff_toInt_le, oiq ha, oiq hb]
  omega
theorem oinjq {a b : Nat} (ha : a ≤ 100000) (hb : b ≤ 100000) (h : Int32.ofNat a = Int32.ofNat b) : a = b := by
  have := congrArg Int32.toInt h
  rw [oiq ha, oiq hb] at this
  omega
/-- an entry -/
theorem x_writes {S : AS} {k nu : Int32} (r : Rw S 127 14) : f_W_writes S (some 127) k nu = some (wI (wI S 127 9 (sI S 127 9 + 1)) 127 10 (ams (sI S 127 10) k nu (sI S 127 0))) := by
  unfold f_W_writes
  rw [Rw_aI (i := (9 : Int32)) r (n := 9) rfl (by decide), Option.bind_some, Rw_bI (i := (9 : Int32)) r (n := 9) rfl (by decide), Option.bind_some, Rw_aI (i := (10 : Int32)) r.w (n := 10) rfl (by decide), Option.bind_some, Rw_aI (i := (0 : Int32)) r.w (n := 0) rfl (by decide), Option.bind_some, Option.bind_some, Rw_bI (i := (10 : Int32)) r.w (n := 10) rfl (by decide), Option.bind_some, ti_sI_ne (by omega), ti_sI_ne (by omega)]
  rfl
theorem g_writes {S m : AS} {k nu : Int32} (r : Rw S 127 14) (hmf : MF m) (hN : sI S 127 0 = sI m 57 0) (hA : lAud S m) : HW (f_W_writes S (some 127) k nu) (f_M_write m (some 57) k nu) (fun S' m' => LF S S' ∧ (∀ p j, ¬ (p = 127 ∧ (j = 9 ∨ j = 10)) → sI S' p j = sI S p j) ∧ lAud S' m' ∧ AWM m m' k nu) := by
  refine w_sep (P := fun S' => S' = wI (wI S 127 9 (sI S 127 9 + 1)) 127 10 (ams (sI S 127 10) k nu (sI S 127 0))) ⟨_, x_writes r, rfl⟩ (p_mw hmf) (fun S' m' e b => ?_)
  have b := b
  subst e
  refine ⟨LF_w (LF_w (LF_rf S) (by decide)) (by decide), fun p j q => ?_, ⟨?_, ?_⟩, b⟩
  · rw [ti_sI_ne (by omega), ti_sI_ne (by omega)]
  · rw [ti_sI_ne (by omega), ti_sI_eq, b.2.2.2.1, hA.1]
  · rw [ti_sI_eq, b.2.2.2.2.2.2.2.2.2, hA.2, hN]
/-! what is written in the tokens' row -/
theorem tk_all : ∀ cl, cl < 4 → ∀ au, au < 4 → ∀ ac, ac < 4 → ∀ sc, sc < 16 →
    (Int32.ofNat (cl + 10 * au + 100 * ac + 1000 * sc) / (10 : Int32) - Int32.ofNat (cl + 10 * au + 100 * ac + 1000 * sc) / (10 : Int32) / (10 : Int32) * (10 : Int32) = Int32.ofNat au) ∧
    (Int32.ofNat (cl + 10 * au + 100 * ac + 1000 * sc) - Int32.ofNat (cl + 10 * au + 100 * ac + 1000 * sc) / (10 : Int32) * (10 : Int32) = Int32.ofNat cl) ∧
    (Int32.ofNat (cl + 10 * au + 100 * ac + 1000 * sc) / (100 : Int32) - Int32.ofNat (cl + 10 * au + 100 * ac + 1000 * sc) / (100 : Int32) / (10 : Int32) * (10 : Int32) = Int32.ofNat ac) ∧
    Int32.ofNat (cl + 10 * au + 100 * ac + 1000 * sc) / (1000 : Int32) = Int32.ofNat sc := by decide +kernel
theorem tf_all : ∀ fa, fa < 10 → ∀ ke, ke < 10 → (Int32.ofNat (fa + 100 * ke) - Int32.ofNat (fa + 100 * ke) / (100 : Int32) * (100 : Int32) = Int32.ofNat fa) ∧ Int32.ofNat (fa + 100 * ke) / (100 : Int32) = Int32.ofNat ke := by decide +kernel
section
variable {S0 m0 : AS} {ns nc nf nt nk : Nat}
/-- what stays while families and sessions end -/
def SW (ns nc nf nt nk : Nat) (S m : AS) : Prop := LR S ∧ MF m ∧ (lSz 1 30 14 ns S m ∧ lSz 3 46 10 nf S m ∧ lSz 4 52 20 nt S m) ∧ (nc ≤ 10 ∧ nk ≤ 10) ∧ lNow S m ∧ lTok nf nk nt S m ∧ lFam nc nf S m ∧ lCod ns nc S m ∧ lSp ns S m ∧ lSrv S m
/-- and what moves -/
def EW (ns nf : Nat) (S0 m0 S m : AS) : Prop := LF S0 S ∧ (∀ p j, ¬ (p = 127 ∧ (j = 9 ∨ j = 10)) → ¬ (p = 136 ∧ j % 5 = 4) → ¬ (p = 139 ∧ j % 4 = 3) → ¬ (p = 133 ∧ j % 4 = 3) → sI S p j = sI S0 p j) ∧
  (sR m = sR m0 ∧ sL m = sL m0 ∧ ∀ p j, p ≠ 89 → p ≠ 103 → p ≠ 116 → p ≠ 123 → p ≠ 124 → p ≠ 125 → ¬ (p = 57 ∧ (j = 77 ∨ j = 81)) → sI m p j = sI m0 p j) ∧ lAud S m ∧ lGod nf S m ∧ lTol nf S m ∧ lLiv ns S m
/-- the law's tokens: the services that hear of a family -/
theorem x_eF_L (hs : SW ns nc nf nt nk S0 m0) {f : Nat} (hf : f < nf) : ∀ (k i fu : Nat) (S : AS), i + k = nt → k < fu → LF S0 S → (∀ p j, (p = 127 ∧ j = 4) ∨ p = 137 ∨ (p = 139 ∧ j % 4 = 0) → sI S p j = sI S0 p j) →
    Ho (f_W_endFamily_L31 fu S (some 127) (some 137) (some 139) (Int32.ofNat f) (Int32.ofNat i)) (fun S' => LF S S' ∧ (∀ p j, ¬ (p = 139 ∧ j % 4 = 3) → sI S' p j = sI S p j) ∧
      ∀ s, s < 4 → ∀ g, g < 12 → (bt (sI S' 139 (4 * s + 3)) g = true ↔ bt (sI S 139 (4 * s + 3)) g = true ∨ (g = f ∧ sI m0 113 s = 0 ∧ ∃ t, i ≤ t ∧ t < nt ∧ sI m0 108 t = Int32.ofNat f ∧ sI m0 105 t = Int32.ofNat s)))
  | _, _, 0, _, _, h, _, _ => absurd h (Nat.not_lt_zero _)
  | k, i, fu + 1, S, hk, hfu, hl, hr => by
    have hs' := hs
    obtain ⟨lr, -, ⟨-, ⟨-, -, nf10⟩, ⟨c4, -, nt20⟩⟩, ⟨-, nk10⟩, -, tok, -, -, -, srv⟩ := hs
    obtain ⟨r127, -, -, -, -, -, -, -, -, -, r137, -, r139, -⟩ := hl.LR lr
    unfold f_W_endFamily_L31 f_W_endFamily_C31
    refine o_aIe r127 (n := 4) rfl (by decide) ((hr 127 4 (by omega)).trans c4) ?_
    by_cases hi : i < nt
    · refine r_ifF (fun q => by have := (oleq (a := nt) (b := i) (by omega) (by omega)).mp q; omega) ?_
      obtain ⟨⟨cl, au, ac, sc, a1, a2, a3, a4, a5, -, a7, -, -⟩, ⟨fa, ke, b1, b2, b3, b4, -⟩, -⟩ := tok i hi
      obtain ⟨t1, -, -, -⟩ := tk_all cl a1 au a2 ac a3 sc a4
      obtain ⟨t2, -⟩ := tf_all fa (by omega) ke (by omega)
      obtain ⟨⟨v0, -⟩, -⟩ := srv au a2
      refine o_aIe r137 (n := 3 * i) (wmul 3 i) (by omega) ((hr 137 _ (by omega)).trans a5) (r_val ?_)
      rw [t1]
      refine r_val (r_val ?_)
      refine o_aI r139 (n := 4 * au + 3) (wix 4 au 3) (by omega) ?_
      refine o_aIe r137 (n := 3 * i + 1) (wix 3 i 1) (by omega) ((hr 137 _ (by omega)).trans b3) ?_
      rw [t2]
      -- both go on with the bits or without
      have go : ∀ (v : Int32) (b : Prop), (∀ g, g < 12 → (bt v g = true ↔ bt (sI S 139 (4 * au + 3)) g = true ∨ (g = f ∧ b))) → (b ↔ sI m0 113 au = 0 ∧ fa = f) →
          Ho ((bI S (some 139) ((4 : Int32) * Int32.ofNat au + (3 : Int32)) v).bind fun S1 => (some (Int32.ofNat i + (1 : Int32))).bind fun i2 => f_W_endFamily_L31 fu S1 (some 127) (some 137) (some 139) (Int32.ofNat f) i2) (fun S' => LF S S' ∧ (∀ p j, ¬ (p = 139 ∧ j % 4 = 3) → sI S' p j = sI S p j) ∧
            ∀ s, s < 4 → ∀ g, g < 12 → (bt (sI S' 139 (4 * s + 3)) g = true ↔ bt (sI S 139 (4 * s + 3)) g = true ∨ (g = f ∧ sI m0 113 s = 0 ∧ ∃ t, i ≤ t ∧ t < nt ∧ sI m0 108 t = Int32.ofNat f ∧ sI m0 105 t = Int32.ofNat s))) := fun v b hb hbb => by
        refine o_bI r139 (n := 4 * au + 3) (wix 4 au 3) (by omega) (r_val ?_)
        rw [o1]
        have l1 : LF S (wI S 139 (4 * au + 3) v) := LF_w (LF_rf S) (by decide)
        refine o_mono (x_eF_L hs' hf (k - 1) (i + 1) fu (wI S 139 (4 * au + 3) v) (by omega) (by omega) (LF_tr hl l1) (fun p j q => (ti_sI_ne (by omega)).trans (hr p j q))) (fun S' p => ?_)
        obtain ⟨p1, p2, p3⟩ := p
        refine ⟨LF_tr l1 p1, fun p j q => (p2 p j q).trans (ti_sI_ne (by omega)), fun s s4 g g12 => ?_⟩
        rw [p3 s s4 g g12]
        have ex : (∃ t, i ≤ t ∧ t < nt ∧ sI m0 108 t = Int32.ofNat f ∧ sI m0 105 t = Int32.ofNat s) ↔ (fa = f ∧ au = s) ∨ ∃ t, i + 1 ≤ t ∧ t < nt ∧ sI m0 108 t = Int32.ofNat f ∧ sI m0 105 t = Int32.ofNat s := by
          constructor
          · rintro ⟨t, q1, q2, q3, q4⟩
            by_cases c : t = i
            · rw [c] at q3 q4
              exact Or.inl ⟨oinjq (by omega) (by omega) (b4.symm.trans q3), oinjq (by omega) (by omega) (a7.symm.trans q4)⟩
            · exact Or.inr ⟨t, by omega, q2, q3, q4⟩
          · rintro (⟨q1, q2⟩ | ⟨t, q1, q2, q3, q4⟩)
            · exact ⟨i, by omega, hi, by rw [← q1]; exact b4, by rw [← q2]; exact a7⟩
            · exact ⟨t, by omega, q2, q3, q4⟩
        rw [ex]
        by_cases c : s = au
        · subst c
          rw [ti_sI_eq, hb g g12, hbb]
          constructor
          · rintro ((q | ⟨q1, q2, q3⟩) | ⟨q1, q2, q3⟩)
            · exact Or.inl q
            · exact Or.inr ⟨q1, q2, Or.inl ⟨q3, rfl⟩⟩
            · exact Or.inr ⟨q1, q2, Or.inr q3⟩
          · rintro (q | ⟨q1, q2, q3 | q3⟩)
            · exact Or.inl (Or.inl q)
            · exact Or.inl (Or.inr ⟨q1, q2, q3.1⟩)
            · exact Or.inr ⟨q1, q2, q3⟩
        · rw [ti_sI_ne (by omega)]
          constructor
          · rintro (q | ⟨q1, q2, q3⟩)
            · exact Or.inl q
            · exact Or.inr ⟨q1, q2, Or.inr q3⟩
          · rintro (q | ⟨q1, q2, q3 | q3⟩)
            · exact Or.inl q
            · exact absurd q3.2.symm c
            · exact Or.inr ⟨q1, q2, q3⟩
      have no : ∀ x : Int32, ∀ g, g < 12 → (bt (x ||| (0 : Int32)) g = true ↔ bt x g = true ∨ (g = f ∧ False)) := fun x g _ => by
        rw [bt_or, bt_0, Bool.or_false]
        exact ⟨Or.inl, fun q => q.elim id (fun z => z.2.elim)⟩
      by_cases c : fa = f
      · refine r_ifT (by rw [c]) ?_
        refine o_aIe r139 (n := 4 * au) (wmul 4 au) (by omega) ((hr 139 _ (by omega)).trans v0) ?_
        by_cases d : sI m0 113 au = 0
        · refine r_ifT d ?_
          unfold f_W_endFamily_B95
          refine go _ True (fun g g12 => ?_) ⟨fun _ => ⟨d, c⟩, fun _ => trivial⟩
          rw [bt_sh _ (by omega) g]
          exact or_congr Iff.rfl ⟨fun q => ⟨q, trivial⟩, fun q => q.1⟩
        · refine r_ifF d ?_
          unfold f_W_endFamily_B94 f_W_endFamily_B95
          exact go _ False (no _) ⟨False.elim, fun q => d q.1⟩
      · refine r_ifF (fun q => c (oinjq (by omega) (by omega) q)) ?_
        unfold f_W_endFamily_B94 f_W_endFamily_B95
        exact go _ False (no _) ⟨False.elim, fun q => c q.2⟩
    · refine r_ifT ((oleq (a := nt) (b := i) (by omega) (by omega)).mpr (by omega)) (r_some ⟨LF_rf S, fun _ _ _ => rfl, fun s _ g _ => ?_⟩)
      exact ⟨Or.inl, fun q => q.elim id (fun z => by
        obtain ⟨-, -, t, t1, t2, -⟩ := z
        omega)⟩
/-- and the reference's services -/
theorem p_eF_L {mm : AS} (hmf : MF mm) (h52 : sI mm 57 52 = Int32.ofNat nt) (hn : nt ≤ 200) {f : Nat} (hf : f < 60) : ∀ (k i fu : Nat) (m : AS), i + k = 4 → sR m = sR mm → sL m = sL mm → (∀ p j, p ≠ 116 → sI m p j = sI mm p j) →
    Hp (f_M_endFamily_L25 fu m (some 57) (Int32.ofNat f) (Int32.ofNat i)) (fun m' => (sR m' = sR mm ∧ sL m' = sL mm ∧ ∀ p j, p ≠ 116 → sI m' p j = sI mm p j) ∧ (∀ j, (∀ s, i ≤ s → s < 4 → j ≠ 60 * s + f) → sI m' 116 j = sI m 116 j) ∧
      ∀ s, i ≤ s → s < 4 → q01 (sI m' 116 (60 * s + f)) ∧ (sI m' 116 (60 * s + f) = 1 ↔ sI mm 113 s = 0 ∧ ∃ t, t < nt ∧ sI mm 108 t = Int32.ofNat f ∧ sI mm 105 t = Int32.ofNat s))
  | _, _, 0, _, _, _, _, _ => p_0
  | 0, i, fu + 1, m, hk, hr, hl, ho => by
    unfold f_M_endFamily_L25 f_M_endFamily_C25
    have e : i = 4 := by omega
    subst e
    exact p_of (st_T (by decide)) (p_ret ⟨⟨hr, hl, ho⟩, fun _ _ => rfl, fun s q1 q2 => by omega⟩)
  | k + 1, i, fu + 1, m, hk, hr, hl, ho => by
    unfold f_M_endFamily_L25 f_M_endFamily_C25
    have hm := MF_e hmf hr
    refine p_of (st_F (fun q => by
      have := (ole (a := 4) (b := i) (by decide) (by omega)).mp q
      omega)) (p_of (st_gRe (hm 69 116 rfl)) (p_of (st_gRe (hm 66 113 rfl)) (p_of (st_aIe (oc (by omega)) rfl) ?_)))
    have go : ∀ b : Int32, q01 b → (b = 1 ↔ sI mm 113 i = 0 ∧ ∃ t, t < nt ∧ sI mm 108 t = Int32.ofNat f ∧ sI mm 105 t = Int32.ofNat i) →
        Hp (f_M_endFamily_B63 (f_M_endFamily_L25 fu) m (some 57) (Int32.ofNat f) (Int32.ofNat i) (some 116) ((60 : Int32) * Int32.ofNat i + Int32.ofNat f) b) (fun m' => (sR m' = sR mm ∧ sL m' = sL mm ∧ ∀ p j, p ≠ 116 → sI m' p j = sI mm p j) ∧ (∀ j, (∀ s, i ≤ s → s < 4 → j ≠ 60 * s + f) → sI m' 116 j = sI m 116 j) ∧
          ∀ s, i ≤ s → s < 4 → q01 (sI m' 116 (60 * s + f)) ∧ (sI m' 116 (60 * s + f) = 1 ↔ sI mm 113 s = 0 ∧ ∃ t, t < nt ∧ sI mm 108 t = Int32.ofNat f ∧ sI mm 105 t = Int32.ofNat s)) := fun b b1 b2 => by
      unfold f_M_endFamily_B63
      refine p_of (st_bZe (ix60 i (by omega) f hf)) (p_of st_val ?_)
      rw [o1]
      refine p_mono (p_eF_L hmf h52 hn hf k (i + 1) fu (wI m 116 (60 * i + f) b) (by omega) hr hl (fun p j q => (ti_sI_ne (by omega)).trans (ho p j q))) (fun m' p => ?_)
      obtain ⟨p1, p2, p3⟩ := p
      refine ⟨p1, fun j q => (p2 j (fun s s1 s2 => q s (by omega) s2)).trans (ti_sI_ne (fun z => q i (Nat.le_refl _) (by omega) z.2)), fun s s1 s2 => ?_⟩
      by_cases c : s = i
      · subst c
        rw [p2 _ (fun s' q1 q2 => by omega), ti_sI_eq]
        exact ⟨b1, b2⟩
      · exact p3 s (by omega) s2
    by_cases c : sI m 113 i = 0
    · have c' : sI mm 113 i = 0 := by rw [← ho 113 i (by omega)]; exact c
      refine p_of (st_T c) (p_of st_rv (p_b2 (p_hears (m := m) (nt := nt) hm ((ho 57 52 (by omega)).trans h52) hn) (fun v m' p => ?_)))
      obtain ⟨p1, p2, p3⟩ := p
      have p1 : m' = m := p1
      rw [p1]
      have p3 : v = 1 ↔ ∃ t, t < nt ∧ sI mm 108 t = Int32.ofNat f ∧ sI mm 105 t = Int32.ofNat i := by
        refine p3.trans ⟨?_, ?_⟩
        · rintro ⟨t, q1, q2, q3⟩
          exact ⟨t, q1, by rw [← ho 108 t (by omega)]; exact q2, by rw [← ho 105 t (by omega)]; exact q3⟩
        · rintro ⟨t, q1, q2, q3⟩
          exact ⟨t, q1, by rw [ho 108 t (by omega)]; exact q2, by rw [ho 105 t (by omega)]; exact q3⟩
      by_cases d : v = 0
      · refine p_of (st_T d) ?_
        unfold f_M_endFamily_B62
        exact go 0 (Or.inl rfl) ⟨fun q => absurd q (by decide), fun q => absurd (d.symm.trans (p3.mpr q.2)) (by decide)⟩
      · refine p_of (st_F d) (go 1 (Or.inr rfl) ⟨fun _ => ⟨c', p3.mp (p2.resolve_left d)⟩, fun _ => rfl⟩)
    · refine p_of (st_F c) ?_
      unfold f_M_endFamily_B62
      exact go 0 (Or.inl rfl) ⟨fun q => absurd q (by decide), fun q => absurd ((ho 113 i (by omega)).trans q.1) c⟩
end
