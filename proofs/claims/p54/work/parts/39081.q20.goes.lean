/-! ===== an attempt goes on; a session is opened ===== -/
section
variable {S m : AS} {ns na i : Nat}
/-- a new row of the law's sessions -/
def NWS (n : Nat) (pv ov : Int32) (S S' : AS) : Prop := LF S S' ∧ (∀ q j, ¬ (q = 127 ∧ (j = 1 ∨ j = 9 ∨ j = 10)) → ¬ (q = 133 ∧ 4 * n ≤ j ∧ j < 4 * n + 4) → sI S' q j = sI S q j) ∧
  sI S' 127 1 = Int32.ofNat (n + 1) ∧ sI S' 127 9 = sI S 127 9 + 1 ∧ sI S' 127 10 = ams (sI S 127 10) 0 (Int32.ofNat n) (sI S 127 0) ∧
  sI S' 133 (4 * n) = pv ∧ sI S' 133 (4 * n + 1) = sI S 127 0 ∧ sI S' 133 (4 * n + 2) = sI S 127 0 ∧ sI S' 133 (4 * n + 3) = ov + 1
theorem x_opens {n : Nat} {pv ov : Int32} (r127 : Rw S 127 14) (r133 : Rw S 133 60) (hn : n < 15) (c1 : sI S 127 1 = Int32.ofNat n) : Ho (f_W_opens S (some 127) (some 133) pv ov) (fun S' => NWS n pv ov S S') := by
  unfold f_W_opens
  refine o_aIe r127 (n := 1) rfl (by decide) c1 (o_bI r133 (n := 4 * n) (wmul 4 n) (by omega) ?_)
  refine o_aIe r127.w (n := 1) rfl (by decide) ((ti_sI_ne (by omega)).trans c1) (o_aIe r127.w (n := 0) rfl (by decide) (ti_sI_ne (by omega)) (o_bI r133.w (n := 4 * n + 1) (wix 4 n 1) (by omega) ?_))
  refine o_aIe r127.w.w (n := 1) rfl (by decide) ((ti_sI_ne (by omega)).trans ((ti_sI_ne (by omega)).trans c1)) (o_aIe r127.w.w (n := 0) rfl (by decide) ((ti_sI_ne (by omega)).trans (ti_sI_ne (by omega))) (o_bI r133.w.w (n := 4 * n + 2) (wix 4 n 2) (by omega) ?_))
  refine o_aIe r127.w.w.w (n := 1) rfl (by decide) ((ti_sI_ne (by omega)).trans ((ti_sI_ne (by omega)).trans ((ti_sI_ne (by omega)).trans c1))) (o_bI r133.w.w.w (n := 4 * n + 3) (wix 4 n 3) (by omega) ?_)
  obtain ⟨S1, e1⟩ : ∃ S1, S1 = wI (wI (wI (wI S 133 (4 * n) pv) 133 (4 * n + 1) (sI S 127 0)) 133 (4 * n + 2) (sI S 127 0)) 133 (4 * n + 3) (ov + 1) := ⟨_, rfl⟩
  rw [← e1]
  have l1 : LF S S1 := by rw [e1]; exact LF_w (LF_w (LF_w (LF_w (LF_rf S) (by decide)) (by decide)) (by decide)) (by decide)
  have o1' : ∀ q j, ¬ (q = 133 ∧ 4 * n ≤ j ∧ j < 4 * n + 4) → sI S1 q j = sI S q j := fun q j z => by
    rw [e1, ti_sI_ne (by omega), ti_sI_ne (by omega), ti_sI_ne (by omega), ti_sI_ne (by omega)]
  refine o_aIe (l1.Rw r127) (n := 1) rfl (by decide) ((o1' 127 1 (by omega)).trans c1) (o_bd (x_writes (l1.Rw r127)) ?_)
  refine o_aIe (l1.Rw r127).w.w (n := 1) rfl (by decide) ((ti_sI_ne (by omega)).trans ((ti_sI_ne (by omega)).trans ((o1' 127 1 (by omega)).trans c1))) (o_bI (l1.Rw r127).w.w (n := 1) rfl (by decide) (r_some ?_))
  rw [o1]
  refine ⟨LF_w (LF_w (LF_w l1 (by decide)) (by decide)) (by decide), fun q j z1 z2 => ?_, ti_sI_eq _ _ _ _, ?_, ?_, ?_, ?_, ?_, ?_⟩
  · rw [ti_sI_ne (by omega), ti_sI_ne (by omega), ti_sI_ne (by omega), o1' q j z2]
  · rw [ti_sI_ne (by omega), ti_sI_ne (by omega), ti_sI_eq, o1' _ _ (by omega)]
  · rw [ti_sI_ne (by omega), ti_sI_eq, o1' _ _ (by omega), o1' _ _ (by omega)]
  · rw [ti_sI_ne (by omega), ti_sI_ne (by omega), ti_sI_ne (by omega), e1, ti_sI_ne (by omega), ti_sI_ne (by omega), ti_sI_ne (by omega), ti_sI_eq]
  · rw [ti_sI_ne (by omega), ti_sI_ne (by omega), ti_sI_ne (by omega), e1, ti_sI_ne (by omega), ti_sI_ne (by omega), ti_sI_eq]
  · rw [ti_sI_ne (by omega), ti_sI_ne (by omega), ti_sI_ne (by omega), e1, ti_sI_ne (by omega), ti_sI_eq]
  · rw [ti_sI_ne (by omega), ti_sI_ne (by omega), ti_sI_ne (by omega), e1, ti_sI_eq]
/-- the law's rows and the reference's with one session more -/
theorem ses_new {n p : Nat} {ov ow : Int32} {S' m' : AS} (k : NWS n (Int32.ofNat p) ov S S') (q : NSM m m' n (Int32.ofNat p) ow) (hn : n ≤ 13) (p3 : p < 3) (z : lSz 1 30 14 n S m) (now : lNow S m) (au : lAud S m) (sp : lSp n S m) (us : lUsd n S m) (lv : lLiv n S m) {o : Nat} (ho : o ≤ n) (eo : ow + 1 = Int32.ofNat o) (ev : ov + 1 = Int32.ofNat o) :
    lSz 1 30 14 (n + 1) S' m' ∧ lAud S' m' ∧ lSp (n + 1) S' m' ∧ lUsd (n + 1) S' m' ∧ lLiv (n + 1) S' m' := by
  obtain ⟨k1, k2, k3, k4, k5, k6, k7, k8, k9⟩ := k
  obtain ⟨⟨q1, q2, q3⟩, ⟨y1, y2, y3, y4, y5, y6, y7⟩, ma, mb1, mb2, ⟨mb3, mb5, mb6, mb7⟩, mb4, mb⟩ := q
  have om : ∀ q j, ¬ ((q = 85 ∨ q = 86 ∨ q = 87 ∨ q = 88 ∨ q = 89) ∧ j = n) → q ≠ 90 → q ≠ 57 → q ≠ 123 → q ≠ 124 → q ≠ 125 → sI m' q j = sI m q j := fun q j a b c d e f => q3 q j a (by omega) (by omega) d e f
  refine ⟨⟨k3, y7, by omega⟩, ⟨?_, ?_⟩, fun j hj => ?_, fun j hj => ?_, fun j hj => ?_⟩
  · rw [k4, mb.2.2.2.1, mb1, au.1]
  · rw [k5, mb.2.2.2.2.2.2.2.2.2, mb5, mb7, au.2, now.1]
    rfl
  · by_cases c : j = n
    · subst c
      rw [k6, k7, y1, y2, y4, now.1]
      exact ⟨⟨p, p3, rfl, rfl⟩, ⟨rfl, now.2⟩, o, ho, eo⟩
    · rw [k2 133 _ (by omega) (by omega), k2 133 _ (by omega) (by omega), om 85 j (by omega) (by omega) (by omega) (by omega) (by omega) (by omega), om 86 j (by omega) (by omega) (by omega) (by omega) (by omega) (by omega), om 88 j (by omega) (by omega) (by omega) (by omega) (by omega) (by omega)]
      exact sp j (by omega)
  · by_cases c : j = n
    · subst c
      rw [k8, y3, now.1]
      exact ⟨rfl, now.2⟩
    · rw [k2 133 _ (by omega) (by omega), om 87 j (by omega) (by omega) (by omega) (by omega) (by omega) (by omega)]
      exact us j (by omega)
  · by_cases c : j = n
    · subst c
      exact Or.inl ⟨y5, by rw [k9, y4, ev, eo]⟩
    · rw [k2 133 _ (by omega) (by omega), om 88 j (by omega) (by omega) (by omega) (by omega) (by omega) (by omega), om 89 j (by omega) (by omega) (by omega) (by omega) (by omega) (by omega)]
      exact lv j (by omega)
/-- what was shown goes into the session's row -/
theorem o_gl {Q : AS → Prop} {d : Nat} (lr : LR S) (hi : i < 10) (hn : ns < 15) (E : AS → Option AS) (hE : ∀ fu T, f_W_goes_C294 (f_W_goes_L294 fu) T (some 127) (some 129) (some 130) (some 132) (some 133) (some 134) (Int32.ofNat i) (Int32.ofNat d) 3 = E T)
    (H : ∀ T, LF S T → (∀ q j, ¬ (q = 134 ∧ 3 * ns ≤ j ∧ j < 3 * ns + 3) → sI T q j = sI S q j) → (∀ f, f < 3 → sI T 134 (3 * ns + f) = sI S 132 (3 * i + f)) → Ho (E T) Q) (c1 : sI S 127 1 = Int32.ofNat ns) :
    ∀ (k f fu : Nat) (T : AS), f + k = 3 → k < fu → LF S T → (∀ q j, ¬ (q = 134 ∧ 3 * ns ≤ j ∧ j < 3 * ns + 3) → sI T q j = sI S q j) → (∀ g, g < f → sI T 134 (3 * ns + g) = sI S 132 (3 * i + g)) → Ho (f_W_goes_L294 fu T (some 127) (some 129) (some 130) (some 132) (some 133) (some 134) (Int32.ofNat i) (Int32.ofNat d) (Int32.ofNat f)) Q
  | _, _, 0, _, _, h, _, _, _ => absurd h (Nat.not_lt_zero _)
  | 0, f, fu + 1, T, hk, _, l, o, z => by
    have e : f = 3 := by omega
    subst e
    have := hE fu T
    unfold f_W_goes_L294
    rw [show (Int32.ofNat 3) = (3 : Int32) from rfl, this]
    exact H T l o z
  | k + 1, f, fu + 1, T, hk, hfu, l, o, z => by
    obtain ⟨r127, -, -, -, -, r132, -, r134, -⟩ := l.LR lr
    unfold f_W_goes_L294 f_W_goes_C294
    refine r_ifF (fun q => by have := (oleq (a := 3) (b := f) (by omega) (by omega)).mp q; omega) ?_
    refine o_aIe r127 (n := 1) rfl (by decide) ((o 127 1 (by omega)).trans c1) (o_aIe r132 (n := 3 * i + f) (wix 3 i f) (by omega) (o 132 _ (by omega)) (o_bI r134 (n := 3 * ns + f) (wix 3 ns f) (by omega) (r_val ?_)))
    rw [o1]
    refine o_gl lr hi hn E hE H c1 k (f + 1) fu _ (by omega) (by omega) (LF_w l (by decide)) (fun q j y => (ti_sI_ne (by omega)).trans (o q j y)) (fun g hg => ?_)
    by_cases c : g = f
    · rw [c, ti_sI_eq]
    · rw [ti_sI_ne (by omega)]
      exact z g (by omega)
/-- the reference does so too, then knows device and place -/
theorem p_gl {mm : AS} (hmf : MF mm) (hi : i < 60) (hn : ns < 60) {p d e : Nat} (p3 : p < 3) (d3 : d < 3) (e3 : e < 3) (e83 : sI mm 83 i = Int32.ofNat ns) (e76 : sI mm 76 i = Int32.ofNat d) (e77 : sI mm 77 i = Int32.ofNat e) : ∀ (k f fu : Nat) (M : AS), f + k = 3 → sR M = sR mm → sL M = sL mm → (∀ q j, ¬ (q = 90 ∧ 3 * ns ≤ j ∧ j < 3 * ns + 3) → sI M q j = sI mm q j) → (∀ g, g < f → sI M 90 (3 * ns + g) = sI mm 84 (3 * i + g)) →
    Hp (f_M_grant_L45 fu M (some 57) (Int32.ofNat i) (Int32.ofNat p) (Int32.ofNat f)) (fun m' => sR m' = sR mm ∧ sL m' = sL mm ∧ (∀ q j, ¬ (q = 90 ∧ 3 * ns ≤ j ∧ j < 3 * ns + 3) → ¬ (q = 62 ∧ j = 6 * p + d) → ¬ (q = 63 ∧ j = 6 * p + e) → sI m' q j = sI mm q j) ∧ (∀ g, g < 3 → sI m' 90 (3 * ns + g) = sI mm 84 (3 * i + g)) ∧ sI m' 62 (6 * p + d) = 1 ∧ sI m' 63 (6 * p + e) = 1)
  | _, _, 0, _, _, _, _, _, _ => p_0
  | 0, f, fu + 1, M, hk, r, l, o, z => by
    have ef : f = 3 := by omega
    subst ef
    have hm := MF_e hmf r
    have ix6 : ∀ x, x < 3 → ((6 : Int32) * Int32.ofNat p + Int32.ofNat x).toNatClampNeg = 6 * p + x := fun x hx => by
      rw [show (6 : Int32) * Int32.ofNat p + Int32.ofNat x = Int32.ofNat (6 * p + x) from wix 6 p x]
      exact oc (by omega)
    unfold f_M_grant_L45 f_M_grant_C45
    refine p_of (st_T (by decide)) (p_of (st_gRe (hm 5 62 rfl)) (p_of (st_gRe (hm 21 76 rfl)) (p_of (st_aIe (oc (by omega)) ((o 76 i (by omega)).trans e76)) (p_of (st_bZe (ix6 d d3)) ?_))))
    refine p_of (st_gRe (v := some 63) (hm 6 63 rfl)) (p_of (st_gRe (v := some 77) (hm 22 77 rfl)) (p_of (st_aIe (oc (by omega)) ((ti_sI_ne (by omega)).trans ((o 77 i (by omega)).trans e77))) (p_of (st_bZe (ix6 e e3)) (p_ret ⟨r, l, fun q j z1 z2 z3 => ?_, fun g hg => ?_, ?_, ti_sI_eq _ _ _ _⟩))))
    · rw [ti_sI_ne z3, ti_sI_ne z2]
      exact o q j z1
    · rw [ti_sI_ne (by omega), ti_sI_ne (by omega)]
      exact z g hg
    · rw [ti_sI_ne (by omega), ti_sI_eq]
  | k + 1, f, fu + 1, M, hk, r, l, o, z => by
    have hm := MF_e hmf r
    unfold f_M_grant_L45 f_M_grant_C45
    refine p_of (st_F (fun q => by have := (ole (a := 3) (b := f) (by decide) (by omega)).mp q; omega)) ?_
    refine p_of (st_gRe (hm 36 90 rfl)) (p_of (st_gRe (hm 28 83 rfl)) (p_of (st_aIe (oc (by omega)) ((o 83 i (by omega)).trans e83)) (p_of (st_gRe (hm 29 84 rfl)) (p_of (st_aIe (ix3 i hi f (by omega)) (o 84 _ (by omega))) (p_of (st_bIe (ix3 ns hn f (by omega))) (p_of st_val ?_))))))
    rw [o1]
    refine p_gl hmf hi hn p3 d3 e3 e83 e76 e77 k (f + 1) fu _ (by omega) r l (fun q j y => (ti_sI_ne (by omega)).trans (o q j y)) (fun g hg => ?_)
    by_cases c : g = f
    · rw [c, ti_sI_eq]
    · rw [ti_sI_ne (by omega)]
      exact z g (by omega)
/-- where an attempt stands, without the number of its answers -/
def lAs0 (ns : Nat) (S m : AS) (i : Nat) : Prop := sI S 130 (6 * i + 4) = sI m 80 i ∧
  ((sI m 80 i = 0 ∧ (∃ k, k < 7 ∧ sI S 130 (6 * i + 3) = Int32.ofNat k ∧ sI m 79 i = Int32.ofNat k ∧ sI m 67 k = 0) ∧ sV 4 (sI S 130 (6 * i + 5)) (sI m 81 i) ∧ sI m 83 i = -1) ∨ (sI m 80 i = 1 ∧ ∃ s, s < ns ∧ sI S 131 (2 * i + 1) = Int32.ofNat (s + 1) ∧ sI m 83 i = Int32.ofNat s) ∨ (sI m 80 i = 2 ∧ sI m 83 i = -1))
/-- what going on leaves -/
def GX (i ns : Nat) (S m S' m' : AS) : Prop := LF S S' ∧ (∀ q j, ¬ (q = 127 ∧ (j = 1 ∨ j = 9 ∨ j = 10)) → ¬ (q = 129 ∧ 10 ≤ j % 12) → ¬ (q = 130 ∧ 6 * i + 3 ≤ j ∧ j < 6 * i + 6) → ¬ (q = 131 ∧ j = 2 * i + 1) → ¬ (q = 133 ∧ 4 * ns ≤ j ∧ j < 4 * ns + 4) → ¬ (q = 134 ∧ 3 * ns ≤ j ∧ j < 3 * ns + 3) → sI S' q j = sI S q j) ∧
  (sR m' = sR m ∧ sL m' = sL m ∧ ∀ q j, ¬ (q = 57 ∧ (j = 30 ∨ j = 77 ∨ j = 81)) → q ≠ 62 → q ≠ 63 → ¬ ((q = 79 ∨ q = 80 ∨ q = 81 ∨ q = 83) ∧ j = i) → ¬ ((q = 85 ∨ q = 86 ∨ q = 87 ∨ q = 88 ∨ q = 89) ∧ j = ns) → ¬ (q = 90 ∧ 3 * ns ≤ j ∧ j < 3 * ns + 3) → q ≠ 123 → q ≠ 124 → q ≠ 125 → sI m' q j = sI m q j)
def GOQ (i ns : Nat) (S m S' m' : AS) : Prop := GX i ns S m S' m' ∧ ∃ n', (n' = ns ∨ n' = ns + 1) ∧ lSz 1 30 14 n' S' m' ∧ lAud S' m' ∧ lKn S' m' ∧ lSp n' S' m' ∧ lUsd n' S' m' ∧ lLiv n' S' m' ∧ lSsh n' S' m' ∧ lAs0 n' S' m' i
def GP (ns : Nat) (S m : AS) (i : Nat) : Prop := (lSz 1 30 14 ns S m ∧ ns ≤ 13) ∧ lAud S m ∧ (lSp ns S m ∧ lUsd ns S m ∧ lLiv ns S m ∧ lSsh ns S m) ∧ sI m 80 i = 0 ∧ sI m 83 i = -1
/-- no session: denied, or asked -/
theorem go_rest (h : GH na S m) (g : GP ns S m i) {S' m' : AS} (l : LF S S') (oS : ∀ q j, ¬ (q = 130 ∧ 6 * i + 3 ≤ j ∧ j < 6 * i + 6) → sI S' q j = sI S q j) (r : sR m' = sR m ∧ sL m' = sL m) (oM : ∀ q j, ¬ ((q = 79 ∨ q = 80 ∨ q = 81) ∧ j = i) → sI m' q j = sI m q j) (a : lAs0 ns S' m' i) : GOQ i ns S m S' m' := by
  obtain ⟨-, -, -, ⟨-, -, kn⟩, -, -⟩ := h
  obtain ⟨⟨z, n13⟩, au, ⟨sp, us, lv, sh⟩, -, -⟩ := g
  have e : ∀ q, q ≠ 130 → sI S' q = sI S q := fun q hq => funext fun j => oS q j (fun y => hq y.1)
  have em : ∀ q, q ≠ 79 → q ≠ 80 → q ≠ 81 → sI m' q = sI m q := fun q h1 h2 h3 => funext fun j => oM q j (by omega)
  refine ⟨⟨l, fun q j _ _ z3 _ _ _ => oS q j z3, r.1, r.2, fun q j _ _ _ z4 _ _ _ _ _ => oM q j (by omega)⟩, ns, Or.inl rfl, lSz_fr z (by rw [e 127 (by omega)]) (by rw [em 57 (by omega) (by omega) (by omega)]), ?_, ?_, ?_, ?_, ?_, ?_, a⟩
  · exact lAud_fr au (by rw [e 127 (by omega)]) (by rw [e 127 (by omega)]) (by rw [em 57 (by omega) (by omega) (by omega)]) (by rw [em 57 (by omega) (by omega) (by omega)])
  · exact lKn_fr kn (fun j _ => by rw [e 129 (by omega)]) (em 62 (by omega) (by omega) (by omega)) (em 63 (by omega) (by omega) (by omega))
  · exact lSp_fr sp (fun j _ => by rw [e 133 (by omega)]) (em 85 (by omega) (by omega) (by omega)) (em 86 (by omega) (by omega) (by omega)) (em 88 (by omega) (by omega) (by omega))
  · exact lUsd_fr us (fun j _ => by rw [e 133 (by omega)]) (em 87 (by omega) (by omega) (by omega))
  · exact lLiv_fr lv (fun j _ => by rw [e 133 (by omega)]) (em 88 (by omega) (by omega) (by omega)) (em 89 (by omega) (by omega) (by omega))
  · exact lSsh_fr sh (e 134 (by omega)) (em 90 (by omega) (by omega) (by omega))
end
section
variable {S m : AS} {ns na i : Nat}
theorem p_bs {α : Type} {x : Option α} {P : α → Prop} (h : Hp x P) : Hp (x.bind fun v => some v) P := by
  cases x <;> exact h
/-- the end of the law's grant, behind the row of what was shown -/
def goE (T : AS) (i : Nat) : Option AS :=
  (aI T 40 (some 130) (Int32.ofNat (6 * i))).bind fun v2 =>
  (f_W_opens T (some 127) (some 133) v2 (-1 : Int32)).bind fun S3 =>
  (aI S3 40 (some 130) (Int32.ofNat (6 * i))).bind fun v4 =>
  (some (((12 : Int32) * v4) + (10 : Int32))).bind fun i5 =>
  (aI S3 40 (some 129) i5).bind fun v6 =>
  (aI S3 40 (some 130) (Int32.ofNat (6 * i) + (1 : Int32))).bind fun v7 =>
  (bI S3 (some 129) i5 (v6 ||| ((1 : Int32) <<< (v7 &&& 31)))).bind fun S8 =>
  (aI S8 40 (some 130) (Int32.ofNat (6 * i))).bind fun v9 =>
  (some (((12 : Int32) * v9) + (11 : Int32))).bind fun i10 =>
  (aI S8 40 (some 129) i10).bind fun v11 =>
  (aI S8 40 (some 130) (Int32.ofNat (6 * i) + (2 : Int32))).bind fun v12 =>
  (bI S8 (some 129) i10 (v11 ||| ((1 : Int32) <<< (v12 &&& 31)))).bind fun S13 =>
  some S13
/-- the law's grant -/
theorem x_grant {p d e : Nat} (lr : LR S) (hi : i < 10) (hn : ns ≤ 13) (p3 : p < 3) (c1 : sI S 127 1 = Int32.ofNat ns) (a0 : sI S 130 (6 * i) = Int32.ofNat p) (a1 : sI S 130 (6 * i + 1) = Int32.ofNat d) (a2 : sI S 130 (6 * i + 2) = Int32.ofNat e) :
    Ho (f_W_goes_B266 S (some 127) (some 129) (some 130) (some 131) (some 132) (some 133) (some 134) (Int32.ofNat i) (Int32.ofNat (6 * i)) (some 130) (Int32.ofNat (6 * i) + (4 : Int32)) (1 : Int32))
      (fun S' => ∃ Sa S3, (LF S Sa ∧ (∀ q j, ¬ (q = 130 ∧ j = 6 * i + 4) → ¬ (q = 131 ∧ j = 2 * i + 1) → ¬ (q = 134 ∧ 3 * ns ≤ j ∧ j < 3 * ns + 3) → sI Sa q j = sI S q j) ∧ sI Sa 130 (6 * i + 4) = 1 ∧ sI Sa 131 (2 * i + 1) = Int32.ofNat (ns + 1) ∧ (∀ f, f < 3 → sI Sa 134 (3 * ns + f) = sI S 132 (3 * i + f))) ∧
        NWS ns (Int32.ofNat p) (-1) Sa S3 ∧ S' = wI (wI S3 129 (12 * p + 10) (sI S 129 (12 * p + 10) ||| ((1 : Int32) <<< (Int32.ofNat d &&& 31)))) 129 (12 * p + 11) (sI S 129 (12 * p + 11) ||| ((1 : Int32) <<< (Int32.ofNat e &&& 31)))) := by
  have lr' := lr
  obtain ⟨r127, -, r129, r130, r131, r132, r133, r134, -⟩ := lr
  unfold f_W_goes_B266
  refine o_bI r130 (n := 6 * i + 4) (wadd _ 4) (by omega) (o_aIe r130.w (n := 6 * i + 4) (wadd _ 4) (by omega) (ti_sI_eq _ _ _ _) (r_ifT rfl ?_))
  refine o_aIe r127.w (n := 1) rfl (by decide) ((ti_sI_ne (by omega)).trans c1) (o_bI r131.w (n := 2 * i + 1) (wix 2 i 1) (by omega) ?_)
  rw [o1]
  obtain ⟨S1, e1⟩ : ∃ S1, S1 = wI (wI S 130 (6 * i + 4) 1) 131 (2 * i + 1) (Int32.ofNat (ns + 1)) := ⟨_, rfl⟩
  rw [← e1]
  have l1 : LF S S1 := by rw [e1]; exact LF_w (LF_w (LF_rf S) (by decide)) (by decide)
  have o1' : ∀ q j, ¬ (q = 130 ∧ j = 6 * i + 4) → ¬ (q = 131 ∧ j = 2 * i + 1) → sI S1 q j = sI S q j := fun q j z1 z2 => by
    rw [e1, ti_sI_ne z2, ti_sI_ne z1]
  have v4 : sI S1 130 (6 * i + 4) = 1 := by rw [e1, ti_sI_ne (by omega), ti_sI_eq]
  have v1 : sI S1 131 (2 * i + 1) = Int32.ofNat (ns + 1) := by rw [e1, ti_sI_eq]
  refine o_gl (ns := ns) (i := i) (d := 6 * i) (l1.LR lr') hi (by omega) (fun T => goE T i) (fun fu T => by unfold f_W_goes_C294 goE; rw [if_pos (by decide)]) (fun T lT oT zT => ?_) ((o1' 127 1 (by omega) (by omega)).trans c1) 3 0 kr_FU S1 rfl (by decide) (LF_rf S1) (fun _ _ _ => rfl) (fun g hg => absurd hg (Nat.not_lt_zero _))
  have lS := LF_tr l1 lT
  have fT : ∀ q j, ¬ (q = 130 ∧ j = 6 * i + 4) → ¬ (q = 131 ∧ j = 2 * i + 1) → ¬ (q = 134 ∧ 3 * ns ≤ j ∧ j < 3 * ns + 3) → sI T q j = sI S q j := fun q j z1 z2 z3 => (oT q j z3).trans (o1' q j z1 z2)
  obtain ⟨t127, -, -, t130, -, -, t133, -⟩ := lS.LR lr'
  show Ho (goE T i) _
  unfold goE
  refine o_aIe t130 (n := 6 * i) rfl (by omega) ((fT _ _ (by omega) (by omega) (by omega)).trans a0) (o_bo (x_opens t127 t133 (n := ns) (by omega) ((fT 127 1 (by omega) (by omega) (by omega)).trans c1)) (fun S3 k => ?_))
  have k' := k
  obtain ⟨k1, k2, -⟩ := k
  have l3 := LF_tr lS k1
  obtain ⟨-, -, u129, u130, -⟩ := l3.LR lr'
  have f3 : ∀ q j, q = 129 ∨ (q = 130 ∧ j ≠ 6 * i + 4) → sI S3 q j = sI S q j := fun q j z => by
    rw [k2 q j (by omega) (by omega), fT q j (by omega) (by omega) (by omega)]
  refine o_aIe u130 (n := 6 * i) rfl (by omega) ((f3 _ _ (by omega)).trans a0) (r_val ?_)
  refine o_aIe u129 (n := 12 * p + 10) (wix 12 p 10) (by omega) (f3 _ _ (by omega)) (o_aIe u130 (n := 6 * i + 1) (wadd _ 1) (by omega) ((f3 _ _ (by omega)).trans a1) (o_bI u129 (n := 12 * p + 10) (wix 12 p 10) (by omega) ?_))
  refine o_aIe u130.w (n := 6 * i) rfl (by omega) ((ti_sI_ne (by omega)).trans ((f3 _ _ (by omega)).trans a0)) (r_val ?_)
  refine o_aIe u129.w (n := 12 * p + 11) (wix 12 p 11) (by omega) ((ti_sI_ne (by omega)).trans (f3 _ _ (by omega))) (o_aIe u130.w (n := 6 * i + 2) (wadd _ 2) (by omega) ((ti_sI_ne (by omega)).trans ((f3 _ _ (by omega)).trans a2)) (o_bI u129.w (n := 12 * p + 11) (wix 12 p 11) (by omega) (r_some ?_)))
  refine ⟨T, S3, ⟨lS, fT, ?_, ?_, fun f hf => (zT f hf).trans (o1' _ _ (by omega) (by omega))⟩, k', rfl⟩
  · rw [oT _ _ (by omega)]
    exact v4
  · rw [oT _ _ (by omega)]
    exact v1
/-- no session -/
theorem x_rest (r130 : Rw S 130 60) (hi : i < 10) {y : Int32} (hy : ¬ y = 1) {x0 x2 x4 x5 x6 x7 : Option Nat} {x8 : Int32} : Ho (f_W_goes_B266 S x0 x2 (some 130) x4 x5 x6 x7 x8 (Int32.ofNat (6 * i)) (some 130) (Int32.ofNat (6 * i) + (4 : Int32)) y) (fun S' => S' = wI S 130 (6 * i + 4) y) := by
  unfold f_W_goes_B266
  exact o_bI r130 (n := 6 * i + 4) (wadd _ 4) (by omega) (o_aIe r130.w (n := 6 * i + 4) (wadd _ 4) (by omega) (ti_sI_eq _ _ _ _) (r_ifF hy (r_some rfl)))
/-- the reference's grant -/
theorem p_grant {mm : AS} {p d e : Nat} (hmf : MF mm) (hi : i < 60) (hn : ns < 60) (p3 : p < 3) (d3 : d < 3) (e3 : e < 3) (h30 : sI mm 57 30 = Int32.ofNat ns) (e75 : sI mm 75 i = Int32.ofNat p) (e76 : sI mm 76 i = Int32.ofNat d) (e77 : sI mm 77 i = Int32.ofNat e) :
    Hp (f_M_grant mm (some 57) (Int32.ofNat i)) (fun m' => ∃ mb, NSM (wI mm 80 i 1) mb ns (Int32.ofNat p) (-1) ∧ (sR m' = sR mm ∧ sL m' = sL mm ∧ ∀ q j, ¬ (q = 83 ∧ j = i) → ¬ (q = 90 ∧ 3 * ns ≤ j ∧ j < 3 * ns + 3) → ¬ (q = 62 ∧ j = 6 * p + d) → ¬ (q = 63 ∧ j = 6 * p + e) → sI m' q j = sI mb q j) ∧
      sI m' 83 i = Int32.ofNat ns ∧ (∀ g, g < 3 → sI m' 90 (3 * ns + g) = sI mm 84 (3 * i + g)) ∧ sI m' 62 (6 * p + d) = 1 ∧ sI m' 63 (6 * p + e) = 1) := by
  have ji : (Int32.ofNat i).toNatClampNeg = i := oc (by omega)
  unfold f_M_grant
  refine p_of (st_gIe h30) (p_of (st_F (fun q => by have := oinjq (a := ns) (b := 60) (by omega) (by omega) q; omega)) ?_)
  refine p_of (st_gRe (hmf 20 75 rfl)) (p_of (st_aIe ji e75) (p_of (st_gRe (hmf 25 80 rfl)) (p_of (st_bIe ji) ?_)))
  obtain ⟨m1, q1⟩ : ∃ m1, m1 = wI mm 80 i 1 := ⟨_, rfl⟩
  rw [← q1]
  have hm1 : MF m1 := by
    rw [q1]
    exact MF_e hmf rfl
  refine p_of (st_gRe (v := some 83) (hm1 28 83 rfl)) (p_of st_rv (p_b2 (p_newM (n := ns) (p := Int32.ofNat p) (ow := -1) hm1 hn (by rw [q1, ti_sI_ne (by omega)]; exact h30)) (fun v mb k => ?_)))
  obtain ⟨ev, k⟩ := k
  have ev : v = Int32.ofNat ns := ev
  have k : NSM m1 mb ns (Int32.ofNat p) (-1) := k
  subst ev
  have k' := k
  obtain ⟨⟨k1, k2, k3⟩, -, -⟩ := k
  refine p_of (st_bIe ji) ?_
  have hb : MF (wI mb 83 i (Int32.ofNat ns)) := MF_e hm1 k1
  have o2 : ∀ q j, q = 76 ∨ q = 77 ∨ q = 84 → sI (wI mb 83 i (Int32.ofNat ns)) q j = sI mm q j := fun q j z => by
    rw [ti_sI_ne (by omega), k3 q j (by omega) (by omega) (by omega) (by omega) (by omega) (by omega), q1, ti_sI_ne (by omega)]
  refine p_mono (p_gl hb hi hn p3 d3 e3 (ti_sI_eq _ _ _ _) ((o2 76 i (by omega)).trans e76) ((o2 77 i (by omega)).trans e77) 3 0 kr_FU _ rfl rfl rfl (fun _ _ _ => rfl) (fun g hg => absurd hg (Nat.not_lt_zero _))) (fun m' h => ?_)
  obtain ⟨h1, h2, h3, h4, h5, h6⟩ := h
  refine ⟨mb, k', ⟨?_, ?_, fun q j z1 z2 z3 z4 => ?_⟩, ?_, fun g hg => (h4 g hg).trans (o2 84 _ (by omega)), h5, h6⟩
  · rw [h1]
    show sR mb = _
    rw [k1, q1]
    rfl
  · rw [h2]
    show sL mb = _
    rw [k2, q1]
    rfl
  · rw [h3 q j z2 z3 z4, ti_sI_ne z1]
  · rw [h3 83 i (by omega) (by omega) (by omega), ti_sI_eq]
/-- a session: law and reference -/
theorem go_grant {p d e : Nat} (h : GH na S m) (g : GP ns S m i) (hi : i < na) (p3 : p < 3) (d3 : d < 3) (e3 : e < 3) {S2 m2 S' m' : AS} (l2 : LF S S2) (oS : ∀ q j, ¬ (q = 130 ∧ (j = 6 * i + 3 ∨ j = 6 * i + 5)) → sI S2 q j = sI S q j) (oM : ∀ q j, ¬ ((q = 79 ∨ q = 81) ∧ j = i) → sI m2 q j = sI m q j) (rM : sR m2 = sR m) (lM : sL m2 = sL m)
    (hS : ∃ Sa S3, (LF S2 Sa ∧ (∀ q j, ¬ (q = 130 ∧ j = 6 * i + 4) → ¬ (q = 131 ∧ j = 2 * i + 1) → ¬ (q = 134 ∧ 3 * ns ≤ j ∧ j < 3 * ns + 3) → sI Sa q j = sI S2 q j) ∧ sI Sa 130 (6 * i + 4) = 1 ∧ sI Sa 131 (2 * i + 1) = Int32.ofNat (ns + 1) ∧ (∀ f, f < 3 → sI Sa 134 (3 * ns + f) = sI S2 132 (3 * i + f))) ∧
        NWS ns (Int32.ofNat p) (-1) Sa S3 ∧ S' = wI (wI S3 129 (12 * p + 10) (sI S2 129 (12 * p + 10) ||| ((1 : Int32) <<< (Int32.ofNat d &&& 31)))) 129 (12 * p + 11) (sI S2 129 (12 * p + 11) ||| ((1 : Int32) <<< (Int32.ofNat e &&& 31))))
    (hM : ∃ mb, NSM (wI m2 80 i 1) mb ns (Int32.ofNat p) (-1) ∧ (sR m' = sR m2 ∧ sL m' = sL m2 ∧ ∀ q j, ¬ (q = 83 ∧ j = i) → ¬ (q = 90 ∧ 3 * ns ≤ j ∧ j < 3 * ns + 3) → ¬ (q = 62 ∧ j = 6 * p + d) → ¬ (q = 63 ∧ j = 6 * p + e) → sI m' q j = sI mb q j) ∧
      sI m' 83 i = Int32.ofNat ns ∧ (∀ g, g < 3 → sI m' 90 (3 * ns + g) = sI m2 84 (3 * i + g)) ∧ sI m' 62 (6 * p + d) = 1 ∧ sI m' 63 (6 * p + e) = 1) : GOQ i ns S m S' m' := by
  obtain ⟨-, -, ⟨now, -⟩, ⟨-, -, kn⟩, ⟨-, ash, n10⟩, -⟩ := h
  obtain ⟨⟨z, n13⟩, au, ⟨sp, us, lv, sh⟩, s80, s83⟩ := g
  obtain ⟨Sa, S3, ⟨lA, oA, A4, A1, Ash⟩, kN, eS'⟩ := hS
  obtain ⟨mb, kM, ⟨rB, lB, oB⟩, B83, B90, B62, B63⟩ := hM
  have fA : ∀ q j, ¬ (q = 130 ∧ 6 * i + 3 ≤ j ∧ j < 6 * i + 6) → ¬ (q = 131 ∧ j = 2 * i + 1) → ¬ (q = 134 ∧ 3 * ns ≤ j ∧ j < 3 * ns + 3) → sI Sa q j = sI S q j := fun q j z1 z2 z3 => (oA q j (by omega) z2 z3).trans (oS q j (by omega))
  have fM : ∀ q j, ¬ ((q = 79 ∨ q = 80 ∨ q = 81) ∧ j = i) → sI (wI m2 80 i 1) q j = sI m q j := fun q j z1 => (ti_sI_ne (by omega)).trans (oM q j (by omega))
  obtain ⟨y1, y2, y3, y4, y5⟩ := ses_new kN kM n13 p3 (lSz_fr z (fA 127 1 (by omega) (by omega) (by omega)) (fM 57 30 (by omega))) (lNow_fr now (fA 127 0 (by omega) (by omega) (by omega)) (fM 57 0 (by omega)))
    (lAud_fr au (fA 127 9 (by omega) (by omega) (by omega)) (fA 127 10 (by omega) (by omega) (by omega)) (fM 57 77 (by omega)) (fM 57 81 (by omega)))
    (lSp_fr sp (fun j _ => fA 133 j (by omega) (by omega) (by omega)) (funext fun j => fM 85 j (by omega)) (funext fun j => fM 86 j (by omega)) (funext fun j => fM 88 j (by omega)))
    (lUsd_fr us (fun j _ => fA 133 j (by omega) (by omega) (by omega)) (funext fun j => fM 87 j (by omega)))
    (lLiv_fr lv (fun j _ => fA 133 j (by omega) (by omega) (by omega)) (funext fun j => fM 88 j (by omega)) (funext fun j => fM 89 j (by omega))) (o := 0) (Nat.zero_le _) (by decide) (by decide)
  have lN := kN.1
  have oN := kN.2.1
  obtain ⟨⟨rN, lN', oNM⟩, -, -⟩ := kM
  have fS' : ∀ q j, ¬ (q = 129 ∧ (j = 12 * p + 10 ∨ j = 12 * p + 11)) → sI S' q j = sI S3 q j := fun q j y => by
    rw [eS', ti_sI_ne (by omega), ti_sI_ne (by omega)]
  have w10 : sI S' 129 (12 * p + 10) = sI S 129 (12 * p + 10) ||| ((1 : Int32) <<< (Int32.ofNat d &&& 31)) := by
    rw [eS', ti_sI_ne (by omega), ti_sI_eq, oS _ _ (by omega)]
  have w11 : sI S' 129 (12 * p + 11) = sI S 129 (12 * p + 11) ||| ((1 : Int32) <<< (Int32.ofNat e &&& 31)) := by
    rw [eS', ti_sI_eq, oS _ _ (by omega)]
  have lT : LF S S' := by
    rw [eS']
    exact LF_w (LF_w (LF_tr l2 (LF_tr lA lN)) (by decide)) (by decide)
  have gS : ∀ q j, ¬ (q = 127 ∧ (j = 1 ∨ j = 9 ∨ j = 10)) → ¬ (q = 129 ∧ (j = 12 * p + 10 ∨ j = 12 * p + 11)) → ¬ (q = 130 ∧ 6 * i + 3 ≤ j ∧ j < 6 * i + 6) → ¬ (q = 131 ∧ j = 2 * i + 1) → ¬ (q = 133 ∧ 4 * ns ≤ j ∧ j < 4 * ns + 4) → ¬ (q = 134 ∧ 3 * ns ≤ j ∧ j < 3 * ns + 3) → sI S' q j = sI S q j := fun q j z1 z2 z3 z4 z5 z6 => by
    rw [fS' q j z2, oN q j z1 z5, fA q j z3 z4 z6]
  have gM : ∀ q j, ¬ (q = 57 ∧ (j = 30 ∨ j = 77 ∨ j = 81)) → ¬ (q = 62 ∧ j = 6 * p + d) → ¬ (q = 63 ∧ j = 6 * p + e) → ¬ ((q = 79 ∨ q = 80 ∨ q = 81 ∨ q = 83) ∧ j = i) → ¬ ((q = 85 ∨ q = 86 ∨ q = 87 ∨ q = 88 ∨ q = 89) ∧ j = ns) → ¬ (q = 90 ∧ 3 * ns ≤ j ∧ j < 3 * ns + 3) → q ≠ 123 → q ≠ 124 → q ≠ 125 → sI m' q j = sI m q j := fun q j z1 z2 z3 z4 z5 z6 z7 z8 z9 => by
    rw [oB q j (by omega) z6 z2 z3, oNM q j z5 z6 z1 z7 z8 z9, fM q j (by omega)]
  have fB : ∀ q j, q ≠ 83 → q ≠ 90 → q ≠ 62 → q ≠ 63 → sI m' q j = sI mb q j := fun q j z1 z2 z3 z4 => oB q j (by omega) (by omega) (by omega) (by omega)
  refine ⟨⟨lT, fun q j z1 z2 z3 z4 z5 z6 => gS q j z1 (by omega) z3 z4 z5 z6, rB.trans rM, lB.trans lM, fun q j z1 z2 z3 z4 z5 z6 z7 z8 z9 => gM q j z1 (by omega) (by omega) z4 z5 z6 z7 z8 z9⟩, ns + 1, Or.inr rfl, ?_, ?_, ?_, ?_, ?_, ?_, ?_, ?_⟩
  · exact lSz_fr y1 (fS' _ _ (by omega)) (fB _ _ (by omega) (by omega) (by omega) (by omega))
  · exact lAud_fr y2 (fS' _ _ (by omega)) (fS' _ _ (by omega)) (fB _ _ (by omega) (by omega) (by omega) (by omega)) (fB _ _ (by omega) (by omega) (by omega) (by omega))
  · intro p' hp' d' hd'
    obtain ⟨⟨k1, k2⟩, k3, k4⟩ := kn p' hp' d' hd'
    have u62 : ∀ j, j ≠ 6 * p + d → sI m' 62 j = sI m 62 j := fun j y => gM 62 j (by omega) (by omega) (by omega) (by omega) (by omega) (by omega) (by omega) (by omega) (by omega)
    have u63 : ∀ j, j ≠ 6 * p + e → sI m' 63 j = sI m 63 j := fun j y => gM 63 j (by omega) (by omega) (by omega) (by omega) (by omega) (by omega) (by omega) (by omega) (by omega)
    by_cases c : p' = p
    · subst c
      rw [w10, w11, bt_sh _ (by omega), bt_sh _ (by omega)]
      refine ⟨⟨?_, ?_⟩, ?_, ?_⟩
      · by_cases c2 : d' = d
        · subst c2
          rw [B62]
          exact ⟨fun _ => rfl, fun _ => Or.inr rfl⟩
        · rw [u62 _ (by omega)]
          exact ⟨fun q => q.elim k1.mp (fun y => absurd y c2), fun q => Or.inl (k1.mpr q)⟩
      · by_cases c2 : d' = d
        · subst c2
          exact Or.inr B62
        · rw [u62 _ (by omega)]
          exact k2
      · by_cases c2 : d' = e
        · subst c2
          rw [B63]
          exact ⟨fun _ => rfl, fun _ => Or.inr rfl⟩
        · rw [u63 _ (by omega)]
          exact ⟨fun q => q.elim k3.mp (fun y => absurd y c2), fun q => Or.inl (k3.mpr q)⟩
      · by_cases c2 : d' = e
        · subst c2
          exact Or.inr B63
        · rw [u63 _ (by omega)]
          exact k4
    · rw [gS 129 _ (by omega) (by omega) (by omega) (by omega) (by omega) (by omega), gS 129 _ (by omega) (by omega) (by omega) (by omega) (by omega) (by omega), u62 _ (by omega), u63 _ (by omega)]
      exact ⟨⟨k1, k2⟩, k3, k4⟩
  · exact lSp_fr y3 (fun j _ => fS' 133 j (by omega)) (funext fun j => fB 85 j (by omega) (by omega) (by omega) (by omega)) (funext fun j => fB 86 j (by omega) (by omega) (by omega) (by omega)) (funext fun j => fB 88 j (by omega) (by omega) (by omega) (by omega))
  · exact lUsd_fr y4 (fun j _ => fS' 133 j (by omega)) (funext fun j => fB 87 j (by omega) (by omega) (by omega) (by omega))
  · exact lLiv_fr y5 (fun j _ => fS' 133 j (by omega)) (funext fun j => fB 88 j (by omega) (by omega) (by omega) (by omega)) (funext fun j => fB 89 j (by omega) (by omega) (by omega) (by omega))
  · intro j hj f hf
    by_cases c : j = ns
    · subst c
      obtain ⟨x1, x2⟩ := ash i hi f hf
      rw [fS' _ _ (by omega), oN _ _ (by omega) (by omega), Ash f hf, oS _ _ (by omega), B90 f hf, oM _ _ (by omega)]
      exact ⟨x1, x2⟩
    · rw [gS 134 _ (by omega) (by omega) (by omega) (by omega) (by omega) (by omega), gM 90 _ (by omega) (by omega) (by omega) (by omega) (by omega) (by omega) (by omega) (by omega) (by omega)]
      exact sh j (by omega) f hf
  · have m80 : sI m' 80 i = 1 := by rw [fB 80 i (by omega) (by omega) (by omega) (by omega), oNM 80 i (by omega) (by omega) (by omega) (by omega) (by omega) (by omega), ti_sI_eq]
    refine ⟨?_, Or.inr (Or.inl ⟨m80, ns, by omega, ?_, B83⟩)⟩
    · rw [fS' _ _ (by omega), oN _ _ (by omega) (by omega), A4, m80]
    · rw [fS' _ _ (by omega), oN _ _ (by omega) (by omega), A1]
/-- the end of going on -/
theorem g_fin (h : GH na S m) (g : GP ns S m i) (hi : i < na) {x x4 : Int32} (hx : x = -1 ∨ ∃ k kd, k < 7 ∧ (kd = 0 ∨ kd = 5 ∨ kd = 6) ∧ x = Int32.ofNat k ∧ x4 = Int32.ofNat k ∧ sI S 128 (5 * k) = Int32.ofNat kd ∧ sI m 67 k = Int32.ofNat kd) :
    HW (f_W_goes_B211 S (some 127) (some 128) (some 129) (some 130) (some 131) (some 132) (some 133) (some 134) (Int32.ofNat i) (Int32.ofNat (6 * i)) x) (f_M_go_B77 m (some 57) (Int32.ofNat i) x x4) (GOQ i ns S m) := by
  have h' := h
  have g' := g
  obtain ⟨lr, hmf, -, -, ⟨att, -, n10⟩, -⟩ := h
  obtain ⟨⟨z, n13⟩, -, -, s80, s83⟩ := g
  have lr' := lr
  obtain ⟨r127, r128, r129, r130, -⟩ := lr
  obtain ⟨⟨p, p3, a1, a2⟩, ⟨d, d3, b1, b2⟩, ⟨e, e3, f1, f2⟩, -⟩ := att i hi
  have ji : (Int32.ofNat i).toNatClampNeg = i := oc (by omega)
  unfold f_W_goes_B211 f_M_go_B77
  refine w_bI r130 (n := 6 * i + 3) (wadd _ 3) (by omega) (w_bI r130.w (n := 6 * i + 5) (wadd _ 5) (by omega) ?_)
  refine wm_of (st_gRe (hmf 24 79 rfl)) (wm_of (st_bIe ji) (wm_of (st_gRe (v := some 81) (hmf 26 81 rfl)) (wm_of (st_bIe ji) ?_)))
  obtain ⟨S2, es⟩ : ∃ S2, S2 = wI (wI S 130 (6 * i + 3) x) 130 (6 * i + 5) 0 := ⟨_, rfl⟩
  obtain ⟨m2, em⟩ : ∃ m2, m2 = wI (wI m 79 i x) 81 i 0 := ⟨_, rfl⟩
  rw [← es, ← em]
  have l2 : LF S S2 := by rw [es]; exact LF_w (LF_w (LF_rf S) (by decide)) (by decide)
  have oS : ∀ q j, ¬ (q = 130 ∧ (j = 6 * i + 3 ∨ j = 6 * i + 5)) → sI S2 q j = sI S q j := fun q j y => by rw [es, ti_sI_ne (by omega), ti_sI_ne (by omega)]
  have oM : ∀ q j, ¬ ((q = 79 ∨ q = 81) ∧ j = i) → sI m2 q j = sI m q j := fun q j y => by rw [em, ti_sI_ne (by omega), ti_sI_ne (by omega)]
  have rM : sR m2 = sR m := by rw [em]; rfl
  have lM : sL m2 = sL m := by rw [em]; rfl
  have hm2 : MF m2 := MF_e hmf rM
  have s3 : sI S2 130 (6 * i + 3) = x := by rw [es, ti_sI_ne (by omega), ti_sI_eq]
  have s5 : sI S2 130 (6 * i + 5) = 0 := by rw [es, ti_sI_eq]
  have m79 : sI m2 79 i = x := by rw [em, ti_sI_ne (by omega), ti_sI_eq]
  have m81 : sI m2 81 i = 0 := by rw [em, ti_sI_eq]
  have dn : HW (f_W_goes_B247 S2 (some 127) (some 129) (some 130) (some 131) (some 132) (some 133) (some 134) (Int32.ofNat i) (Int32.ofNat (6 * i)) (some 130) (Int32.ofNat (6 * i) + (4 : Int32))) (f_M_go_B108 m2 (some 57) (Int32.ofNat i)) (GOQ i ns S m) := by
    unfold f_W_goes_B247
    refine w_sep (x_rest (l2.Rw r130) (by omega) (by decide)) (R := fun m' => m' = wI m2 80 i 2) ?_ (fun a b ha hb => ?_)
    · unfold f_M_go_B108
      exact p_of (st_gRe (hm2 25 80 rfl)) (p_of (st_bIe ji) (p_ret rfl))
    · have ha : a = wI S2 130 (6 * i + 4) 2 := ha
      have hb : b = wI m2 80 i 2 := hb
      rw [ha, hb]
      refine go_rest h' g' (LF_w l2 (by decide)) (fun q j y => ?_) ⟨rM, lM⟩ (fun q j y => ?_) ⟨?_, Or.inr (Or.inr ⟨ti_sI_eq _ _ _ _, ?_⟩)⟩
      · rw [ti_sI_ne (by omega), oS q j (by omega)]
      · rw [ti_sI_ne (by omega), oM q j (by omega)]
      · rw [ti_sI_eq, ti_sI_eq]
      · rw [ti_sI_ne (by omega), oM 83 i (by omega)]
        exact s83
  rcases hx with rfl | ⟨k, kd, hk, hkd, rfl, rfl, hs, hm⟩
  · exact w_T (by decide) (wm_of (st_T rfl) dn)
  · have ix : (Int32.ofNat k).toNatClampNeg = k := oc (by omega)
    have q128 := l2.Rw r128
    have e128 : sI S2 128 (5 * k) = Int32.ofNat kd := (oS _ _ (by omega)).trans hs
    have e67 : sI m2 67 k = Int32.ofNat kd := (oM _ _ (by omega)).trans hm
    refine w_F (fun q => by have := (oltq (a := k) (b := 0) (by omega) (by omega)).mp q; omega) (w_aIe q128 (n := 5 * k) (wmul 5 k) (by omega) e128 ?_)
    refine wm_of (st_F (fun q => ofNat_ne (o := k) (by omega) q.symm)) (wm_of (st_gRe (hm2 11 67 rfl)) (wm_of (st_aIe ix e67) ?_))
    rcases hkd with rfl | rfl | rfl
    · refine w_F (by decide) (w_aIe q128 (n := 5 * k) (wmul 5 k) (by omega) e128 (w_F (by decide) ?_))
      refine wm_of (st_F (by decide)) (wm_of (st_gRe (hm2 11 67 rfl)) (wm_of (st_aIe ix e67) (wm_of (st_F (by decide)) ?_)))
      refine w_sep (x_rest (l2.Rw r130) (by omega) (by decide)) (R := fun m' => m' = m2) (p_ret rfl) (fun a b ha hb => ?_)
      have ha : a = wI S2 130 (6 * i + 4) 0 := ha
      have hb : b = m2 := hb
      rw [ha, hb]
      have m80 : sI m2 80 i = 0 := (oM 80 i (by omega)).trans s80
      refine go_rest h' g' (LF_w l2 (by decide)) (fun q j y => ?_) ⟨rM, lM⟩ (fun q j y => oM q j (by omega)) ⟨?_, Or.inl ⟨m80, ⟨k, hk, ?_, m79, e67⟩, ⟨0, by decide, ?_, m81⟩, (oM 83 i (by omega)).trans s83⟩⟩
      · rw [ti_sI_ne (by omega), oS q j (by omega)]
      · rw [ti_sI_eq, m80]
      · rw [ti_sI_ne (by omega)]
        exact s3
      · rw [ti_sI_ne (by omega)]
        exact s5
    · refine w_F (by decide) (w_aIe q128 (n := 5 * k) (wmul 5 k) (by omega) e128 (w_T rfl ?_))
      refine wm_of (st_F (by decide)) (wm_of (st_gRe (hm2 11 67 rfl)) (wm_of (st_aIe ix e67) (wm_of (st_T rfl) (wm_of st_rv ?_))))
      refine w_sep (x_grant (ns := ns) (p := p) (d := d) (e := e) (l2.LR lr') (by omega) n13 p3 ((oS _ _ (by omega)).trans z.1) ((oS _ _ (by omega)).trans a1) ((oS _ _ (by omega)).trans b1) ((oS _ _ (by omega)).trans f1))
        (p_bs (p_grant (ns := ns) (p := p) (d := d) (e := e) hm2 (by omega) (by omega) p3 d3 e3 ((oM _ _ (by omega)).trans z.2.1) ((oM _ _ (by omega)).trans a2) ((oM _ _ (by omega)).trans b2) ((oM _ _ (by omega)).trans f2))) (fun a b ha hb => ?_)
      exact go_grant h' g' hi p3 d3 e3 l2 oS oM rM lM ha hb
    · exact w_T rfl (wm_of (st_T rfl) dn)
/-- from test to test -/
theorem g_go_L (h : GH na S m) (g : GP ns S m i) (hi : i < na) : ∀ (fu : Nat) (x x4 : Int32), (x = -1 ∨ ∃ k, k < 7 ∧ x = Int32.ofNat k ∧ x4 = Int32.ofNat k) →
    HW (f_W_goes_L11 fu S (some 127) (some 128) (some 129) (some 130) (some 131) (some 132) (some 133) (some 134) (Int32.ofNat i) (Int32.ofNat (6 * i)) x) (f_M_go_L15 fu m (some 57) (Int32.ofNat i) x x4) (GOQ i ns S m)
  | 0, _, _, _ => wm_0
  | fu + 1, x, x4, hx => by
    have h' := h
    obtain ⟨lr, hmf, ⟨-, flo⟩, -, ⟨att, -, n10⟩, -⟩ := h
    obtain ⟨r127, r128, -⟩ := lr
    obtain ⟨-, -, -, m78⟩ := att i hi
    have ji : (Int32.ofNat i).toNatClampNeg = i := oc (by omega)
    unfold f_W_goes_L11 f_W_goes_C11 f_M_go_L15 f_M_go_C15
    rcases hx with rfl | ⟨k, hk, rfl, rfl⟩
    · exact w_T (by decide) (wm_of (st_T rfl) (g_fin h' g hi (Or.inl rfl)))
    · have ix : (Int32.ofNat k).toNatClampNeg = k := oc (by omega)
      obtain ⟨kd, a, hkd, ha, h03, s0, m67, s1, m68, -, ⟨t3, n3⟩, t4, n4⟩ := flo.2 k hk
      refine w_F (fun q => by have := (oltq (a := k) (b := 0) (by omega) (by omega)).mp q; omega) (w_aIe r128 (n := 5 * k) (wmul 5 k) (by omega) s0 ?_)
      refine wm_of (st_F (fun q => ofNat_ne (o := k) (by omega) q.symm)) (wm_of (st_gRe (hmf 11 67 rfl)) (wm_of (st_aIe ix m67) (wm_of (st_b2 (x_isTest m kd hkd)) ?_)))
      by_cases t : 1 ≤ kd ∧ kd ≤ 4
      · rw [if_pos t]
        refine wm_of (st_F one0) (wm_of st_rv ?_)
        refine w_F (fun q => by have := (oleq (a := kd) (b := 0) (by omega) (by omega)).mp q; omega) (w_aIe r128 (n := 5 * k) (wmul 5 k) (by omega) s0 ?_)
        refine w_F (fun q => by have := (oleq (a := 5) (b := kd) (by omega) (by omega)).mp q; omega) (w_aIe r128 (n := 5 * k) (wmul 5 k) (by omega) s0 (w_aIe r128 (n := 5 * k + 1) (wix 5 k 1) (by omega) s1 ?_))
        have go : ∀ y : Int32, qnx y → HW (f_W_goes_L11 fu S (some 127) (some 128) (some 129) (some 130) (some 131) (some 132) (some 133) (some 134) (Int32.ofNat i) (Int32.ofNat (6 * i)) y) (f_M_go_B60 (f_M_go_L15 fu) m (some 57) (Int32.ofNat i) y) (GOQ i ns S m) := fun y hy => by
          unfold f_M_go_B60
          refine wm_of (st_gRe (hmf 23 78 rfl)) (wm_of (st_aIe ji m78) (wm_of st_val (g_go_L h' g hi fu y _ ?_)))
          rcases hy with rfl | ⟨k', hk', rfl⟩
          · exact Or.inl rfl
          · exact Or.inr ⟨k', hk', rfl, (wix 12 0 k').trans (by rw [Nat.mul_zero, Nat.zero_add])⟩
        refine g_test h' hi hk t.1 t.2 (fun q => h03 (Or.inr q)) m67 m68 s0 s1 (fun v w vw => ?_)
        unfold f_W_goes_B187 f_W_goes_B204
        by_cases c : v = 0
        · refine w_T c (w_aIe r128 (n := 5 * k + 4) (wix 5 k 4) (by omega) t4 ?_)
          exact wm_of (st_T (vw.mp c)) (wm_of (st_gRe (hmf 15 71 rfl)) (wm_of (st_aIe ix rfl) (go _ n4)))
        · refine w_F c (w_aIe r128 (n := 5 * k + 3) (wix 5 k 3) (by omega) t3 ?_)
          exact wm_of (st_F (fun q => c (vw.mpr q))) (wm_of (st_gRe (hmf 14 70 rfl)) (wm_of (st_aIe ix rfl) (go _ n3)))
      · rw [if_neg t]
        refine wm_of (st_T rfl) ?_
        by_cases c : kd = 0
        · exact w_T (by rw [c]; decide) (g_fin h' g hi (Or.inr ⟨k, kd, hk, Or.inl c, rfl, rfl, s0, m67⟩))
        · refine w_F (fun q => by have := (oleq (a := kd) (b := 0) (by omega) (by omega)).mp q; omega) (w_aIe r128 (n := 5 * k) (wmul 5 k) (by omega) s0 ?_)
          exact w_T ((oleq (a := 5) (b := kd) (by omega) (by omega)).mpr (by omega)) (g_fin h' g hi (Or.inr ⟨k, kd, hk, by omega, rfl, rfl, s0, m67⟩))
theorem g_goes (h : GH na S m) (g : GP ns S m i) (hi : i < na) {x : Int32} (hx : qnx x) :
    HW (f_W_goes S (some 127) (some 128) (some 129) (some 130) (some 131) (some 132) (some 133) (some 134) (Int32.ofNat i) x) (f_M_go m (some 57) (Int32.ofNat i) x) (GOQ i ns S m) := by
  have h' := h
  obtain ⟨-, hmf, -, -, ⟨att, -, n10⟩, -⟩ := h
  obtain ⟨-, -, -, m78⟩ := att i hi
  unfold f_W_goes f_M_go
  refine w_val (wm_of (st_gRe (hmf 23 78 rfl)) (wm_of (st_aIe (oc (by omega)) m78) (wm_of st_val ?_)))
  rw [show (6 : Int32) * Int32.ofNat i = Int32.ofNat (6 * i) from wmul 6 i]
  refine g_go_L h' g hi kr_FU x _ ?_
  rcases hx with rfl | ⟨k, hk, rfl⟩
  · exact Or.inl rfl
  · exact Or.inr ⟨k, hk, rfl, (wix 12 0 k).trans (by rw [Nat.mul_zero, Nat.zero_add])⟩
end
