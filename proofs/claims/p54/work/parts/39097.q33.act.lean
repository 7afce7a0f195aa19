/-! ===== acting for another ===== -/
section
variable {S : AS} {ns s p : Nat} {x13 x17 : Int32}
theorem o_actL {Q : Int32 × AS → Prop} (lr : LR S) (hs : s < ns) (hn : ns ≤ 13) (c1 : sI S 127 1 = Int32.ofNat ns) (H : ∀ T, LF S T → (∀ q j, ¬ (q = 134 ∧ 3 * ns ≤ j ∧ j < 3 * ns + 3) → sI T q j = sI S q j) → (∀ g, g < 3 → sI T 134 (3 * ns + g) = sI S 134 (3 * s + g)) → Ho ((f_W_opens T (some 127) (some 133) (Int32.ofNat p) (Int32.ofNat s)).bind fun S22 => f_W_sessions_B605 S22 (some 4) (some 127) (Int32.ofNat s) x13 (Int32.ofNat p) x17) Q) :
    ∀ (k i fu : Nat) (T : AS), i + k = 3 → k < fu → LF S T → (∀ q j, ¬ (q = 134 ∧ 3 * ns ≤ j ∧ j < 3 * ns + 3) → sI T q j = sI S q j) → (∀ g, g < i → sI T 134 (3 * ns + g) = sI S 134 (3 * s + g)) → Ho (f_W_sessions_L562 fu T (some 4) (some 127) (some 133) (some 134) (Int32.ofNat s) x13 (Int32.ofNat p) x17 (Int32.ofNat i)) Q
  | _, _, 0, _, _, h, _, _, _ => absurd h (Nat.not_lt_zero _)
  | 0, i, fu + 1, T, hk, _, l, o, z => by
    have e : i = 3 := by omega
    subst e
    unfold f_W_sessions_L562 f_W_sessions_C562
    exact r_ifT (by decide) (H T l o z)
  | k + 1, i, fu + 1, T, hk, hfu, l, o, z => by
    obtain ⟨r127, -, -, -, -, -, -, r134, -⟩ := l.LR lr
    unfold f_W_sessions_L562 f_W_sessions_C562
    refine r_ifF (fun q => by have := (oleq (a := 3) (b := i) (by omega) (by omega)).mp q; omega) ?_
    refine o_aIe r127 (n := 1) rfl (by decide) ((o 127 1 (by omega)).trans c1) (o_aIe r134 (n := 3 * s + i) (wix 3 s i) (by omega) (o 134 _ (by omega)) (o_bI r134 (n := 3 * ns + i) (wix 3 ns i) (by omega) (r_val ?_)))
    rw [o1]
    refine o_actL lr hs hn c1 H k (i + 1) fu _ (by omega) (by omega) (LF_w l (by decide)) (fun q j y => (ti_sI_ne (by omega)).trans (o q j y)) (fun g hg => ?_)
    by_cases c : g = i
    · rw [c, ti_sI_eq]
    · rw [ti_sI_ne (by omega)]
      exact z g (by omega)
end
theorem p_actL {mm : AS} {n s : Nat} (hmf : MF mm) (hs : s < n) (hn : n < 60) : ∀ (k i fu : Nat) (M : AS), i + k = 3 → sR M = sR mm → sL M = sL mm → (∀ q j, ¬ (q = 90 ∧ 3 * n ≤ j ∧ j < 3 * n + 3) → sI M q j = sI mm q j) → (∀ g, g < i → sI M 90 (3 * n + g) = sI mm 90 (3 * s + g)) →
    Hp (f_M_act_L137 fu M (some 57) (Int32.ofNat s) (Int32.ofNat n) (Int32.ofNat i)) (fun q => q.1 = Int32.ofNat n ∧ (∀ a j, ¬ (a = 90 ∧ 3 * n ≤ j ∧ j < 3 * n + 3) → sI q.2 a j = sI mm a j) ∧ ∀ g, g < 3 → sI q.2 90 (3 * n + g) = sI mm 90 (3 * s + g))
  | _, _, 0, _, _, _, _, _, _ => p_0
  | 0, i, fu + 1, M, hk, r, l, o, z => by
    have e : i = 3 := by omega
    subst e
    unfold f_M_act_L137 f_M_act_C137
    exact p_of (st_T (by decide)) (p_ret ⟨rfl, o, z⟩)
  | k + 1, i, fu + 1, M, hk, r, l, o, z => by
    have hm := MF_e hmf r
    unfold f_M_act_L137 f_M_act_C137
    refine p_of (st_F (fun q => by have := (ole (a := 3) (b := i) (by decide) (by omega)).mp q; omega)) ?_
    refine p_of (st_gRe (hm 36 90 rfl)) (p_of (st_gRe (hm 36 90 rfl)) (p_of (st_aIe (ix3 s (by omega) i (by omega)) (o 90 _ (by omega))) (p_of (st_bIe (ix3 n hn i (by omega))) (p_of st_val ?_))))
    rw [o1]
    refine p_actL hmf hs hn k (i + 1) fu _ (by omega) r l (fun q j y => (ti_sI_ne (by omega)).trans (o q j y)) (fun g hg => ?_)
    by_cases c : g = i
    · rw [c, ti_sI_eq]
    · rw [ti_sI_ne (by omega)]
      exact z g (by omega)
/-- who may act, by the reference -/
def CAN (m : AS) (s p : Nat) : Prop := sI m 89 s = 1 ∧ sI m 88 s = -1 ∧ ¬ LVL (shB (sI m 57 0) (sI m 90 (3 * s))) (shB (sI m 57 0) (sI m 90 (3 * s + 1))) (shB (sI m 57 0) (sI m 90 (3 * s + 2))) < (3 : Int32) ∧ ∃ w, w < 3 ∧ sI m 85 s = Int32.ofNat w ∧ sI m 65 w = 1 ∧ w ≠ p
theorem p_act {m : AS} {ns s p : Nat} (hmf : MF m) (h30 : sI m 57 30 = Int32.ofNat ns) (n14 : ns ≤ 14) (hs : s ≤ ns) (p3 : p < 3) (h01 : s < ns → q01 (sI m 89 s)) (h85 : s < ns → ∃ w, w < 3 ∧ sI m 85 s = Int32.ofNat w) (hh : ∀ w, w < 3 → q01 (sI m 65 w) ∧ sI m 64 w = 0) : Hp (f_M_act m (some 57) (Int32.ofNat s) (Int32.ofNat p)) (fun q => (s = ns → sI q.2 57 82 = Int32.ofNat 1 ∧ GK m q.2) ∧ (s < ns → ¬ CAN m s p → sI q.2 57 82 = Int32.ofNat 2 ∧ GK m q.2) ∧
    (s < ns → CAN m s p → ∃ m1 m2, m1 = wI m 57 82 0 ∧ NSM m1 m2 ns (Int32.ofNat p) (Int32.ofNat s) ∧ q.1 = Int32.ofNat ns ∧ (∀ a j, ¬ (a = 90 ∧ 3 * ns ≤ j ∧ j < 3 * ns + 3) → sI q.2 a j = sI m2 a j) ∧ ∀ g, g < 3 → sI q.2 90 (3 * ns + g) = sI m2 90 (3 * s + g))) := by
  -- refused
  have bad : ∀ y1 : Int32, (y1 = 0 → s = ns) → (y1 ≠ 0 → s < ns ∧ ¬ CAN m s p) → Hp (f_M_act_B111 m (some 57) (Int32.ofNat s) (Int32.ofNat p) y1) (fun q => (s = ns → sI q.2 57 82 = Int32.ofNat 1 ∧ GK m q.2) ∧ (s < ns → ¬ CAN m s p → sI q.2 57 82 = Int32.ofNat 2 ∧ GK m q.2) ∧
    (s < ns → CAN m s p → ∃ m1 m2, m1 = wI m 57 82 0 ∧ NSM m1 m2 ns (Int32.ofNat p) (Int32.ofNat s) ∧ q.1 = Int32.ofNat ns ∧ (∀ a j, ¬ (a = 90 ∧ 3 * ns ≤ j ∧ j < 3 * ns + 3) → sI q.2 a j = sI m2 a j) ∧ ∀ g, g < 3 → sI q.2 90 (3 * ns + g) = sI m2 90 (3 * s + g))) := fun y1 h0 h1 => by
    unfold f_M_act_B111 f_M_act_B112
    refine p_of st_rv (p_b2 p_mayB (fun x m' q => ?_))
    by_cases c : y1 = 0
    · rw [if_pos c] at q
      obtain ⟨q1, q2⟩ := Prod.mk.inj q
      rw [q1, q2]
      have := h0 c
      exact p_of (st_T rfl) (p_ret ⟨fun _ => ⟨ti_sI_eq _ _ _ _, GK_82 _ _⟩, fun z => absurd z (by omega), fun z => absurd z (by omega)⟩)
    · rw [if_neg c, if_pos rfl] at q
      obtain ⟨q1, q2⟩ := Prod.mk.inj q
      rw [q1, q2]
      obtain ⟨d1, d2⟩ := h1 c
      exact p_of (st_T rfl) (p_ret ⟨fun z => absurd z (by omega), fun _ _ => ⟨ti_sI_eq _ _ _ _, GK_82 _ _⟩, fun _ z => absurd z d2⟩)
  have bad2 : s < ns → ¬ CAN m s p → Hp (f_M_act_B71 m (some 57) (Int32.ofNat s) (Int32.ofNat p) (1 : Int32)) (fun q => (s = ns → sI q.2 57 82 = Int32.ofNat 1 ∧ GK m q.2) ∧ (s < ns → ¬ CAN m s p → sI q.2 57 82 = Int32.ofNat 2 ∧ GK m q.2) ∧
    (s < ns → CAN m s p → ∃ m1 m2, m1 = wI m 57 82 0 ∧ NSM m1 m2 ns (Int32.ofNat p) (Int32.ofNat s) ∧ q.1 = Int32.ofNat ns ∧ (∀ a j, ¬ (a = 90 ∧ 3 * ns ≤ j ∧ j < 3 * ns + 3) → sI q.2 a j = sI m2 a j) ∧ ∀ g, g < 3 → sI q.2 90 (3 * ns + g) = sI m2 90 (3 * s + g))) := fun c n => by
    unfold f_M_act_B71 f_M_act_B72
    exact p_of (st_T rfl) (bad 1 (fun z => absurd z one0) (fun _ => ⟨c, n⟩))
  unfold f_M_act
  refine p_of st_rv (p_b2 (p_isSes h30 (by omega) (by omega)) (fun x m' q => ?_))
  obtain ⟨q1, q2⟩ := Prod.mk.inj q
  rw [q2]
  by_cases c : s < ns
  · rw [if_pos c] at q1
    rw [q1]
    refine p_of (st_F one0) (p_of (st_b2 (q_six m _)) ?_)
    rw [if_pos (in5 p3)]
    refine p_of (st_F one0) ?_
    unfold f_M_act_B20
    refine p_of (st_F one0) (p_of (st_gRe (hmf 35 89 rfl)) (p_of (st_aIe (oc (by omega)) rfl) ?_))
    rcases h01 c with e | e
    · exact p_of (st_T e) (bad2 c (fun z => absurd (e.symm.trans z.1) (by decide)))
    · refine p_of (st_F (by rw [e]; decide)) (p_of (st_gRe (hmf 34 88 rfl)) (p_of (st_aIe (oc (by omega)) rfl) ?_))
      by_cases d : sI m 88 s = -1
      · refine p_of (st_T d) (p_of st_rv (p_b2 (p_levelNow hmf (by omega)) (fun v m' q => ?_)))
        obtain ⟨q1, q2⟩ := Prod.mk.inj q
        rw [q1, q2]
        by_cases l : LVL (shB (sI m 57 0) (sI m 90 (3 * s))) (shB (sI m 57 0) (sI m 90 (3 * s + 1))) (shB (sI m 57 0) (sI m 90 (3 * s + 2))) < (3 : Int32)
        · exact p_of (st_T l) (bad2 c (fun z => z.2.2.1 l))
        · obtain ⟨w, w3, hw⟩ := h85 c
          refine p_of (st_F l) (p_of (st_gRe (hmf 8 65 rfl)) (p_of (st_gRe (hmf 31 85 rfl)) (p_of (st_aIe (oc (by omega)) hw) (p_of (st_aIe (oc (by omega)) rfl) ?_))))
          have nw : ∀ w', w' < 3 → sI m 85 s = Int32.ofNat w' → w' = w := fun w' h h' => oinjq (by omega) (by omega) (h'.symm.trans hw)
          rcases (hh w w3).1 with g | g
          · exact p_of (st_T g) (bad2 c (fun z => by
              obtain ⟨w', a1, a2, a3, -⟩ := z.2.2.2
              rw [nw w' a1 a2, g] at a3
              exact absurd a3 (by decide)))
          · refine p_of (st_F (by rw [g]; decide)) ?_
            unfold f_M_act_B72
            refine p_of (st_F one0) (p_of (st_gRe (hmf 31 85 rfl)) (p_of (st_aIe (oc (by omega)) hw) ?_))
            by_cases f : w = p
            · exact p_of (st_T (by rw [f])) (bad 1 (fun z => absurd z one0) (fun _ => ⟨c, fun z => by
                obtain ⟨w', a1, a2, -, a4⟩ := z.2.2.2
                rw [nw w' a1 a2] at a4
                exact a4 f⟩))
            · have can : CAN m s p := ⟨e, d, l, w, w3, hw, g, f⟩
              refine p_of (st_F (fun z => f (oinjq (by omega) (by omega) z))) (p_of (st_gRe (hmf 7 64 rfl)) (p_of (st_aIe (oc (by omega)) (hh p p3).2) (p_of (st_T rfl) (p_of (st_gIe h30) (p_of (st_F (fun z => by have := (oleq (a := 60) (b := ns) (by omega) (by omega)).mp z; omega)) ?_)))))
              unfold f_M_act_B112
              refine p_of st_rv (p_b2 p_mayB (fun x m' q => ?_))
              rw [if_neg one0, if_neg one0] at q
              obtain ⟨q1, q2⟩ := Prod.mk.inj q
              rw [q1]
              obtain ⟨m1, e1⟩ : ∃ m1, m1 = wI m 57 82 0 := ⟨_, rfl⟩
              rw [q2, ← e1]
              have hm1 : MF m1 := by rw [e1]; exact MF_e hmf rfl
              refine p_of (st_F one0) (p_of st_rv (p_b2 (p_newM (n := ns) hm1 (by omega) (by rw [e1, ti_sI_ne (by omega)]; exact h30)) (fun v m2 q => ?_)))
              obtain ⟨v1, nm⟩ := q
              have v1 : v = Int32.ofNat ns := v1
              have nm : NSM m1 m2 ns (Int32.ofNat p) (Int32.ofNat s) := nm
              rw [v1]
              refine p_mono (p_actL (mm := m2) (MF_e hm1 nm.1.1) c (by omega) 3 0 kr_FU m2 rfl rfl rfl (fun _ _ _ => rfl) (fun g hg => absurd hg (Nat.not_lt_zero _))) (fun a h => ?_)
              obtain ⟨h1, h2, h3⟩ := h
              exact ⟨fun z => absurd z (by omega), fun _ z => absurd can z, fun _ _ => ⟨m1, m2, rfl, nm, h1, h2, h3⟩⟩
      · exact p_of (st_F d) (bad2 c (fun z => d z.2.1))
  · rw [if_neg c] at q1
    rw [q1]
    refine p_of (st_T rfl) ?_
    unfold f_M_act_B19 f_M_act_B20
    refine p_of (st_T rfl) ?_
    unfold f_M_act_B71 f_M_act_B72
    exact p_of (st_T rfl) (bad 0 (fun _ => by omega) (fun z => absurd rfl z))
theorem LVL_le : ∀ a b c : Bool, (LVL a b c ≤ (2 : Int32) ↔ LVL a b c < (3 : Int32)) := by decide
section
variable {n r : Nat} {T : Nat → Nat} {S : AS}
theorem l_act (L : L54 n r T S) (hn : n ≤ 500) {y : Int32} : Ho (f_W_sessions S (some 4) (4 : Int32) y (some 127) (some 129) (some 133) (some 134) (some 135) (some 136) (some 137) (some 138) (some 139)) (G54 n r) := by
  obtain ⟨iv, rp, tl, pts, -, ns, nc, nf, nt, nk, na, lw⟩ := id L
  have lr := TL_LR iv.1 tl
  obtain ⟨⟨z1, -⟩, ⟨now, aud, -, hlp⟩, -, -, -, ⟨sp, usd, lv, ssh⟩, -⟩ := id lw
  have n14 := z1.2.2
  refine ses_pre2 lr z1 sp lv (by decide) (by decide) (fun s hs x13 y0 hx hy => ?_)
  have lr' := lr
  obtain ⟨r127, -, r129, -, -, -, r133, r134, -⟩ := lr
  unfold f_W_sessions_B264
  refine r_ifF (by decide) (o_some 3 rfl (by decide) (by decide) (fun p p3 => r_ifF (by decide) ?_))
  have pact : ∀ M q, MF M → GK S M → f_M_act M (some 57) (Int32.ofNat s) (Int32.ofNat p) = some q → (s = ns → sI q.2 57 82 = Int32.ofNat 1 ∧ GK M q.2) ∧ (s < ns → ¬ CAN M s p → sI q.2 57 82 = Int32.ofNat 2 ∧ GK M q.2) ∧
    (s < ns → CAN M s p → ∃ m1 m2, m1 = wI M 57 82 0 ∧ NSM m1 m2 ns (Int32.ofNat p) (Int32.ofNat s) ∧ q.1 = Int32.ofNat ns ∧ (∀ a j, ¬ (a = 90 ∧ 3 * ns ≤ j ∧ j < 3 * ns + 3) → sI q.2 a j = sI m2 a j) ∧ ∀ g, g < 3 → sI q.2 90 (3 * ns + g) = sI m2 90 (3 * s + g)) := fun M q mf gk h =>
    p_act mf ((gk 57 30 (by omega) (by omega) (by omega)).trans z1.2.1) n14 hs p3 (fun h => by
      rw [gk 89 s (by omega) (by omega) (by omega)]
      rcases lv s h with ⟨e, -⟩ | ⟨e, -⟩
      · exact Or.inr e
      · exact Or.inl e) (fun h => by
      rw [gk 85 s (by omega) (by omega) (by omega)]
      obtain ⟨⟨w, w3, -, e⟩, -⟩ := sp s h
      exact ⟨w, w3, e⟩) (fun w w3 => by
      rw [gk 65 w (by omega) (by omega) (by omega), gk 64 w (by omega) (by omega) (by omega)]
      exact (hlp w w3).2) _ h
  have canGK : ∀ M, GK S M → (CAN M s p ↔ CAN S s p) := fun M gk => by
    unfold CAN
    rw [gk 89 s (by omega) (by omega) (by omega), gk 88 s (by omega) (by omega) (by omega), gk 57 0 (by omega) (by omega) (by omega), gk 90 _ (by omega) (by omega) (by omega), gk 90 _ (by omega) (by omega) (by omega), gk 90 _ (by omega) (by omega) (by omega), gk 85 s (by omega) (by omega) (by omega)]
    constructor
    · rintro ⟨a, b, c, w, w3, d, e, f⟩
      rw [gk 65 w (by omega) (by omega) (by omega)] at e
      exact ⟨a, b, c, w, w3, d, e, f⟩
    · rintro ⟨a, b, c, w, w3, d, e, f⟩
      exact ⟨a, b, c, w, w3, d, by rw [gk 65 w (by omega) (by omega) (by omega)]; exact e, f⟩
  -- refused
  have no : (s < ns → ¬ CAN S s p) → Ho (f_W_sessions_B536 S (some 4) (some 127) (some 133) (some 134) (Int32.ofNat s) x13 (Int32.ofNat p)) (G54 n r) := fun ncan => by
    unfold f_W_sessions_B536 f_W_sessions_B537
    refine r_ifT rfl ?_
    unfold f_W_sessions_B554
    refine r_ifT rfl ?_
    unfold f_W_sessions_B605
    obtain ⟨c, v, S1, S2, T1, e1, e2, g, an⟩ := tg_act (a0 := Int32.ofNat s) (a1 := Int32.ofNat p) iv (by omega) rp
    have bh := PK_BH L (LF_rf S) g (by decide +kernel) (by decide +kernel) (by decide +kernel)
    obtain ⟨-, -, -, -, kS, kS1, kG, mf⟩ := id bh
    obtain ⟨pa, pb, -⟩ := pact S1 _ mf kG e2
    have fin : ∀ k : Int32, c = k → GK S1 S2 → Ho (f_W_sessions_B641 S2 c k) (G54 n r) := fun k hk gk2 => by
      have gk := GK_tr kG gk2
      unfold f_W_sessions_B641
      exact o_fin hk (BH_L bh (lPN_e pts (fun j => gk 73 j (by omega) (by omega) (by omega)) (gk 57 0 (by omega) (by omega) (by omega))) ⟨ns, nc, nf, nt, nk, na, LW_cong2 lw kS gk⟩)
    refine o_b2 e1 ?_
    rcases hx with ⟨hx, ex⟩ | ⟨hx, ex⟩
    · obtain ⟨t, gk⟩ := pb hx (fun z => ncan hx ((canGK S1 kG).mp z))
      exact r_ifF (by rw [ex]; decide) (r_ifT rfl (fin _ (ANc_k an (by decide) 1 rfl t) gk))
    · obtain ⟨t, gk⟩ := pa hx
      exact r_ifT ex (fin _ (ANc_k an (by decide) 0 rfl t) gk)
  rcases hy with ⟨ey, hlt, l1, l2⟩ | ⟨ey, l0⟩
  · refine r_ifF (by rw [ey]; decide) (o_b2 (x_levelOf r127 r134 (by omega) (fun g g3 => by
      obtain ⟨h1, h2⟩ := ssh s hlt g g3
      rw [h1]
      exact h2)) ?_)
    rw [lvl_eq now ssh hlt]
    obtain ⟨⟨w, w3, sp1, sp2⟩, -⟩ := sp s hlt
    have nw : ∀ w', w' < 3 → sI S 85 s = Int32.ofNat w' → w' = w := fun w' h h' => oinjq (by omega) (by omega) (h'.symm.trans sp2)
    by_cases lo : LVL (shB (sI S 57 0) (sI S 90 (3 * s))) (shB (sI S 57 0) (sI S 90 (3 * s + 1))) (shB (sI S 57 0) (sI S 90 (3 * s + 2))) ≤ (2 : Int32)
    · exact r_ifT lo (no (fun _ z => z.2.2.1 ((LVL_le _ _ _).mp lo)))
    · refine r_ifF lo (o_aI r127 (n := 13) rfl (by decide) (o_aIe r133 (n := 4 * s) (wmul 4 s) (by omega) sp1 ?_))
      rw [bitv _ (by omega)]
      obtain ⟨h1, h2, h3⟩ := hlp w w3
      by_cases hb : bt (sI S 127 13) w = true
      · refine r_ifT (by rw [hb]; rfl) (o_aIe r133 (n := 4 * s) (wmul 4 s) (by omega) sp1 ?_)
        by_cases pw : p = w
        · exact r_ifT (by rw [pw]) (no (fun _ z => by
            obtain ⟨w', a1, a2, -, a4⟩ := z.2.2.2
            rw [nw w' a1 a2] at a4
            exact a4 pw.symm))
        · refine r_ifF (fun z => pw (oinjq (by omega) (by omega) z)) ?_
          have can : CAN S s p := ⟨l1, l2, fun z => lo ((LVL_le _ _ _).mpr z), w, w3, sp2, h1.mp hb, fun z => pw z.symm⟩
          unfold f_W_sessions_B537
          refine r_ifF one0 (o_aIe r127 (n := 1) rfl (by decide) z1.1 ?_)
          by_cases n13 : ns ≤ 13
          · refine r_ifT ((oleq (b := 13) (by omega) (by omega)).mpr n13) ?_
            unfold f_W_sessions_B554
            refine r_ifF one0 ?_
            refine o_actL lr' hlt n13 z1.1 (fun Sz lz oz z3 => ?_) 3 0 kr_FU S rfl (by decide) (LF_rf S) (fun _ _ _ => rfl) (fun g hg => absurd hg (Nat.not_lt_zero _))
            refine o_bo (x_opens (pv := Int32.ofNat p) (ov := Int32.ofNat s) (lz.Rw r127) (lz.Rw r133) (by omega) ((oz 127 1 (by omega)).trans z1.1)) (fun Sa nw2 => ?_)
            have la : LF S Sa := LF_tr lz nw2.1
            unfold f_W_sessions_B605
            obtain ⟨c, v, S1, S2, T1, e1, e2, g, an⟩ := tg_act (a0 := Int32.ofNat s) (a1 := Int32.ofNat p) (LF_IV iv tl la) (by omega) (LF_RPF iv.1 tl rp la)
            have bh := PK_BH L la g (by decide +kernel) (by decide +kernel) (by decide +kernel)
            obtain ⟨-, -, -, -, kS, kS1, kG, mf⟩ := id bh
            have gk0 : GK S S1 := GK_tr (LF_GK la) kG
            obtain ⟨-, -, pc⟩ := pact S1 _ mf gk0 e2
            obtain ⟨m1, m2, em, nm, v1, om, m90⟩ := pc hlt ((canGK S1 gk0).mpr can)
            have v1 : v = Int32.ofNat ns := v1
            have om : ∀ a j, ¬ (a = 90 ∧ 3 * ns ≤ j ∧ j < 3 * ns + 3) → sI S2 a j = sI m2 a j := om
            have m90 : ∀ g, g < 3 → sI S2 90 (3 * ns + g) = sI m2 90 (3 * s + g) := m90
            have gk1 : GK S m1 := GK_tr gk0 (by rw [em]; exact GK_82 _ _)
            obtain ⟨⟨-, -, nm1⟩, -⟩ := id nm
            -- the relation with the law's rows of what was shown, ahead of the new session
            have gz : ∀ k j, 57 ≤ k → k < 126 → ¬ (k = 57 ∧ (100 ≤ j ∨ j = 82)) → sI m1 k j = sI S k j := gk1
            obtain ⟨y1, y2, y3, y4, y5⟩ := ses_new (S := Sz) (m := m1) (S' := Sa) (m' := m2) (o := s + 1) nw2 nm n13 p3 (lSz_fr z1 (oz 127 1 (by omega)) (gz 57 30 (by omega) (by omega) (by omega))) (lNow_fr now (oz 127 0 (by omega)) (gz 57 0 (by omega) (by omega) (by omega))) (lAud_fr aud (oz 127 9 (by omega)) (oz 127 10 (by omega)) (gz 57 77 (by omega) (by omega) (by omega)) (gz 57 81 (by omega) (by omega) (by omega))) (lSp_fr sp (fun j _ => oz 133 j (by omega)) (funext fun j => gz 85 j (by omega) (by omega) (by omega)) (funext fun j => gz 86 j (by omega) (by omega) (by omega)) (funext fun j => gz 88 j (by omega) (by omega) (by omega))) (lUsd_fr usd (fun j _ => oz 133 j (by omega)) (funext fun j => gz 87 j (by omega) (by omega) (by omega))) (lLiv_fr lv (fun j _ => oz 133 j (by omega)) (funext fun j => gz 88 j (by omega) (by omega) (by omega)) (funext fun j => gz 89 j (by omega) (by omega) (by omega))) (by omega) (o1 s) (o1 s)
            obtain ⟨-, oa, -⟩ := id nw2
            have s2 : ∀ k j, 127 ≤ k → k < 141 → sI S2 k j = sI Sa k j := fun k j h1 h2 => by rw [kS k h1 h2]
            have oW : ∀ k j, 127 ≤ k → k < 141 → ¬ ((k = 127 ∧ (j = 1 ∨ j = 9 ∨ j = 10)) ∨ (k = 133 ∧ 4 * ns ≤ j ∧ j < 4 * ns + 4) ∨ (k = 134 ∧ 3 * ns ≤ j ∧ j < 3 * ns + 3)) → sI S2 k j = sI S k j := fun k j h1 h2 h3 => by
              rw [s2 k j h1 h2, oa k j (by omega) (by omega)]
              exact oz k j (by omega)
            have oM : ∀ k j, 57 ≤ k → k < 126 → ¬ (k = 57 ∧ (100 ≤ j ∨ j = 82)) → ¬ ((k = 57 ∧ (j = 30 ∨ j = 77 ∨ j = 81)) ∨ (85 ≤ k ∧ k ≤ 89 ∧ j = ns) ∨ (k = 90 ∧ 3 * ns ≤ j ∧ j < 3 * ns + 3) ∨ (123 ≤ k ∧ k ≤ 126)) → sI S2 k j = sI S k j := fun k j h1 h2 h3 h4 => by
              rw [om k j (by omega), nm1 k j (by omega) (by omega) (by omega) (by omega) (by omega) (by omega)]
              exact gz k j h1 h2 h3
            have v82 : sI S2 57 82 = 0 := by rw [om 57 82 (by omega), nm1 57 82 (by omega) (by omega) (by omega) (by omega) (by omega) (by omega), em, ti_sI_eq]
            have om' : ∀ a, a ≠ 90 → sI S2 a = sI m2 a := fun a h => funext fun j => om a j (by omega)
            have s2' : ∀ k, 127 ≤ k → k < 141 → sI S2 k = sI Sa k := kS
            have LL : L54 (n + 1) (r + 1) T1 S2 := BH_L bh (lPN_e pts (fun j => oM 73 j (by omega) (by omega) (by omega) (by omega)) (oM 57 0 (by omega) (by omega) (by omega) (by omega))) ⟨ns + 1, nc, nf, nt, nk, na, LWa_act lw (fun k j h1 h2 h3 => oW k j h1 h2 (by omega)) (fun k j h1 h2 h3 h4 => oM k j h1 h2 h3 (by omega)) (by omega) (lSz_fr y1 (s2 127 1 (by omega) (by omega)) (om 57 30 (by omega))) (lAud_fr y2 (s2 127 9 (by omega) (by omega)) (s2 127 10 (by omega) (by omega)) (om 57 77 (by omega)) (om 57 81 (by omega))) (lSp_fr y3 (fun j _ => s2 133 j (by omega) (by omega)) (om' 85 (by omega)) (om' 86 (by omega)) (om' 88 (by omega))) (lUsd_fr y4 (fun j _ => s2 133 j (by omega) (by omega)) (om' 87 (by omega))) (lLiv_fr y5 (fun j _ => s2 133 j (by omega) (by omega)) (om' 88 (by omega)) (om' 89 (by omega))) (fun j hj g g3 => by
              by_cases e : j = ns
              · rw [e, m90 g g3, s2 134 _ (by omega) (by omega), oa 134 _ (by omega) (by omega), z3 g g3, nm1 90 _ (by omega) (by omega) (by omega) (by omega) (by omega) (by omega), gz 90 _ (by omega) (by omega) (by omega)]
                exact ssh s hlt g g3
              · rw [oW 134 _ (by omega) (by omega) (by omega), oM 90 _ (by omega) (by omega) (by omega) (by omega)]
                exact ssh j (by omega) g g3)⟩
            refine o_b2 e1 ?_
            have ex : x13 = 1 := by
              rcases hx with ⟨-, h⟩ | ⟨h, -⟩
              · exact h
              · omega
            refine r_ifF (by rw [ex]; decide) (r_ifF one0 (o_aIe (v := Int32.ofNat (ns + 1)) (TL_LR LL.1.1 LL.2.2.1).1 (n := 1) rfl (by decide) ((s2 127 1 (by omega) (by omega)).trans y1.1) ?_))
            rw [qsub1]
            unfold f_W_sessions_B641
            exact o_fin (by rw [ANc_0 an (by decide) v82, v1]) LL
          · exact r_ifF (fun z => n13 ((oleq (b := 13) (by omega) (by omega)).mp z)) (G54_no L)
      · exact r_ifF (by
          have : bt (sI S 127 13) w = false := by
            cases h : bt (sI S 127 13) w with
            | false => rfl
            | true => exact absurd h hb
          rw [this]
          decide) (no (fun _ z => by
          obtain ⟨w', a1, a2, a3, -⟩ := z.2.2.2
          rw [nw w' a1 a2] at a3
          exact hb (h1.mpr a3)))
  · refine r_ifT ey (no (fun h z => ?_))
    rcases l0 h with l | l
    · exact absurd (l.symm.trans z.1) (by decide)
    · exact l z.2.1
end
