/-! ===== refreshing ===== -/
theorem two_le (x : Int32) : (2 : Int32) ≤ x ↔ (1 : Int32) < x := by
  rw [Int32.le_iff_toInt_le, Int32.lt_iff_toInt_lt, show (2 : Int32).toInt = 2 from by decide, show (1 : Int32).toInt = 1 from by decide]
  omega
theorem sub1_eq {a b : Nat} (ha : a ≤ 1000) (hb : b ≤ 1000) : Int32.ofNat a = Int32.ofNat b - 1 ↔ a + 1 = b := by
  cases b with
  | zero =>
    refine ⟨fun h => ?_, fun h => absurd h (by omega)⟩
    have := congrArg Int32.toInt h
    rw [oiq (by omega), show (Int32.ofNat 0 - 1).toInt = -1 from by decide] at this
    omega
  | succ w =>
    rw [qsub1]
    refine ⟨fun h => ?_, fun h => by rw [show a = w by omega]⟩
    have := oinjq (by omega) (by omega) h
    omega
theorem p_refresh_none {m : AS} {nf : Nat} {num : Int32} (h46 : sI m 57 46 = Int32.ofNat nf) (h0 : nf = 0) : Hp (f_M_refresh m (some 57) (Int32.ofNat 0) num) (fun q => sI q.2 57 82 = Int32.ofNat 1 ∧ GK m q.2) := by
  unfold f_M_refresh
  refine p_of st_rv (p_b2 (p_isFam h46 (by omega) (by omega)) (fun x m' q => ?_))
  obtain ⟨q1, q2⟩ := Prod.mk.inj q
  rw [q2]
  rw [if_neg (by omega)] at q1
  rw [q1]
  refine p_of (st_T rfl) ?_
  unfold f_M_refresh_B28 f_M_refresh_B29
  refine p_of (st_T rfl) ?_
  unfold f_M_refresh_B67 f_M_refresh_B68
  refine p_of (st_T rfl) ?_
  unfold f_M_refresh_B94 f_M_refresh_B95
  refine p_of (st_T rfl) ?_
  unfold f_M_refresh_B116 f_M_refresh_B121
  refine p_of st_rv (p_b2 p_mayA (fun x m' q => ?_))
  rw [if_pos rfl] at q
  obtain ⟨q1, q2⟩ := Prod.mk.inj q
  rw [q1, q2]
  exact p_of (st_T rfl) (p_ret ⟨ti_sI_eq _ _ _ _, GK_82 _ _⟩)
/-- a token more by the reference's rotation -/
def RTQ (m : AS) (f nw se nt au : Nat) (cl sc : Int32) (q : Int32 × AS) : Prop := q.1 = Int32.ofNat (nw + 1) ∧ ∃ m1 m2, m1 = wI (wI (wI m 57 82 0) 100 f (Int32.ofNat (nw + 1))) 101 f (sI m 57 0) ∧ TKM m1 m2 f nt au cl sc 0 (sI m 57 0 + 10) ∧ q.2 = wI m2 87 se (sI m 57 0)
def RFQ (m : AS) (f num nw se nt au : Nat) (cl sc : Int32) (q : Int32 × AS) : Prop := (nw < num → sI q.2 57 82 = Int32.ofNat 2 ∧ GK m q.2) ∧ (num ≤ nw → (sI m 103 f = 0 ∨ sI m 89 se = 0) → q.1 = -1 ∧ sI q.2 57 82 = 0 ∧ GK m q.2) ∧ (num = nw → sI m 103 f = 1 → sI m 89 se = 1 → RTQ m f nw se nt au cl sc q) ∧
  (num < nw → sI m 103 f = 1 → sI m 89 se = 1 → num + 1 = nw → ¬ (1 : Int32) < sI m 57 0 - sI m 101 f → q.1 = Int32.ofNat nw ∧ sI q.2 57 82 = 0 ∧ GK m q.2) ∧ (num < nw → sI m 103 f = 1 → sI m 89 se = 1 → (num + 1 = nw → (1 : Int32) < sI m 57 0 - sI m 101 f) → ∃ m', f_M_endFamily (wI m 57 82 0) (some 57) (Int32.ofNat f) = some m' ∧ q = (-1, m'))
theorem p_refresh {m : AS} {f num nw nf nt co se au : Nat} {cl sc : Int32} (hmf : MF m) (h46 : sI m 57 46 = Int32.ofNat nf) (f10 : nf ≤ 10) (hf : f < nf) (h52 : sI m 57 52 = Int32.ofNat nt) (t20 : nt ≤ 20) (n100 : num ≤ 100) (w100 : nw ≤ 100) (e100 : sI m 100 f = Int32.ofNat nw) (e99 : sI m 99 f = Int32.ofNat co) (c10 : co < 10) (e93 : sI m 93 co = Int32.ofNat se) (s14 : se < 14) (g01 : q01 (sI m 103 f)) (h01 : q01 (sI m 89 se)) (e94 : sI m 94 co = cl) (e95 : sI m 95 co = Int32.ofNat au) (e96 : sI m 96 co = sc) : Hp (f_M_refresh m (some 57) (Int32.ofNat f) (Int32.ofNat num)) (RFQ m f num nw se nt au cl sc) := by
  have if' : (Int32.ofNat f).toNatClampNeg = f := oc (by omega)
  obtain ⟨m1, e1⟩ : ∃ m1, m1 = wI m 57 82 0 := ⟨_, rfl⟩
  have hm1 : MF m1 := by rw [e1]; exact MF_e hmf rfl
  have o : ∀ k j, ¬ (k = 57 ∧ j = 82) → sI m1 k j = sI m k j := fun k j z => by rw [e1, ti_sI_ne z]
  -- behind the tests: x4 the number, x5 whether it can, x6 whether it is the newest
  have tail : ∀ x4 x5 x6 : Int32, (x4 = 0 → nw < num) → (x4 ≠ 0 → num ≤ nw) → (x4 ≠ 0 → x5 = 0 → sI m 103 f = 0 ∨ sI m 89 se = 0) → (x4 ≠ 0 → x5 ≠ 0 → sI m 103 f = 1 ∧ sI m 89 se = 1) → (x4 ≠ 0 → x5 ≠ 0 → x6 = 0 → num < nw) → (x6 ≠ 0 → num = nw) → Hp (f_M_refresh_B116 m (some 57) (Int32.ofNat f) (Int32.ofNat num) x5 x6 (some 57) (1 : Int32) x4) (RFQ m f num nw se nt au cl sc) := fun x4 x5 x6 h4 h4' h5 h5' h6 h6' => by
    unfold f_M_refresh_B116 f_M_refresh_B121
    refine p_of st_rv (p_b2 p_mayA (fun x m' q => ?_))
    rw [if_neg one0] at q
    by_cases c4 : x4 = 0
    · rw [if_pos c4] at q
      obtain ⟨q1, q2⟩ := Prod.mk.inj q
      rw [q1, q2]
      have := h4 c4
      exact p_of (st_T rfl) (p_ret ⟨fun _ => ⟨ti_sI_eq _ _ _ _, GK_82 _ _⟩, fun z => absurd z (by omega), fun z => absurd z (by omega), fun z => absurd z (by omega), fun z => absurd z (by omega)⟩)
    · rw [if_neg c4, if_neg one0] at q
      obtain ⟨q1, q2⟩ := Prod.mk.inj q
      rw [q1, q2, ← e1]
      have hn := h4' c4
      refine p_of (st_F one0) ?_
      by_cases c5 : x5 = 0
      · have hz := h5 c4 c5
        refine p_of (st_T c5) (p_ret ⟨fun z => absurd z (by omega), fun _ _ => ⟨rfl, by rw [e1]; exact ti_sI_eq _ _ _ _, by rw [e1]; exact GK_82 _ _⟩, fun _ z1 z2 => ?_, fun _ z1 z2 => ?_, fun _ z1 z2 => ?_⟩) <;>
        · rcases hz with z | z
          · exact absurd (z.symm.trans z1) (by decide)
          · exact absurd (z.symm.trans z2) (by decide)
      · obtain ⟨g1, l1⟩ := h5' c4 c5
        have ng : ¬ (sI m 103 f = 0 ∨ sI m 89 se = 0) := fun z => by
          rcases z with z | z
          · exact absurd (z.symm.trans g1) (by decide)
          · exact absurd (z.symm.trans l1) (by decide)
        refine p_of (st_F c5) ?_
        by_cases c6 : x6 = 0
        · have hlt := h6 c4 c5 c6
          refine p_of (st_T c6) (p_of (st_gRe (hm1 48 100 rfl)) (p_of (st_aIe if' ((o 100 f (by omega)).trans e100)) ?_))
          have fin : (num + 1 = nw → (1 : Int32) < sI m 57 0 - sI m 101 f) → Hp (f_M_refresh_B227 m1 (some 57) (Int32.ofNat f)) (RFQ m f num nw se nt au cl sc) := fun hz => by
            unfold f_M_refresh_B227
            refine p_of st_rv (p_is (fun a ha => ?_))
            obtain ⟨m', h1, h2⟩ := bd_inv ha
            cases h2
            exact ⟨fun z => absurd z (by omega), fun _ z => absurd z ng, fun z => absurd z (by omega), fun _ _ _ z1 z2 => absurd (hz z1) z2, fun _ _ _ _ => ⟨m', by rw [← e1]; exact h1, rfl⟩⟩
          by_cases d : num + 1 = nw
          · refine p_of (st_T ((sub1_eq (by omega) (by omega)).mpr d)) (p_of (st_gIe (o 57 0 (by omega))) (p_of (st_gRe (hm1 49 101 rfl)) (p_of (st_aIe if' (o 101 f (by omega))) ?_)))
            by_cases e : (1 : Int32) < sI m 57 0 - sI m 101 f
            · exact p_of (st_T e) (fin (fun _ => e))
            · exact p_of (st_F e) (p_of (st_gRe (hm1 48 100 rfl)) (p_of (st_aIe if' ((o 100 f (by omega)).trans e100)) (p_ret ⟨fun z => absurd z (by omega), fun _ z => absurd z ng, fun z => absurd z (by omega), fun _ _ _ _ _ => ⟨rfl, by rw [e1]; exact ti_sI_eq _ _ _ _, by rw [e1]; exact GK_82 _ _⟩, fun _ _ _ z => absurd (z d) e⟩)))
          · exact p_of (st_F (fun z => d ((sub1_eq (by omega) (by omega)).mp z))) (fin (fun z => absurd z d))
        · have heq := h6' c6
          refine p_of (st_F c6) (p_of (st_gRe (hm1 48 100 rfl)) (p_of (st_aIe if' ((o 100 f (by omega)).trans e100)) (p_of (st_bIe if') ?_)))
          rw [o1]
          refine p_of (st_gRe (v := some 101) (hm1 49 101 rfl)) (p_of (st_gIe (v := sI m 57 0) (by rw [ti_sI_ne (by omega)]; exact o 57 0 (by omega))) (p_of (st_bIe if') (p_of st_rv ?_)))
          obtain ⟨m2, e2⟩ : ∃ m2, m2 = wI (wI m1 100 f (Int32.ofNat (nw + 1))) 101 f (sI m 57 0) := ⟨_, rfl⟩
          rw [← e2]
          have hm2 : MF m2 := by rw [e2]; exact MF_e hm1 rfl
          have o2 : ∀ k j, ¬ (k = 57 ∧ j = 82) → ¬ ((k = 100 ∨ k = 101) ∧ j = f) → sI m2 k j = sI m k j := fun k j y1 y2 => by
            rw [e2, ti_sI_ne (by omega), ti_sI_ne (by omega)]
            exact o k j y1
          refine p_bd (p_ftM (m := m2) (f := f) (c := co) (n := nt) (to := au) (frm := cl) (sc := sc) hm2 (by omega) (by omega) (by omega) ((o2 57 52 (by omega) (by omega)).trans h52) ((o2 99 f (by omega) (by omega)).trans e99) ((o2 94 co (by omega) (by omega)).trans e94) ((o2 95 co (by omega) (by omega)).trans e95) ((o2 96 co (by omega) (by omega)).trans e96)) (fun m3 tm => ?_)
          rw [o2 57 0 (by omega) (by omega)] at tm
          have hm3 : MF m3 := MF_e hm2 tm.1.1
          have o3 := tm.1.2.2
          refine p_of (st_gRe (hm3 33 87 rfl)) (p_of (st_gRe (hm3 40 93 rfl)) (p_of (st_gRe (hm3 47 99 rfl)) (p_of (st_aIe if' ((o3 99 f (by omega) (by omega) (by omega)).trans ((o2 99 f (by omega) (by omega)).trans e99))) (p_of (st_aIe (oc (by omega)) ((o3 93 co (by omega) (by omega) (by omega)).trans ((o2 93 co (by omega) (by omega)).trans e93))) (p_of (st_gIe ((o3 57 0 (by omega) (by omega) (by omega)).trans (o2 57 0 (by omega) (by omega)))) (p_of (st_bIe (oc (by omega))) ?_))))))
          refine p_of (st_gRe (v := some 100) (hm3 48 100 rfl)) (p_of (st_aIe (v := Int32.ofNat (nw + 1)) if' ?_) (p_ret ⟨fun z => absurd z (by omega), fun _ z => absurd z ng, fun _ _ _ => ⟨rfl, m2, m3, by rw [e2, e1], tm, rfl⟩, fun z => absurd z (by omega), fun z => absurd z (by omega)⟩))
          rw [ti_sI_ne (by omega), o3 100 f (by omega) (by omega) (by omega), e2, ti_sI_ne (by omega), ti_sI_eq]
  unfold f_M_refresh
  refine p_of st_rv (p_b2 (p_isFam h46 (by omega) (by omega)) (fun x m' q => ?_))
  obtain ⟨q1, q2⟩ := Prod.mk.inj q
  rw [q2]
  rw [if_pos hf] at q1
  rw [q1]
  refine p_of (st_F one0) (p_of (st_gRe (hmf 48 100 rfl)) (p_of (st_aIe if' e100) (p_of (st_b2 (q_isIn m _ _ _)) ?_)))
  -- good and live, or not
  have look : ∀ x4 : Int32, (x4 = 0 → nw < num) → (x4 ≠ 0 → num ≤ nw) → Hp (f_M_refresh_B29 m (some 57) (Int32.ofNat f) (Int32.ofNat num) (1 : Int32) x4) (RFQ m f num nw se nt au cl sc) := fun x4 h4 h4' => by
    have no : (sI m 103 f = 0 ∨ sI m 89 se = 0) → Hp (f_M_refresh_B67 m (some 57) (Int32.ofNat f) (Int32.ofNat num) (1 : Int32) x4) (RFQ m f num nw se nt au cl sc) := fun hz => by
      unfold f_M_refresh_B67 f_M_refresh_B68
      have t := tail x4 0 0 h4 h4' (fun _ _ => hz) (fun _ z => absurd rfl z) (fun _ z => absurd rfl z) (fun z => absurd rfl z)
      by_cases c4 : x4 = 0
      · refine p_of (st_T c4) ?_
        unfold f_M_refresh_B94 f_M_refresh_B95
        exact p_of (st_T rfl) t
      · refine p_of (st_F c4) (p_of (st_T rfl) ?_)
        unfold f_M_refresh_B94 f_M_refresh_B95
        exact p_of (st_T rfl) t
    unfold f_M_refresh_B29
    refine p_of (st_F one0) (p_of (st_gRe (hmf 51 103 rfl)) (p_of (st_aIe if' rfl) ?_))
    rcases g01 with g | g
    · exact p_of (st_T g) (no (Or.inl g))
    · refine p_of (st_F (by rw [g]; decide)) (p_of (st_gRe (hmf 35 89 rfl)) (p_of (st_gRe (hmf 40 93 rfl)) (p_of (st_gRe (hmf 47 99 rfl)) (p_of (st_aIe if' e99) (p_of (st_aIe (oc (by omega)) e93) (p_of (st_aIe (oc (by omega)) rfl) ?_))))))
      rcases h01 with h | h
      · exact p_of (st_T h) (no (Or.inr h))
      · refine p_of (st_F (by rw [h]; decide)) ?_
        unfold f_M_refresh_B68
        by_cases c4 : x4 = 0
        · refine p_of (st_T c4) ?_
          unfold f_M_refresh_B94 f_M_refresh_B95
          exact p_of (st_T rfl) (tail x4 1 0 h4 h4' (fun z => absurd c4 z) (fun z => absurd c4 z) (fun z => absurd c4 z) (fun z => absurd rfl z))
        · refine p_of (st_F c4) (p_of (st_F one0) (p_of (st_gRe (hmf 48 100 rfl)) (p_of (st_aIe if' e100) ?_)))
          have hn := h4' c4
          by_cases d : num = nw
          · refine p_of (st_T (by rw [d])) ?_
            unfold f_M_refresh_B95
            exact p_of (st_F one0) (p_of (st_gIe h52) (p_of (st_F (fun z => by have := (oleq (a := 200) (b := nt) (by omega) (by omega)).mp z; omega)) (tail x4 1 1 h4 h4' (fun _ z => absurd z one0) (fun _ _ => ⟨g, h⟩) (fun _ _ z => absurd z one0) (fun _ => d))))
          · refine p_of (st_F (fun z => d (oinjq (by omega) (by omega) z))) ?_
            unfold f_M_refresh_B94 f_M_refresh_B95
            exact p_of (st_T rfl) (tail x4 1 0 h4 h4' (fun _ z => absurd z one0) (fun _ _ => ⟨g, h⟩) (fun _ _ _ => by omega) (fun z => absurd rfl z))
  by_cases c : num ≤ nw
  · rw [if_pos (c := (0 : Int32) ≤ Int32.ofNat num ∧ Int32.ofNat num ≤ Int32.ofNat nw) ⟨(oleq (a := 0) (by omega) (by omega)).mpr (Nat.zero_le _), (oleq (by omega) (by omega)).mpr c⟩]
    exact p_of (st_F one0) (look 1 (fun z => absurd z one0) (fun _ => c))
  · rw [if_neg (c := (0 : Int32) ≤ Int32.ofNat num ∧ Int32.ofNat num ≤ Int32.ofNat nw) (fun z => c ((oleq (by omega) (by omega)).mp z.2))]
    refine p_of (st_T rfl) ?_
    unfold f_M_refresh_B28
    exact look 0 (fun _ => by omega) (fun z => absurd rfl z)
section
variable {n r : Nat} {T : Nat → Nat} {S : AS}
theorem l_refresh (L : L54 n r T S) (hn : n ≤ 500) {y : Int32} : Ho (f_W_tokens S (some 4) (0 : Int32) y (some 127) (some 133) (some 134) (some 135) (some 136) (some 137) (some 138) (some 139) (some 140)) (G54 n r) := by
  obtain ⟨iv, rp, tl, pts, -, ns, nc, nf, nt, nk, na, lw⟩ := id L
  have lr := TL_LR iv.1 tl
  obtain ⟨⟨z1, z2, z3, z4, -⟩, ⟨now, aud, key, -⟩, -, -, -, ⟨sp, usd, lv, ssh⟩, ⟨cod, cfa, fam, num, god⟩, tok, -, ⟨-, tol⟩, -⟩ := id lw
  have n14 := z1.2.2
  have nc10 := z2.2.2
  have nf10 := z3.2.2
  have nt20 := z4.2.2
  obtain ⟨r127, -, -, -, -, -, r133, -, r135, r136, r137, -⟩ := id lr
  unfold f_W_tokens
  refine r_ifT rfl (o_aIe r127 (n := 3) rfl (by decide) z3.1 ?_)
  by_cases f0 : nf = 0
  · -- no family
    refine r_ifT (by rw [f0]; decide) ?_
    unfold f_W_tokens_B23
    refine o_aIe r127 (n := 3) rfl (by decide) z3.1 (r_ifT (by rw [f0]; decide) ?_)
    unfold f_W_tokens_B38
    refine r_ifT rfl ?_
    have fin : ∀ w : Int32, Ho (f_W_tokens_B86 S (some 4) (some 127) (some 133) (some 135) (some 136) (some 137) (some 139) (0 : Int32) (0 : Int32) (0 : Int32) w) (G54 n r) := fun w => by
      unfold f_W_tokens_B86
      refine r_ifT rfl ?_
      unfold f_W_tokens_B135 f_W_tokens_B136
      refine r_ifT rfl ?_
      unfold f_W_tokens_B160
      refine r_ifT rfl ?_
      unfold f_W_tokens_B239
      refine r_ifT rfl ?_
      unfold f_W_tokens_B333
      refine r_ifT rfl ?_
      unfold f_W_tokens_B356
      obtain ⟨c', v, S1, S2, T1, e1, e2, g, an⟩ := tg_refresh (a0 := Int32.ofNat 0) (a1 := w) iv (by omega) rp
      have bh := PK_BH L (LF_rf S) g (by decide +kernel) (by decide +kernel) (by decide +kernel)
      obtain ⟨-, -, -, -, kS, kS1, kG, mf⟩ := id bh
      obtain ⟨t, gk2⟩ := p_refresh_none ((kG 57 46 (by omega) (by omega) (by omega)).trans z3.2.1) f0 _ e2
      have gk : GK S S2 := GK_tr kG gk2
      exact o_b2 e1 (o_fin (ANc_k an (by decide) 0 rfl t) (BH_L bh (lPN_e pts (fun j => gk 73 j (by omega) (by omega) (by omega)) (gk 57 0 (by omega) (by omega) (by omega))) ⟨ns, nc, nf, nt, nk, na, LW_cong2 lw kS gk⟩))
    unfold f_W_tokens_B58
    refine o_some 3 rfl (by decide) (by decide) (fun u _ => ?_)
    by_cases d : Int32.ofNat u = 0
    · exact r_ifT d (o_some 2 rfl (by decide) (by decide) (fun w _ => fin _))
    · exact r_ifF d (fin _)
  · refine r_ifF (fun q => f0 (by have := (oleq (a := nf) (b := 0) (by omega) (by omega)).mp q; omega)) (o_aIe r127 (n := 3) rfl (by decide) z3.1 (o_some nf rfl (by omega) (by omega) (fun f hf => ?_)))
    unfold f_W_tokens_B23
    refine o_aIe r127 (n := 3) rfl (by decide) z3.1 (r_ifF (fun q => by have := (oleq (a := nf) (b := f) (by omega) (by omega)).mp q; omega) ?_)
    unfold f_W_tokens_B38
    obtain ⟨⟨nw, nwt, w1, m100⟩, ⟨w2, mi101⟩, w3⟩ := num f hf
    obtain ⟨co, hco, f0', m99⟩ := fam f hf
    obtain ⟨⟨se, hse, d0, m93⟩, ⟨cl, cl4, d1, m94⟩, ⟨au, au4, d2, m95⟩, ⟨sc, sc16, d3, m96⟩, -⟩ := cod co hco
    obtain ⟨g1, g2⟩ := god f hf
    refine r_ifF one0 (o_aIe r136 (n := 5 * f + 1) (wix 5 f 1) (by omega) w1 ?_)
    have fin : ∀ nu, nu ≤ nw + 1 → Ho (f_W_tokens_B86 S (some 4) (some 127) (some 133) (some 135) (some 136) (some 137) (some 139) (Int32.ofNat f) (1 : Int32) (Int32.ofNat nw) (Int32.ofNat nu)) (G54 n r) := fun nu hnu => by
      have prf : ∀ M q, MF M → GK S M → f_M_refresh M (some 57) (Int32.ofNat f) (Int32.ofNat nu) = some q → RFQ M f nu nw se nt au (Int32.ofNat cl) (Int32.ofNat sc) q := fun M q mf gk h => by
        have e : ∀ k j, 57 ≤ k → k < 126 → k ≠ 57 → sI M k j = sI S k j := fun k j h1 h2 h3 => gk k j h1 h2 (by omega)
        exact p_refresh mf ((gk 57 46 (by omega) (by omega) (by omega)).trans z3.2.1) nf10 hf ((gk 57 52 (by omega) (by omega) (by omega)).trans z4.2.1) nt20 (by omega) (by omega) ((e 100 f (by omega) (by omega) (by omega)).trans m100) ((e 99 f (by omega) (by omega) (by omega)).trans m99) (by omega) ((e 93 co (by omega) (by omega) (by omega)).trans m93) (by omega) (by rw [e 103 f (by omega) (by omega) (by omega)]; exact g2) (by rw [e 89 se (by omega) (by omega) (by omega)]; exact q01_liv lv hse) ((e 94 co (by omega) (by omega) (by omega)).trans m94) ((e 95 co (by omega) (by omega) (by omega)).trans m95) ((e 96 co (by omega) (by omega) (by omega)).trans m96) _ h
      -- no write of the law's
      have same : ∀ k : Int32, (∀ M q, MF M → GK S M → f_M_refresh M (some 57) (Int32.ofNat f) (Int32.ofNat nu) = some q → GK M q.2 ∧ ∀ c, ANc [-1001, -1002, -1003] c q.1 (sI q.2 57 82) → c = k) → Ho (f_W_tokens_B356 S (some 4) (Int32.ofNat f) (Int32.ofNat nu) k) (G54 n r) := fun k hk => by
        unfold f_W_tokens_B356
        obtain ⟨c', v, S1, S2, T1, e1, e2, g, an⟩ := tg_refresh (a0 := Int32.ofNat f) (a1 := Int32.ofNat nu) iv (by omega) rp
        have bh := PK_BH L (LF_rf S) g (by decide +kernel) (by decide +kernel) (by decide +kernel)
        obtain ⟨-, -, -, -, kS, kS1, kG, mf⟩ := id bh
        obtain ⟨gk2, hc⟩ := hk S1 _ mf kG e2
        have gk : GK S S2 := GK_tr kG gk2
        exact o_b2 e1 (o_fin (hc c' an) (BH_L bh (lPN_e pts (fun j => gk 73 j (by omega) (by omega) (by omega)) (gk 57 0 (by omega) (by omega) (by omega))) ⟨ns, nc, nf, nt, nk, na, LW_cong2 lw kS gk⟩))
      have e89 : ∀ M, GK S M → sI M 89 se = sI S 89 se := fun M gk => gk 89 se (by omega) (by omega) (by omega)
      have e103 : ∀ M, GK S M → sI M 103 f = sI S 103 f := fun M gk => gk 103 f (by omega) (by omega) (by omega)
      -- not able
      have cannot : (sI S 103 f = 0 ∨ sI S 89 se = 0) → Ho (f_W_tokens_B135 S (some 4) (some 127) (some 133) (some 135) (some 136) (some 137) (some 139) (Int32.ofNat f) (1 : Int32) (Int32.ofNat nw) (Int32.ofNat nu)) (G54 n r) := fun hz => by
        unfold f_W_tokens_B135 f_W_tokens_B136
        refine r_ifT rfl ?_
        unfold f_W_tokens_B160
        refine r_ifF one0 ?_
        by_cases le : nu ≤ nw
        · refine r_ifT ((oleq (by omega) (by omega)).mpr le) (r_ifT rfl ?_)
          unfold f_W_tokens_B239
          refine r_ifT rfl ?_
          unfold f_W_tokens_B333
          refine r_ifT rfl (same _ (fun M q mf gk h => ?_))
          obtain ⟨v1, v82, gk2⟩ := (prf M q mf gk h).2.1 le (by rw [e103 M gk, e89 M gk]; exact hz)
          exact ⟨gk2, fun c an => (ANc_0 an (by decide) v82).trans v1⟩
        · refine r_ifF (fun q => le ((oleq (by omega) (by omega)).mp q)) ?_
          unfold f_W_tokens_B239
          refine r_ifT rfl ?_
          unfold f_W_tokens_B333
          refine r_ifT rfl (same _ (fun M q mf gk h => ?_))
          obtain ⟨t, gk2⟩ := (prf M q mf gk h).1 (by omega)
          exact ⟨gk2, fun c an => ANc_k an (by decide) 1 rfl t⟩
      unfold f_W_tokens_B86
      refine r_ifF one0 (o_aIe r136 (n := 5 * f + 4) (wix 5 f 4) (by omega) g1 ?_)
      rcases g2 with g | g
      · exact r_ifF (by rw [g]; decide) (cannot (Or.inl g))
      · refine r_ifT g (o_aIe r136 (n := 5 * f) (wmul 5 f) (by omega) f0' (o_aIe r135 (n := 6 * co) (wmul 6 co) (by omega) d0 ?_))
        obtain ⟨-, -, o, oo, o2⟩ := sp se hse
        rcases lv se hse with ⟨l1, l2⟩ | ⟨l1, l2⟩
        · refine o_aIe r133 (n := 4 * se + 3) (wix 4 se 3) (by omega) (l2.trans o2) (r_ifF (fun q => by have := (oleq (a := 100) (b := o) (by omega) (by omega)).mp q; omega) ?_)
          unfold f_W_tokens_B136
          refine r_ifF one0 ?_
          by_cases eq : nu = nw
          · refine r_ifT (by rw [eq]) (o_aIe r127 (n := 4) rfl (by decide) z4.1 ?_)
            by_cases t20 : nt = 20
            · exact r_ifT (by rw [t20]; rfl) (G54_no L)
            · refine r_ifF (fun q => t20 (oinjq (a := nt) (b := 20) (by omega) (by omega) q)) ?_
              unfold f_W_tokens_B160
              refine r_ifF one0 (r_ifT ((oleq (by omega) (by omega)).mpr (by omega)) (r_ifF one0 (r_ifT (by rw [eq]) ?_)))
              unfold f_W_tokens_B239
              refine r_ifF one0 (r_ifT (by rw [eq]) (r_val ?_))
              have i1 : (5 : Int32) * Int32.ofNat f + (1 : Int32) = Int32.ofNat (5 * f + 1) := wix 5 f 1
              rw [i1]
              refine o_aIe r136 (n := 5 * f + 1) rfl (by omega) w1 (o_bI r136 (n := 5 * f + 1) rfl (by omega) ?_)
              rw [o1]
              refine o_aIe (v := sI S 127 0) r127.w (n := 0) rfl (by decide) (ti_sI_ne (by omega)) (o_bI r136.w (n := 5 * f + 2) (wix 5 f 2) (by omega) ?_)
              refine o_aIe r136.w.w (n := 5 * f) (wmul 5 f) (by omega) (by rw [ti_sI_ne (by omega), ti_sI_ne (by omega)]; exact f0') (o_aIe r135.w.w (n := 6 * co) (wmul 6 co) (by omega) (by rw [ti_sI_ne (by omega), ti_sI_ne (by omega)]; exact d0) (o_aIe (v := sI S 127 0) r127.w.w (n := 0) rfl (by decide) (by rw [ti_sI_ne (by omega), ti_sI_ne (by omega)]) (o_bI r133.w.w (n := 4 * se + 2) (wix 4 se 2) (by omega) ?_)))
              obtain ⟨Sb, eb⟩ : ∃ Sb, Sb = wI (wI (wI S 136 (5 * f + 1) (Int32.ofNat (nw + 1))) 136 (5 * f + 2) (sI S 127 0)) 133 (4 * se + 2) (sI S 127 0) := ⟨_, rfl⟩
              rw [← eb]
              have lb : LF S Sb := by rw [eb]; exact LF_w (LF_w (LF_w (LF_rf S) (by decide)) (by decide)) (by decide)
              have ob : ∀ k j, ¬ (k = 136 ∧ (j = 5 * f + 1 ∨ j = 5 * f + 2)) → ¬ (k = 133 ∧ j = 4 * se + 2) → sI Sb k j = sI S k j := fun k j y1 y2 => by
                rw [eb, ti_sI_ne (by omega), ti_sI_ne (by omega), ti_sI_ne (by omega)]
              have b1 : sI Sb 136 (5 * f + 1) = Int32.ofNat (nw + 1) := by rw [eb, ti_sI_ne (by omega), ti_sI_ne (by omega), ti_sI_eq]
              have b2 : sI Sb 136 (5 * f + 2) = sI S 127 0 := by rw [eb, ti_sI_ne (by omega), ti_sI_eq]
              have b3 : sI Sb 133 (4 * se + 2) = sI S 127 0 := by rw [eb, ti_sI_eq]
              refine o_aIe (lb.Rw r136) (n := 5 * f) (wmul 5 f) (by omega) ((ob 136 _ (by omega) (by omega)).trans f0') ?_
              refine o_b2 (x_what (lb.Rw r135) (by omega) ((ob 135 _ (by omega) (by omega)).trans d1) ((ob 135 _ (by omega) (by omega)).trans d2) ((ob 135 _ (by omega) (by omega)).trans d3)) ?_
              refine o_aIe (v := sI S 57 0) (lb.Rw r127) (n := 0) rfl (by decide) ((ob 127 0 (by omega) (by omega)).trans now.1) ?_
              refine r_b2 (x_makes (n := nt) (f := f) (lb.LR lr) (by omega) (by omega) ((ob 127 4 (by omega) (by omega)).trans z4.1)) (fun x Sa q => ?_)
              obtain ⟨-, tk⟩ := q
              have tk : TKW nt f (Int32.ofNat (cl + 10 * au + 100 * 0 + 1000 * sc)) (sI S 57 0 + 10) Sb Sa := tk
              have la : LF S Sa := LF_tr lb tk.1
              have oh := tk.2.1
              unfold f_W_tokens_B356
              obtain ⟨c', v, S1, S2, T1, e1, e2, g', an⟩ := tg_refresh (a0 := Int32.ofNat f) (a1 := Int32.ofNat nu) (LF_IV iv tl la) (by omega) (LF_RPF iv.1 tl rp la)
              have bh := PK_BH L la g' (by decide +kernel) (by decide +kernel) (by decide +kernel)
              obtain ⟨-, -, -, -, kS, kS1, kG, mf⟩ := id bh
              have gk0 : GK S S1 := GK_tr (LF_GK la) kG
              obtain ⟨v1, m1, m2, em1, tm, em3⟩ := (prf S1 _ mf gk0 e2).2.2.1 eq ((e103 S1 gk0).trans g) ((e89 S1 gk0).trans l1)
              have v1 : v = Int32.ofNat (nw + 1) := v1
              rw [gk0 57 0 (by omega) (by omega) (by omega)] at em1 tm em3
              have em3 : S2 = wI m2 87 se (sI S 57 0) := em3
              have om1 : ∀ k j, 57 ≤ k → k < 126 → ¬ (k = 57 ∧ (100 ≤ j ∨ j = 82)) → ¬ ((k = 100 ∨ k = 101) ∧ j = f) → sI m1 k j = sI S k j := fun k j h1 h2 h3 h4 => by
                rw [em1, ti_sI_ne (by omega), ti_sI_ne (by omega), ti_sI_ne (by omega)]
                exact gk0 k j h1 h2 h3
              have om2 : ∀ k j, ¬ (104 ≤ k ∧ k ≤ 110 ∧ j = nt) → ¬ (k = 102 ∧ j = f) → ¬ (k = 57 ∧ j = 52) → sI m2 k j = sI m1 k j := fun k j h1 h2 h3 => tm.1.2.2 k j (by omega) h2 h3
              have om3 : ∀ k j, ¬ (k = 87 ∧ j = se) → sI S2 k j = sI m2 k j := fun k j h => by rw [em3, ti_sI_ne h]
              have m100' : sI m1 100 f = Int32.ofNat (nw + 1) := by rw [em1, ti_sI_ne (by omega), ti_sI_eq]
              have m101' : sI m1 101 f = sI S 57 0 := by rw [em1, ti_sI_eq]
              have v82 : sI S2 57 82 = 0 := by rw [om3 57 82 (by omega), om2 57 82 (by omega) (by omega) (by omega), em1, ti_sI_ne (by omega), ti_sI_ne (by omega), ti_sI_eq]
              have oM : ∀ k j, 57 ≤ k → k < 126 → ¬ (k = 57 ∧ (100 ≤ j ∨ j = 82)) → ¬ ((k = 57 ∧ j = 52) ∨ (k = 87 ∧ j = se) ∨ (100 ≤ k ∧ k ≤ 102 ∧ j = f) ∨ (104 ≤ k ∧ k ≤ 110 ∧ j = nt)) → sI S2 k j = sI S k j := fun k j h1 h2 h3 h4 => by
                rw [om3 k j (by omega), om2 k j (by omega) (by omega) (by omega)]
                exact om1 k j h1 h2 h3 (by omega)
              have s2 : ∀ k j, 127 ≤ k → k < 141 → sI S2 k j = sI Sa k j := fun k j h1 h2 => by rw [kS k h1 h2]
              have oW : ∀ k j, 127 ≤ k → k < 141 → ¬ ((k = 127 ∧ j = 4) ∨ (k = 133 ∧ j = 4 * se + 2) ∨ (k = 136 ∧ 5 * f + 1 ≤ j ∧ j ≤ 5 * f + 3) ∨ (k = 137 ∧ 3 * nt ≤ j ∧ j < 3 * nt + 3)) → sI S2 k j = sI S k j := fun k j h1 h2 h3 => by
                rw [s2 k j h1 h2, oh k j (by omega) (by omega) (by omega)]
                exact ob k j (by omega) (by omega)
              have n10 : (sI S 57 0 + 10).toInt = (sI S 57 0).toInt + 10 := by
                have := now.2
                rw [Int32.toInt_add, show (10 : Int32).toInt = 10 from by decide, bm (by have := this.1; omega) (by have := this.2; omega)]
              have keyg : lKey nk Sb m1 := lKey_fr key (ob 127 6 (by omega) (by omega)) (ob 127 7 (by omega) (by omega)) (ob 127 8 (by omega) (by omega)) (om1 57 61 (by omega) (by omega) (by omega) (by omega)) (om1 57 62 (by omega) (by omega) (by omega) (by omega)) (om1 57 63 (by omega) (by omega) (by omega) (by omega)) (om1 57 0 (by omega) (by omega) (by omega) (by omega))
              have fm : ∀ k, 104 ≤ k → k ≤ 110 → sI m1 k = sI S k := fun k h1 h2 => funext fun j => om1 k j (by omega) (by omega) (by omega) (by omega)
              have tokg : lTok nf nk nt Sb m1 := lTok_fr tok (funext fun j => ob 137 j (by omega) (by omega)) (fm 104 (by omega) (by omega)) (fm 105 (by omega) (by omega)) (fm 106 (by omega) (by omega)) (fm 107 (by omega) (by omega)) (fm 108 (by omega) (by omega)) (fm 109 (by omega) (by omega)) (fm 110 (by omega) (by omega))
              obtain ⟨t1, t2, t3⟩ := tok_new (nf := nf) (nk := nk) tk tm hf cl4 au4 (by decide) sc16 (by rw [n10]; have := now.2.1; omega) (by rw [n10]; have := now.2.2; omega) (by omega) keyg tokg (fun i hi => by
                by_cases e : i = f
                · rw [e, b1, b2, m100', m101', now.1]
                  exact ⟨⟨nw + 1, by omega, rfl, rfl⟩, ⟨rfl, now.2⟩, fun z => absurd rfl z⟩
                · obtain ⟨n1, n2, n3⟩ := num i hi
                  rw [ob 136 _ (by omega) (by omega), ob 136 _ (by omega) (by omega), ob 136 _ (by omega) (by omega), om1 100 i (by omega) (by omega) (by omega) (by omega), om1 101 i (by omega) (by omega) (by omega) (by omega), om1 102 i (by omega) (by omega) (by omega) (by omega)]
                  exact ⟨sV_mono n1 (by omega), n2, fun _ => n3⟩)
              have c3 : ∀ k, k ≠ 87 → sI S2 k = sI m2 k := fun k h => funext fun j => om3 k j (by omega)
              have LL : L54 (n + 1) (r + 1) T1 S2 := BH_L bh (lPN_e pts (fun j => oM 73 j (by omega) (by omega) (by omega) (by omega)) (oM 57 0 (by omega) (by omega) (by omega) (by omega))) ⟨ns, nc, nf, nt + 1, nk, na, LWa_refresh lw (fun k j h1 h2 h3 => oW k j h1 h2 (by omega)) (fun k j h1 h2 h3 h4 => oM k j h1 h2 h3 (by omega)) (by omega) (lSz_fr t1 (s2 127 4 (by omega) (by omega)) (om3 57 52 (by omega))) (fun j hj => ?_) (lNum_fr t3 (fun j _ => s2 136 j (by omega) (by omega)) (c3 100 (by omega)) (c3 101 (by omega)) (c3 102 (by omega))) (lTok_fr t2 (kS 137 (by omega) (by omega)) (c3 104 (by omega)) (c3 105 (by omega)) (c3 106 (by omega)) (c3 107 (by omega)) (c3 108 (by omega)) (c3 109 (by omega)) (c3 110 (by omega)))⟩
              · refine o_b2 e1 (o_fin ?_ LL)
                rw [ANc_0 an (by decide) v82, v1, ← o1]
              · by_cases e : j = se
                · rw [e, s2 133 _ (by omega) (by omega), oh 133 _ (by omega) (by omega) (by omega), b3, em3, ti_sI_eq, now.1]
                  exact ⟨rfl, now.2⟩
                · rw [oW 133 _ (by omega) (by omega) (by omega), oM 87 j (by omega) (by omega) (by omega) (by omega)]
                  exact usd j hj
          · refine r_ifF (fun q => eq (oinjq (by omega) (by omega) q)) ?_
            unfold f_W_tokens_B160
            refine r_ifF one0 ?_
            have ne : ¬ Int32.ofNat nu = Int32.ofNat nw := fun q => eq (oinjq (by omega) (by omega) q)
            by_cases le : nu ≤ nw
            · refine r_ifT ((oleq (by omega) (by omega)).mpr le) (r_ifF one0 (r_ifF ne ?_))
              -- the family ends
              have ends : (nu + 1 = nw → (1 : Int32) < sI S 57 0 - sI S 101 f) → Ho (f_W_tokens_B238 S (some 4) (some 127) (some 133) (some 135) (some 136) (some 137) (some 139) (Int32.ofNat f) (Int32.ofNat nw) (Int32.ofNat nu) (1 : Int32)) (G54 n r) := fun hz => by
                unfold f_W_tokens_B238 f_W_tokens_B239
                refine r_ifF one0 (r_ifF ne ?_)
                unfold f_W_tokens_B333
                refine r_ifF one0 (r_ifT rfl ?_)
                have run : ∀ M q, MF M → GK S M → f_M_refresh M (some 57) (Int32.ofNat f) (Int32.ofNat nu) = some q → ∃ Sa, f_W_endFamily S (some 127) (some 136) (some 137) (some 139) (Int32.ofNat f) = some Sa ∧ q.1 = -1 ∧ EW ns nf S (wI M 57 82 0) Sa q.2 ∧ LW ns nc nf nt nk na S (wI M 57 82 0) := fun M q mf gk h => by
                  obtain ⟨m', h1, h2⟩ := (prf M q mf gk h).2.2.2.2 (by omega) ((e103 M gk).trans g) ((e89 M gk).trans l1) (by
                    rw [gk 57 0 (by omega) (by omega) (by omega), gk 101 f (by omega) (by omega) (by omega)]
                    exact hz)
                  have lw1 : LW ns nc nf nt nk na S (wI M 57 82 0) := LW_cong2 lw (fun _ _ _ => rfl) (GK_tr gk (GK_82 _ _))
                  obtain ⟨Sa, ea, ew, -⟩ := g_eF (LW_SW lw1 lr (MF_e mf rfl)) (LW_EW lw1) hf _ h1
                  rw [h2]
                  exact ⟨Sa, ea, rfl, ew, lw1⟩
                obtain ⟨q0, e0, -⟩ := mm_refresh (a1 := Int32.ofNat f) (a2 := Int32.ofNat nu) iv.1 (x57 iv) iv.2.1 (by have := iv.2.2.1; omega)
                obtain ⟨Sa, ea, -, ew0, -⟩ := run S q0 (MF_of iv.1) (GK_rf S) e0
                have la : LF S Sa := ew0.1
                refine o_bd ea ?_
                unfold f_W_tokens_B356
                obtain ⟨c', v, S1, S2, T1, e1, e2, g', an⟩ := tg_refresh (a0 := Int32.ofNat f) (a1 := Int32.ofNat nu) (LF_IV iv tl la) (by omega) (LF_RPF iv.1 tl rp la)
                have bh := PK_BH L la g' (by decide +kernel) (by decide +kernel) (by decide +kernel)
                obtain ⟨-, -, -, -, kS, kS1, kG, mf⟩ := id bh
                have gk0 : GK S S1 := GK_tr (LF_GK la) kG
                obtain ⟨Sa', ea', v1, ew, lw1⟩ := run S1 _ mf gk0 e2
                rw [ea] at ea'
                cases ea'
                have v1 : v = -1 := v1
                have ew : EW ns nf S (wI S1 57 82 0) Sa S2 := ew
                have om := ew.2.2.1.2.2
                have lw2 := LW_ends lw1 ew
                have g0 : ∀ k j, k = 73 ∨ (k = 57 ∧ j = 0) → sI S2 k j = sI S k j := fun k j h => by
                  rw [om k j (by omega) (by omega) (by omega) (by omega) (by omega) (by omega) (by omega), ti_sI_ne (by omega)]
                  exact gk0 k j (by omega) (by omega) (by omega)
                have v82 : sI S2 57 82 = 0 := by rw [om 57 82 (by omega) (by omega) (by omega) (by omega) (by omega) (by omega) (by omega), ti_sI_eq]
                exact o_b2 e1 (o_fin (by rw [ANc_0 an (by decide) v82, v1]) (BH_L bh (lPN_e pts (fun j => g0 73 j (Or.inl rfl)) (g0 57 0 (Or.inr ⟨rfl, rfl⟩))) ⟨ns, nc, nf, nt, nk, na, LW_cong2 lw2 kS (GK_rf _)⟩))
              by_cases d : nu + 1 = nw
              · refine r_ifT ((sub1_eq (by omega) (by omega)).mpr d) (o_aIe r127 (n := 0) rfl (by decide) now.1 (o_aIe r136 (n := 5 * f + 2) (wix 5 f 2) (by omega) w2 ?_))
                by_cases e : (1 : Int32) < sI S 57 0 - sI S 101 f
                · exact r_ifT ((two_le _).mpr e) (ends (fun _ => e))
                · refine r_ifF (fun q => e ((two_le _).mp q)) ?_
                  unfold f_W_tokens_B239
                  refine r_ifF one0 (r_ifF ne ?_)
                  unfold f_W_tokens_B333
                  have nm1 : ¬ Int32.ofNat nw = (-1 : Int32) := fun q => by
                    have := congrArg Int32.toInt q
                    rw [oiq (by omega), show (-1 : Int32).toInt = -1 from by decide] at this
                    omega
                  refine r_ifF one0 (r_ifF nm1 (same _ (fun M q mf gk h => ?_)))
                  obtain ⟨v1, v82, gk2⟩ := (prf M q mf gk h).2.2.2.1 (by omega) ((e103 M gk).trans g) ((e89 M gk).trans l1) d (by
                    rw [gk 57 0 (by omega) (by omega) (by omega), gk 101 f (by omega) (by omega) (by omega)]
                    exact e)
                  exact ⟨gk2, fun c an => (ANc_0 an (by decide) v82).trans v1⟩
              · exact r_ifF (fun q => d ((sub1_eq (by omega) (by omega)).mp q)) (ends (fun z => absurd z d))
            · refine r_ifF (fun q => le ((oleq (by omega) (by omega)).mp q)) ?_
              unfold f_W_tokens_B239
              refine r_ifF one0 (r_ifF ne ?_)
              unfold f_W_tokens_B333
              refine r_ifF one0 (r_ifF (by decide) (same _ (fun M q mf gk h => ?_)))
              obtain ⟨t, gk2⟩ := (prf M q mf gk h).1 (by omega)
              exact ⟨gk2, fun c an => ANc_k an (by decide) 1 rfl t⟩
        · exact o_aIe (v := Int32.ofNat (o + 100)) r133 (n := 4 * se + 3) (wix 4 se 3) (by omega) (l2.trans (by rw [o2]; exact wadd o 100)) (r_ifT ((oleq (a := 100) (b := o + 100) (by omega) (by omega)).mpr (by omega)) (cannot (Or.inr l1)))
    unfold f_W_tokens_B58
    refine o_some 3 rfl (by decide) (by decide) (fun u _ => ?_)
    by_cases d : Int32.ofNat u = 0
    · exact r_ifT d (o_some (nw + 2) (wadd nw 2) (by omega) (by omega) (fun w hw => fin w (by omega)))
    · exact r_ifF d (fin nw (by omega))
end
