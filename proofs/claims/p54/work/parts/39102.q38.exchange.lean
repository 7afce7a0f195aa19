/-! ===== exchanging ===== -/
theorem sub16 : ∀ a, a < 16 → ∀ b, b < 16 → True := fun _ _ _ _ => trivial
theorem p_exchange_none {m : AS} {nt : Nat} {a x : Int32} (h52 : sI m 57 52 = Int32.ofNat nt) (h0 : nt = 0) : Hp (f_M_exchange m (some 57) (Int32.ofNat 0) a x) (fun q => sI q.2 57 82 = Int32.ofNat 1 ∧ GK m q.2) := by
  unfold f_M_exchange
  refine p_of st_rv (p_b2 (p_isTk h52 (by omega) (by omega)) (fun x' m' q => ?_))
  obtain ⟨q1, q2⟩ := Prod.mk.inj q
  rw [q2]
  rw [if_neg (by omega)] at q1
  rw [q1]
  refine p_of (st_T rfl) ?_
  unfold f_M_exchange_B19 f_M_exchange_B20
  refine p_of (st_T rfl) ?_
  unfold f_M_exchange_B54 f_M_exchange_B55
  refine p_of (st_T rfl) ?_
  unfold f_M_exchange_B113 f_M_exchange_B114
  refine p_of st_rv (p_b2 p_mayA (fun x m' q => ?_))
  rw [if_pos rfl] at q
  obtain ⟨q1, q2⟩ := Prod.mk.inj q
  rw [q1, q2]
  exact p_of (st_T rfl) (p_ret ⟨ti_sI_eq _ _ _ _, GK_82 _ _⟩)
/-- what an exchange does by the reference: token t of family fa (code co, session se), for au with the scopes of x -/
def fineX (x : Int32) (sc : Nat) : Prop := ((1 : Int32) ≤ x ∧ x ≤ (15 : Int32)) ∧ (x &&& (Int32.ofNat sc ^^^ (-1 : Int32))) = 0
def XQ (m : AS) (t fa se nt aud ao ac sc : Nat) (x : Int32) (q : Int32 × AS) : Prop := (¬ fineX x sc → sI q.2 57 82 = Int32.ofNat 2 ∧ GK m q.2) ∧ (fineX x sc → (sI m 110 t < sI m 57 0 ∨ sI m 103 fa = 0 ∨ 3 ≤ ac) → sI q.2 57 82 = Int32.ofNat 3 ∧ GK m q.2) ∧
  (fineX x sc → ¬ sI m 110 t < sI m 57 0 → sI m 103 fa = 1 → ac < 3 → ¬ sI m 92 aud ≤ LVL (shB (sI m 57 0) (sI m 90 (3 * se))) (shB (sI m 57 0) (sI m 90 (3 * se + 1))) (shB (sI m 57 0) (sI m 90 (3 * se + 2))) → q.1 = -2 ∧ sI q.2 57 82 = 0 ∧ GK m q.2) ∧
  (fineX x sc → ¬ sI m 110 t < sI m 57 0 → sI m 103 fa = 1 → ac < 3 → sI m 92 aud ≤ LVL (shB (sI m 57 0) (sI m 90 (3 * se))) (shB (sI m 57 0) (sI m 90 (3 * se + 1))) (shB (sI m 57 0) (sI m 90 (3 * se + 2))) → q.1 = Int32.ofNat nt ∧ TKM (wI m 57 82 0) q.2 fa nt aud (Int32.ofNat ao) x (Int32.ofNat (ac + 1)) (sI m 110 t))
theorem p_exchange {m : AS} {t fa co se nt aud ao ac sc : Nat} {x : Int32} (hmf : MF m) (h52 : sI m 57 52 = Int32.ofNat nt) (t20 : nt ≤ 20) (ht : t < nt) (a4 : aud < 4) (f10 : fa < 10) (e108 : sI m 108 t = Int32.ofNat fa) (e105 : sI m 105 t = Int32.ofNat ao) (ac4 : ac < 4) (e107 : sI m 107 t = Int32.ofNat ac) (e106 : sI m 106 t = Int32.ofNat sc) (g01 : q01 (sI m 103 fa)) (e99 : sI m 99 fa = Int32.ofNat co) (c10 : co < 10) (e93 : sI m 93 co = Int32.ofNat se) (s14 : se < 14) : Hp (f_M_exchange m (some 57) (Int32.ofNat t) (Int32.ofNat aud) x) (XQ m t fa se nt aud ao ac sc x) := by
  have it : (Int32.ofNat t).toNatClampNeg = t := oc (by omega)
  have ifa : (Int32.ofNat fa).toNatClampNeg = fa := oc (by omega)
  -- refused
  have bad : ∀ x5 : Int32, (x5 = 0 → ¬ fineX x sc) → (x5 ≠ 0 → fineX x sc ∧ (sI m 110 t < sI m 57 0 ∨ sI m 103 fa = 0 ∨ 3 ≤ ac)) → Hp (f_M_exchange_B113 m (some 57) (Int32.ofNat t) (Int32.ofNat aud) x (1 : Int32) x5) (XQ m t fa se nt aud ao ac sc x) := fun x5 h0 h1 => by
    unfold f_M_exchange_B113 f_M_exchange_B114
    refine p_of st_rv (p_b2 p_mayA (fun x' m' q => ?_))
    rw [if_neg one0] at q
    by_cases c : x5 = 0
    · rw [if_pos c] at q
      obtain ⟨q1, q2⟩ := Prod.mk.inj q
      rw [q1, q2]
      have nf := h0 c
      exact p_of (st_T rfl) (p_ret ⟨fun _ => ⟨ti_sI_eq _ _ _ _, GK_82 _ _⟩, fun z => absurd z nf, fun z => absurd z nf, fun z => absurd z nf⟩)
    · rw [if_neg c, if_pos rfl] at q
      obtain ⟨q1, q2⟩ := Prod.mk.inj q
      rw [q1, q2]
      obtain ⟨hf, hz⟩ := h1 c
      refine p_of (st_T rfl) (p_ret ⟨fun z => absurd hf z, fun _ _ => ⟨ti_sI_eq _ _ _ _, GK_82 _ _⟩, fun _ z1 z2 z3 => ?_, fun _ z1 z2 z3 => ?_⟩) <;>
      · rcases hz with z | z | z
        · exact absurd z z1
        · exact absurd (z.symm.trans z2) (by decide)
        · omega
  -- behind the look at the scopes
  have look : ∀ y0 : Int32, (y0 = 0 → ¬ fineX x sc) → (y0 ≠ 0 → fineX x sc) → Hp (f_M_exchange_B55 m (some 57) (Int32.ofNat t) (Int32.ofNat aud) x (1 : Int32) y0) (XQ m t fa se nt aud ao ac sc x) := fun y0 h0 h1 => by
    unfold f_M_exchange_B55
    refine p_of (st_F one0) (p_of (st_gIe rfl) (p_of (st_gRe (hmf 59 110 rfl)) (p_of (st_aIe it rfl) ?_)))
    by_cases a : sI m 110 t < sI m 57 0
    · exact p_of (st_T a) (bad y0 h0 (fun z => ⟨h1 z, Or.inl a⟩))
    · refine p_of (st_F a) (p_of (st_gRe (hmf 51 103 rfl)) (p_of (st_gRe (hmf 57 108 rfl)) (p_of (st_aIe it e108) (p_of (st_aIe ifa rfl) ?_))))
      rcases g01 with g | g
      · exact p_of (st_T g) (bad y0 h0 (fun z => ⟨h1 z, Or.inr (Or.inl g)⟩))
      · refine p_of (st_F (by rw [g]; decide)) (p_of (st_gRe (hmf 56 107 rfl)) (p_of (st_aIe it e107) ?_))
        by_cases d : 3 ≤ ac
        · exact p_of (st_T ((oleq (a := 3) (by omega) (by omega)).mpr d)) (bad y0 h0 (fun z => ⟨h1 z, Or.inr (Or.inr d)⟩))
        · refine p_of (st_F (fun z => d ((oleq (a := 3) (by omega) (by omega)).mp z))) (p_of (st_gIe h52) (p_of (st_F (fun z => by have := (oleq (a := 200) (b := nt) (by omega) (by omega)).mp z; omega)) ?_))
          by_cases c : y0 = 0
          · -- the scopes aren't fine: refused all the same
            have nf := h0 c
            unfold f_M_exchange_B114
            refine p_of st_rv (p_b2 p_mayA (fun x' m' q => ?_))
            rw [if_neg one0, if_pos c] at q
            obtain ⟨q1, q2⟩ := Prod.mk.inj q
            rw [q1, q2]
            exact p_of (st_T rfl) (p_ret ⟨fun _ => ⟨ti_sI_eq _ _ _ _, GK_82 _ _⟩, fun z => absurd z nf, fun z => absurd z nf, fun z => absurd z nf⟩)
          · have hf := h1 c
            have nz : ¬ (sI m 110 t < sI m 57 0 ∨ sI m 103 fa = 0 ∨ 3 ≤ ac) := fun z => by
              rcases z with z | z | z
              · exact a z
              · exact absurd (z.symm.trans g) (by decide)
              · exact d z
            unfold f_M_exchange_B114
            refine p_of st_rv (p_b2 p_mayA (fun x' m' q => ?_))
            rw [if_neg one0, if_neg c, if_neg one0] at q
            obtain ⟨q1, q2⟩ := Prod.mk.inj q
            rw [q1]
            obtain ⟨m1, e1⟩ : ∃ m1, m1 = wI m 57 82 0 := ⟨_, rfl⟩
            rw [q2, ← e1]
            have hm1 : MF m1 := by rw [e1]; exact MF_e hmf rfl
            have o : ∀ k j, ¬ (k = 57 ∧ j = 82) → sI m1 k j = sI m k j := fun k j z => by rw [e1, ti_sI_ne z]
            refine p_of (st_F one0) (p_of (st_gRe (hm1 57 108 rfl)) (p_of (st_aIe it ((o 108 t (by omega)).trans e108)) (p_of (st_gRe (hm1 40 93 rfl)) (p_of (st_gRe (hm1 47 99 rfl)) (p_of (st_aIe ifa ((o 99 fa (by omega)).trans e99)) (p_of (st_aIe (oc (by omega)) ((o 93 co (by omega)).trans e93)) (p_of st_rv (p_b2 (p_levelNow hm1 (by omega)) (fun v m' q => ?_)))))))))
            obtain ⟨q1, q2⟩ := Prod.mk.inj q
            rw [q1, q2, o 57 0 (by omega), o 90 _ (by omega), o 90 _ (by omega), o 90 _ (by omega)]
            refine p_of (st_gRe (hm1 38 92 rfl)) (p_of (st_aIe (oc (by omega)) (o 92 aud (by omega))) ?_)
            by_cases l : sI m 92 aud ≤ LVL (shB (sI m 57 0) (sI m 90 (3 * se))) (shB (sI m 57 0) (sI m 90 (3 * se + 1))) (shB (sI m 57 0) (sI m 90 (3 * se + 2)))
            · refine p_of (st_T l) (p_of (st_gRe (hm1 54 105 rfl)) (p_of (st_aIe it ((o 105 t (by omega)).trans e105)) (p_of (st_gRe (hm1 56 107 rfl)) (p_of (st_aIe it ((o 107 t (by omega)).trans e107)) (p_of (st_gRe (hm1 59 110 rfl)) (p_of (st_aIe it (o 110 t (by omega))) (p_of st_rv ?_)))))))
              rw [o1]
              refine p_b2 (p_tokM (f := fa) (n := nt) (to := aud) hm1 (by omega) (by omega) ((o 57 52 (by omega)).trans h52)) (fun v m' q => ?_)
              obtain ⟨v1, tm⟩ := q
              exact p_ret ⟨fun z => absurd hf z, fun _ z => absurd z nz, fun _ _ _ _ z => absurd l z, fun _ _ _ _ _ => ⟨v1, by rw [← e1]; exact tm⟩⟩
            · exact p_of (st_F l) (p_ret ⟨fun z => absurd hf z, fun _ z => absurd z nz, fun _ _ _ _ _ => ⟨rfl, by rw [e1]; exact ti_sI_eq _ _ _ _, by rw [e1]; exact GK_82 _ _⟩, fun _ _ _ _ z => absurd z l⟩)
  unfold f_M_exchange
  refine p_of st_rv (p_b2 (p_isTk h52 (by omega) (by omega)) (fun x' m' q => ?_))
  obtain ⟨q1, q2⟩ := Prod.mk.inj q
  rw [q2]
  rw [if_pos ht] at q1
  rw [q1]
  refine p_of (st_F one0) (p_of (st_b2 (q_ser m _)) ?_)
  rw [if_pos (in3 a4)]
  refine p_of (st_F one0) ?_
  unfold f_M_exchange_B20
  refine p_of (st_F one0) (p_of (st_b2 (q_isIn m _ _ _)) ?_)
  by_cases b : (1 : Int32) ≤ x ∧ x ≤ (15 : Int32)
  · rw [if_pos b]
    refine p_of (st_F one0) (p_of (st_gRe (hmf 55 106 rfl)) (p_of (st_aIe it e106) ?_))
    by_cases c : (x &&& (Int32.ofNat sc ^^^ (-1 : Int32))) = 0
    · exact p_of (st_T c) (look 1 (fun z => absurd z one0) (fun _ => ⟨b, c⟩))
    · refine p_of (st_F c) ?_
      unfold f_M_exchange_B54
      exact look 0 (fun _ z => c z.2) (fun z => absurd rfl z)
  · rw [if_neg b]
    refine p_of (st_T rfl) ?_
    unfold f_M_exchange_B54
    exact look 0 (fun _ z => b z.1) (fun z => absurd rfl z)
section
variable {n r : Nat} {T : Nat → Nat} {S : AS}
theorem l_exchange (L : L54 n r T S) (hn : n ≤ 500) {y : Int32} : Ho (f_W_tokens S (some 4) (1 : Int32) y (some 127) (some 133) (some 134) (some 135) (some 136) (some 137) (some 138) (some 139) (some 140)) (G54 n r) := by
  obtain ⟨iv, rp, tl, pts, -, ns, nc, nf, nt, nk, na, lw⟩ := id L
  have lr := TL_LR iv.1 tl
  obtain ⟨⟨z1, z2, z3, z4, -⟩, ⟨now, aud', key, -⟩, -, -, -, ⟨sp, usd, lv, ssh⟩, ⟨cod, cfa, fam, num, god⟩, tok, -, -, con⟩ := id lw
  have n14 := z1.2.2
  have nc10 := z2.2.2
  have nf10 := z3.2.2
  have nt20 := z4.2.2
  obtain ⟨r127, -, -, -, -, -, r133, r134, r135, r136, r137, -, -, r140⟩ := id lr
  -- with no token
  have none : nt = 0 → ∀ a x : Int32, Ho (f_W_tokens_B455 S (some 4) (some 127) (some 134) (some 135) (some 136) (some 137) (some 140) (0 : Int32) a x) (G54 n r) := fun t0 a x => by
    unfold f_W_tokens_B455
    refine o_aIe r127 (n := 4) rfl (by decide) z4.1 (r_ifT (by rw [t0]; rfl) ?_)
    obtain ⟨c', v, S1, S2, T1, e1, e2, g, an⟩ := tg_exchange (a0 := Int32.ofNat 0) (a1 := a) (a2 := x) iv (by omega) rp
    have bh := PK_BH L (LF_rf S) g (by decide +kernel) (by decide +kernel) (by decide +kernel)
    obtain ⟨-, -, -, -, kS, kS1, kG, mf⟩ := id bh
    obtain ⟨t, gk2⟩ := p_exchange_none ((kG 57 52 (by omega) (by omega) (by omega)).trans z4.2.1) t0 _ e2
    have gk : GK S S2 := GK_tr kG gk2
    exact o_b2 e1 (o_fin (ANc_k an (by decide) 0 rfl t) (BH_L bh (lPN_e pts (fun j => gk 73 j (by omega) (by omega) (by omega)) (gk 57 0 (by omega) (by omega) (by omega))) ⟨ns, nc, nf, nt, nk, na, LW_cong2 lw kS gk⟩))
  -- with token t
  have go : ∀ t, t < nt → ∀ aud, aud < 4 → ∀ w, w < 16 → Ho (f_W_tokens_B455 S (some 4) (some 127) (some 134) (some 135) (some 136) (some 137) (some 140) (Int32.ofNat t) (Int32.ofNat aud) (Int32.ofNat w)) (G54 n r) := fun t ht aud a4 w w16 => by
    obtain ⟨⟨cl, ao, ac, sc, cl4, ao4, ac4, sc16, t1, m104, m105, m107, m106⟩, ⟨fa, ke, hfa, hke, t2, m108, m109⟩, t3, u0, u1⟩ := tok t ht
    have nk10 : nk ≤ 10 := lw.1.2.2.2.2.1.2.2
    obtain ⟨co, hco, f0', m99⟩ := fam fa hfa
    obtain ⟨⟨se, hse, d0, m93⟩, -⟩ := cod co hco
    obtain ⟨g1, g2⟩ := god fa hfa
    obtain ⟨k1, k2, k3, k4⟩ := tk_all cl cl4 ao ao4 ac ac4 sc sc16
    obtain ⟨f1, f2⟩ := tf_all fa (by omega) ke (by omega)
    have pxq : ∀ M q, MF M → GK S M → f_M_exchange M (some 57) (Int32.ofNat t) (Int32.ofNat aud) (Int32.ofNat w) = some q → XQ M t fa se nt aud ao ac sc (Int32.ofNat w) q := fun M q mf gk h => by
      have e : ∀ k j, 57 ≤ k → k < 126 → k ≠ 57 → sI M k j = sI S k j := fun k j h1 h2 h3 => gk k j h1 h2 (by omega)
      exact p_exchange mf ((gk 57 52 (by omega) (by omega) (by omega)).trans z4.2.1) nt20 ht a4 (by omega) ((e 108 t (by omega) (by omega) (by omega)).trans m108) ((e 105 t (by omega) (by omega) (by omega)).trans m105) ac4 ((e 107 t (by omega) (by omega) (by omega)).trans m107) ((e 106 t (by omega) (by omega) (by omega)).trans m106) (by rw [e 103 fa (by omega) (by omega) (by omega)]; exact g2) ((e 99 fa (by omega) (by omega) (by omega)).trans m99) (by omega) ((e 93 co (by omega) (by omega) (by omega)).trans m93) (by omega) _ h
    -- no write of the law's
    have same : ∀ (x16 x18 y0 k : Int32), (x16 = 0 ∧ k = -1002 ∨ ¬ x16 = 0 ∧ x18 = 0 ∧ k = -1003 ∨ ¬ x16 = 0 ∧ ¬ x18 = 0 ∧ k = y0) → (∀ M q, MF M → GK S M → f_M_exchange M (some 57) (Int32.ofNat t) (Int32.ofNat aud) (Int32.ofNat w) = some q → GK M q.2 ∧ ∀ c, ANc [-1001, -1002, -1003] c q.1 (sI q.2 57 82) → c = k) → Ho (f_W_tokens_B735 S (some 4) (Int32.ofNat t) (Int32.ofNat aud) (Int32.ofNat w) x16 x18 y0) (G54 n r) := fun x16 x18 y0 k hx hk => by
      unfold f_W_tokens_B735
      obtain ⟨c', v, S1, S2, T1, e1, e2, g, an⟩ := tg_exchange (a0 := Int32.ofNat t) (a1 := Int32.ofNat aud) (a2 := Int32.ofNat w) iv (by omega) rp
      have bh := PK_BH L (LF_rf S) g (by decide +kernel) (by decide +kernel) (by decide +kernel)
      obtain ⟨-, -, -, -, kS, kS1, kG, mf⟩ := id bh
      obtain ⟨gk2, hc⟩ := hk S1 _ mf kG e2
      have gk : GK S S2 := GK_tr kG gk2
      have LL : L54 (n + 1) (r + 1) T1 S2 := BH_L bh (lPN_e pts (fun j => gk 73 j (by omega) (by omega) (by omega)) (gk 57 0 (by omega) (by omega) (by omega))) ⟨ns, nc, nf, nt, nk, na, LW_cong2 lw kS gk⟩
      have fin : Ho (f_W_tokens_B772 S2 c' k) (G54 n r) := by
        unfold f_W_tokens_B772
        exact o_fin (hc c' an) LL
      refine o_b2 e1 ?_
      rcases hx with ⟨h1, h2⟩ | ⟨h1, h2, h3⟩ | ⟨h1, h2, h3⟩
      · exact r_ifT h1 (by rw [← h2]; exact fin)
      · exact r_ifF h1 (r_ifT h2 (by rw [← h3]; exact fin))
      · exact r_ifF h1 (r_ifF h2 (by rw [← h3]; exact fin))
    have eq16 : ((1 : Int32) ≤ Int32.ofNat w ∧ Int32.ofNat w ≤ (15 : Int32)) ↔ 0 < w := ⟨fun h => by have := (oleq (a := 1) (b := w) (by omega) (by omega)).mp h.1; omega, fun h => ⟨(oleq (a := 1) (by omega) (by omega)).mpr h, (in15 w16).2⟩⟩
    unfold f_W_tokens_B455
    refine o_aIe r127 (n := 4) rfl (by decide) z4.1 (r_ifF (fun q => by have := oinjq (a := nt) (b := 0) (by omega) (by omega) q; omega) (o_aIe r137 (n := 3 * t + 1) (wix 3 t 1) (by omega) t2 (r_val ?_)))
    rw [f1]
    -- the scopes aren't fine
    have notfine : ¬ fineX (Int32.ofNat w) sc → Ho (f_W_tokens_B528 S (some 4) (some 127) (some 134) (some 135) (some 136) (some 137) (some 140) (Int32.ofNat t) (Int32.ofNat aud) (Int32.ofNat w) (Int32.ofNat fa)) (G54 n r) := fun hz => by
      unfold f_W_tokens_B528 f_W_tokens_B529
      refine o_aIe r137 (n := 3 * t) (wmul 3 t) (by omega) t1 (r_val (r_val (r_ifT rfl ?_)))
      unfold f_W_tokens_B589 f_W_tokens_B590
      refine r_ifT rfl ?_
      unfold f_W_tokens_B631 f_W_tokens_B632
      refine r_ifT rfl ?_
      unfold f_W_tokens_B652
      refine r_ifT rfl ?_
      unfold f_W_tokens_B667
      refine r_ifT rfl ?_
      unfold f_W_tokens_B733
      exact same 0 0 _ _ (Or.inl ⟨rfl, rfl⟩) (fun M q mf gk h => by
        obtain ⟨h1, h2⟩ := (pxq M q mf gk h).1 hz
        exact ⟨h2, fun c an => ANc_k an (by decide) 1 rfl h1⟩)
    by_cases w0 : w = 0
    · exact r_ifT (by rw [w0]; decide) (notfine (fun z => by have := eq16.mp z.1; omega))
    · refine r_ifF (fun q => by have := (oleq (a := w) (b := 0) (by omega) (by omega)).mp q; omega) (o_aIe r137 (n := 3 * t) (wmul 3 t) (by omega) t1 ?_)
      rw [k4]
      by_cases hs : (Int32.ofNat w &&& (Int32.ofNat sc ^^^ (-1 : Int32))) = 0
      · have fine : fineX (Int32.ofNat w) sc := ⟨eq16.mpr (by omega), hs⟩
        refine r_ifT hs ?_
        unfold f_W_tokens_B529
        refine o_aIe r137 (n := 3 * t) (wmul 3 t) (by omega) t1 (r_val (r_val (r_ifF one0 ?_)))
        rw [k3]
        -- it can't
        have cannot : (sI S 110 t < sI S 57 0 ∨ sI S 103 fa = 0 ∨ 3 ≤ ac) → Ho (f_W_tokens_B589 S (some 4) (some 127) (some 134) (some 135) (some 136) (some 137) (some 140) (Int32.ofNat t) (Int32.ofNat aud) (Int32.ofNat w) (Int32.ofNat fa) (1 : Int32) (Int32.ofNat ac)) (G54 n r) := fun hz => by
          unfold f_W_tokens_B589 f_W_tokens_B590
          refine r_ifT rfl ?_
          unfold f_W_tokens_B631 f_W_tokens_B632
          refine r_ifT rfl ?_
          unfold f_W_tokens_B652
          refine r_ifT rfl ?_
          unfold f_W_tokens_B667
          refine r_ifT rfl ?_
          unfold f_W_tokens_B733
          exact same 1 0 _ _ (Or.inr (Or.inl ⟨one0, rfl, rfl⟩)) (fun M q mf gk h => by
            obtain ⟨h1, h2⟩ := (pxq M q mf gk h).2.1 fine (by
              rw [gk 110 t (by omega) (by omega) (by omega), gk 57 0 (by omega) (by omega) (by omega), gk 103 fa (by omega) (by omega) (by omega)]
              exact hz)
            exact ⟨h2, fun c an => ANc_k an (by decide) 2 rfl h1⟩)
        refine o_aIe r137 (n := 3 * t + 2) (wix 3 t 2) (by omega) t3 (o_aIe r127 (n := 0) rfl (by decide) now.1 ?_)
        by_cases old : sI S 110 t < sI S 57 0
        · exact r_ifT old (cannot (Or.inl old))
        · refine r_ifF old (o_aIe r136 (n := 5 * fa + 4) (wix 5 fa 4) (by omega) g1 ?_)
          rcases g2 with g | g
          · exact r_ifF (by rw [g]; decide) (cannot (Or.inr (Or.inl g)))
          · refine r_ifT g ?_
            by_cases a3 : 3 ≤ ac
            · exact r_ifT ((oleq (a := 3) (by omega) (by omega)).mpr a3) (cannot (Or.inr (Or.inr a3)))
            · refine r_ifF (fun q => a3 ((oleq (a := 3) (by omega) (by omega)).mp q)) ?_
              unfold f_W_tokens_B590
              refine r_ifF one0 (o_aIe r136 (n := 5 * fa) (wmul 5 fa) (by omega) f0' (o_aIe r135 (n := 6 * co) (wmul 6 co) (by omega) d0 ?_))
              refine o_b2 (x_levelOf r127 r134 (by omega) (fun g g3 => by
                obtain ⟨h1, h2⟩ := ssh se hse g g3
                rw [h1]
                exact h2)) ?_
              rw [lvl_eq now ssh hse]
              obtain ⟨vn, vn7, n1, n2⟩ := (con aud a4).2.2
              refine o_aIe r140 (n := 16 + aud) (wadd 16 aud) (by omega) (n1.trans n2.symm) ?_
              have lvG : ∀ M, GK S M → (sI M 92 aud ≤ LVL (shB (sI M 57 0) (sI M 90 (3 * se))) (shB (sI M 57 0) (sI M 90 (3 * se + 1))) (shB (sI M 57 0) (sI M 90 (3 * se + 2))) ↔ sI S 92 aud ≤ LVL (shB (sI S 57 0) (sI S 90 (3 * se))) (shB (sI S 57 0) (sI S 90 (3 * se + 1))) (shB (sI S 57 0) (sI S 90 (3 * se + 2)))) := fun M gk => by
                rw [gk 92 aud (by omega) (by omega) (by omega), gk 57 0 (by omega) (by omega) (by omega), gk 90 _ (by omega) (by omega) (by omega), gk 90 _ (by omega) (by omega) (by omega), gk 90 _ (by omega) (by omega) (by omega)]
              have hg : ∀ M, GK S M → ¬ sI M 110 t < sI M 57 0 ∧ sI M 103 fa = 1 := fun M gk => by
                rw [gk 110 t (by omega) (by omega) (by omega), gk 57 0 (by omega) (by omega) (by omega), gk 103 fa (by omega) (by omega) (by omega)]
                exact ⟨old, g⟩
              by_cases hl : sI S 92 aud ≤ LVL (shB (sI S 57 0) (sI S 90 (3 * se))) (shB (sI S 57 0) (sI S 90 (3 * se + 1))) (shB (sI S 57 0) (sI S 90 (3 * se + 2)))
              · refine r_ifT hl ?_
                unfold f_W_tokens_B631 f_W_tokens_B632
                refine r_ifF one0 (r_ifT rfl (o_aIe r127 (n := 4) rfl (by decide) z4.1 ?_))
                by_cases t20 : nt = 20
                · exact r_ifT (by rw [t20]; rfl) (G54_no L)
                · have nt' : ¬ Int32.ofNat nt = (20 : Int32) := fun q => t20 (oinjq (a := nt) (b := 20) (by omega) (by omega) q)
                  refine r_ifF nt' ?_
                  unfold f_W_tokens_B652
                  refine r_ifF one0 (o_aIe r127 (n := 4) rfl (by decide) z4.1 (r_ifF nt' ?_))
                  unfold f_W_tokens_B667
                  refine r_ifF one0 (r_ifT rfl (o_aIe r137 (n := 3 * t) (wmul 3 t) (by omega) t1 (r_val (o_aIe r137 (n := 3 * t + 2) (wix 3 t 2) (by omega) t3 ?_))))
                  rw [k1]
                  have pk : ((Int32.ofNat ao + (10 : Int32) * Int32.ofNat aud) + (100 : Int32) * (Int32.ofNat ac + (1 : Int32))) + (1000 : Int32) * Int32.ofNat w = Int32.ofNat (ao + 10 * aud + 100 * (ac + 1) + 1000 * w) := by
                    rw [o1, show (10 : Int32) * Int32.ofNat aud = Int32.ofNat (10 * aud) from wmul 10 aud, show (100 : Int32) * Int32.ofNat (ac + 1) = Int32.ofNat (100 * (ac + 1)) from wmul 100 (ac + 1), show (1000 : Int32) * Int32.ofNat w = Int32.ofNat (1000 * w) from wmul 1000 w, wadd, wadd, wadd]
                  rw [pk]
                  refine r_b2 (x_makes (n := nt) (f := fa) lr (by omega) (by omega) z4.1) (fun x Sa q => ?_)
                  obtain ⟨vx, tk⟩ := q
                  have vx : x = Int32.ofNat nt := vx
                  have tk : TKW nt fa (Int32.ofNat (ao + 10 * aud + 100 * (ac + 1) + 1000 * w)) (sI S 110 t) S Sa := tk
                  have la : LF S Sa := tk.1
                  have oh := tk.2.1
                  unfold f_W_tokens_B735
                  obtain ⟨c', v, S1, S2, T1, e1, e2, g', an⟩ := tg_exchange (a0 := Int32.ofNat t) (a1 := Int32.ofNat aud) (a2 := Int32.ofNat w) (LF_IV iv tl la) (by omega) (LF_RPF iv.1 tl rp la)
                  have bh := PK_BH L la g' (by decide +kernel) (by decide +kernel) (by decide +kernel)
                  obtain ⟨-, -, -, -, kS, kS1, kG, mf⟩ := id bh
                  have gk0 : GK S S1 := GK_tr (LF_GK la) kG
                  obtain ⟨h1, h2⟩ := hg S1 gk0
                  obtain ⟨v1, tm⟩ := (pxq S1 _ mf gk0 e2).2.2.2 fine h1 h2 (by omega) ((lvG S1 gk0).mpr hl)
                  have v1 : v = Int32.ofNat nt := v1
                  rw [gk0 110 t (by omega) (by omega) (by omega)] at tm
                  obtain ⟨m1, em1⟩ : ∃ m1, m1 = wI S1 57 82 0 := ⟨_, rfl⟩
                  rw [← em1] at tm
                  have tm : TKM m1 S2 fa nt aud (Int32.ofNat ao) (Int32.ofNat w) (Int32.ofNat (ac + 1)) (sI S 110 t) := tm
                  have gk1 : GK S m1 := GK_tr gk0 (by rw [em1]; exact GK_82 _ _)
                  have om2 : ∀ k j, ¬ (104 ≤ k ∧ k ≤ 110 ∧ j = nt) → ¬ (k = 102 ∧ j = fa) → ¬ (k = 57 ∧ j = 52) → sI S2 k j = sI m1 k j := fun k j h1 h2 h3 => tm.1.2.2 k j (by omega) h2 h3
                  have v82 : sI S2 57 82 = 0 := by rw [om2 57 82 (by omega) (by omega) (by omega), em1, ti_sI_eq]
                  have oM : ∀ k j, 57 ≤ k → k < 126 → ¬ (k = 57 ∧ (100 ≤ j ∨ j = 82)) → ¬ ((k = 57 ∧ j = 52) ∨ (k = 102 ∧ j = fa) ∨ (104 ≤ k ∧ k ≤ 110 ∧ j = nt)) → sI S2 k j = sI S k j := fun k j h1 h2 h3 h4 => by
                    rw [om2 k j (by omega) (by omega) (by omega)]
                    exact gk1 k j h1 h2 h3
                  have s2 : ∀ k j, 127 ≤ k → k < 141 → sI S2 k j = sI Sa k j := fun k j h1 h2 => by rw [kS k h1 h2]
                  have oW : ∀ k j, 127 ≤ k → k < 141 → ¬ ((k = 127 ∧ j = 4) ∨ (k = 136 ∧ j = 5 * fa + 3) ∨ (k = 137 ∧ 3 * nt ≤ j ∧ j < 3 * nt + 3)) → sI S2 k j = sI S k j := fun k j h1 h2 h3 => by
                    rw [s2 k j h1 h2, oh k j (by omega) (by omega) (by omega)]
                  have fm : ∀ k, 58 ≤ k → k < 126 → sI m1 k = sI S k := fun k h1 h2 => funext fun j => gk1 k j (by omega) (by omega) (by omega)
                  have g57 : ∀ j, j < 100 → j ≠ 82 → sI m1 57 j = sI S 57 j := fun j h1 h2 => gk1 57 j (by omega) (by omega) (by omega)
                  obtain ⟨y1, y2, y3⟩ := tok_new (nf := nf) (nk := nk) (S := S) (m := m1) tk tm hfa ao4 a4 (by omega) w16 u0 u1 (by omega) (lKey_fr key rfl rfl rfl (g57 61 (by omega) (by omega)) (g57 62 (by omega) (by omega)) (g57 63 (by omega) (by omega)) (g57 0 (by omega) (by omega))) (lTok_fr tok rfl (fm 104 (by omega) (by omega)) (fm 105 (by omega) (by omega)) (fm 106 (by omega) (by omega)) (fm 107 (by omega) (by omega)) (fm 108 (by omega) (by omega)) (fm 109 (by omega) (by omega)) (fm 110 (by omega) (by omega))) (fun i hi => by
                    obtain ⟨n1, n2, n3⟩ := num i hi
                    rw [fm 100 (by omega) (by omega), fm 101 (by omega) (by omega), fm 102 (by omega) (by omega)]
                    exact ⟨sV_mono n1 (by omega), n2, fun _ => n3⟩)
                  have LL : L54 (n + 1) (r + 1) T1 S2 := BH_L bh (lPN_e pts (fun j => oM 73 j (by omega) (by omega) (by omega) (by omega)) (oM 57 0 (by omega) (by omega) (by omega) (by omega))) ⟨ns, nc, nf, nt + 1, nk, na, LWa_refresh lw (fun k j h1 h2 h3 => oW k j h1 h2 (by omega)) (fun k j h1 h2 h3 h4 => oM k j h1 h2 h3 (by omega)) (by omega) (lSz_fr y1 (s2 127 4 (by omega) (by omega)) rfl) (lUsd_fr usd (fun j _ => oW 133 j (by omega) (by omega) (by omega)) (funext fun j => oM 87 j (by omega) (by omega) (by omega) (by omega))) (lNum_fr y3 (fun j _ => s2 136 j (by omega) (by omega)) rfl rfl rfl) (lTok_fr y2 (kS 137 (by omega) (by omega)) rfl rfl rfl rfl rfl rfl rfl)⟩
                  refine o_b2 e1 (r_ifF one0 (r_ifF one0 ?_))
                  unfold f_W_tokens_B772
                  exact o_fin (by rw [ANc_0 an (by decide) v82, v1, vx]) LL
              · refine r_ifF hl ?_
                unfold f_W_tokens_B632
                refine r_ifF one0 (r_ifF one0 ?_)
                unfold f_W_tokens_B652
                refine r_ifF one0 (o_aIe r127 (n := 4) rfl (by decide) z4.1 ?_)
                by_cases t20 : nt = 20
                · exact r_ifT (by rw [t20]; rfl) (G54_no L)
                · refine r_ifF (fun q => t20 (oinjq (a := nt) (b := 20) (by omega) (by omega) q)) ?_
                  unfold f_W_tokens_B667
                  refine r_ifF one0 (r_ifF one0 ?_)
                  unfold f_W_tokens_B733
                  exact same 1 1 _ _ (Or.inr (Or.inr ⟨one0, one0, rfl⟩)) (fun M q mf gk h => by
                    obtain ⟨h1, h2⟩ := hg M gk
                    obtain ⟨v1, v82, gk2⟩ := (pxq M q mf gk h).2.2.1 fine h1 h2 (by omega) (fun z => hl ((lvG M gk).mp z))
                    exact ⟨gk2, fun c an => (ANc_0 an (by decide) v82).trans v1⟩)
      · exact r_ifF hs (notfine (fun z => hs z.2))
  unfold f_W_tokens
  refine r_ifF (by decide) (r_ifT rfl (o_aIe r127 (n := 4) rfl (by decide) z4.1 ?_))
  by_cases t0 : nt = 0
  · refine r_ifT (by rw [t0]; decide) ?_
    unfold f_W_tokens_B400
    refine o_some 4 rfl (by decide) (by decide) (fun aud _ => o_some 2 rfl (by decide) (by decide) (fun u _ => ?_))
    by_cases c : Int32.ofNat u = 0
    · exact r_ifT c (o_some 16 rfl (by decide) (by decide) (fun w _ => none t0 _ _))
    · exact r_ifF c (o_aIe r127 (n := 4) rfl (by decide) z4.1 (r_ifT (by rw [t0]; decide) (none t0 _ _)))
  · have pos : ¬ Int32.ofNat nt ≤ 0 := fun q => t0 (by have := (oleq (a := nt) (b := 0) (by omega) (by omega)).mp q; omega)
    refine r_ifF pos (o_aIe r127 (n := 4) rfl (by decide) z4.1 (o_some nt rfl (by omega) (by omega) (fun t ht => ?_)))
    unfold f_W_tokens_B400
    refine o_some 4 rfl (by decide) (by decide) (fun aud a4 => o_some 2 rfl (by decide) (by decide) (fun u _ => ?_))
    by_cases c : Int32.ofNat u = 0
    · exact r_ifT c (o_some 16 rfl (by decide) (by decide) (fun w w16 => go t ht aud a4 w w16))
    · obtain ⟨⟨cl, ao, ac, sc, cl4, ao4, ac4, sc16, t1, -⟩, -⟩ := tok t ht
      refine r_ifF c (o_aIe r127 (n := 4) rfl (by decide) z4.1 (r_ifF pos (o_aIe r137 (n := 3 * t) (wmul 3 t) (by omega) t1 ?_)))
      rw [(tk_all cl cl4 ao ao4 ac ac4 sc sc16).2.2.2]
      exact go t ht aud a4 sc sc16
end
