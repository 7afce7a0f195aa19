/-! ===== publish ===== -/
def ka_PUB : List Nat := [100, 109, 202, 203, 300, 400, 600, 700, 800, 1000, 1001, 1002, 1003, 1004, 1100, 1200, 1300, 1303, 1304, 1305, 1306, 1307, 1308, 1310, 1311, 1400, 1500, 1600, 1700, 1701, 1702, 1703, 2202, 2302, 2402, 2502, 2602, 4300, 4304, 4305, 4306, 4401, 4402, 4403, 4404, 4405, 4406, 4407, 4408, 4409, 4410, 4411, 4501, 4502, 4503, 4504, 4505, 4506, 4601, 4602, 4603, 4604, 4800, 5200, 5201, 5202, 50500, 50900, 51301, 51302, 51309, 52101, 52201, 52301, 52401, 52501, 52601, 53100, 53200, 53300, 53400, 53500, 53600, 54204, 54301, 54302, 54303, 54400, 54500, 54600, 54700]
def ma_PUB : List Nat := [10000, 10019, 10030, 10039, 10046, 10052, 10060, 10061, 10062, 10063, 10070, 10077, 10081, 10100, 10200, 10300, 10400, 10500, 10600, 10700, 10800, 11700, 11800, 12900, 13100, 13200, 13300, 13400, 13500, 13600, 13700, 13800, 14000, 14100, 14200, 14300, 14400, 14500, 14700, 14800, 14900, 15000, 15100, 15300, 15400, 15500, 15600, 15700, 15800, 15900, 16400, 16500, 16600, 16700, 16800, 16900, 17100, 17200, 17300, 17400, 17500, 17600, 17800, 17900, 18000]
theorem FA_PUB {T T' Tm Tm' : Nat → Nat} {S S' m m' : AS} (hT : TV T S) (hm : TI Tm m) (h : FR S m) (k : Kp T T' ka_PUB S S') (q : Kp Tm Tm' ma_PUB m m') (xcVer : cVer S' m') (xcDrB : cDrB S' m') (xcAtt : cAtt S' m') (xcAst : cAst S' m') : FR S' m' := by
  have b := FR_BB hT hm h
  have K : ∀ {ds : List Nat}, ds.all (fun z => ka_PUB.contains z) = true → Kp T T' ds S S' := fun hs => Kp_sub k (fun z hz => List.contains_iff_mem.mp (List.all_eq_true.mp hs z hz))
  have Q : ∀ {ds : List Nat}, ds.all (fun z => ma_PUB.contains z) = true → Kp Tm Tm' ds m m' := fun hs => Kp_sub q (fun z hz => List.contains_iff_mem.mp (List.all_eq_true.mp hs z hz))
  exact ⟨cNW_fr b h.NW (K (by decide +kernel)) (Q (by decide +kernel)), cPF_fr b h.PF (K (by decide +kernel)) (Q (by decide +kernel)), cWgt_fr b h.Wgt (K (by decide +kernel)) (Q (by decide +kernel)), cFac_fr b h.Fac (K (by decide +kernel)) (Q (by decide +kernel)), cWrg_fr b h.Wrg (K (by decide +kernel)) (Q (by decide +kernel)), cKn_fr b h.Kn (K (by decide +kernel)) (Q (by decide +kernel)), cCon_fr b h.Con (K (by decide +kernel)) (Q (by decide +kernel)), cHlp_fr b h.Hlp (K (by decide +kernel)) (Q (by decide +kernel)), cAwy_fr b h.Awy (K (by decide +kernel)) (Q (by decide +kernel)), cPts_fr b h.Pts (K (by decide +kernel)) (Q (by decide +kernel)), cLnk_fr b h.Lnk (K (by decide +kernel)) (Q (by decide +kernel)), xcVer, xcDrB, xcAtt, xcAst, cAsh_fr b h.Ash (K (by decide +kernel)) (Q (by decide +kernel)), cSes_fr b h.Ses (K (by decide +kernel)) (Q (by decide +kernel)), cUsd_fr b h.Usd (K (by decide +kernel)) (Q (by decide +kernel)), cLiv_fr b h.Liv (K (by decide +kernel)) (Q (by decide +kernel)), cSsh_fr b h.Ssh (K (by decide +kernel)) (Q (by decide +kernel)), cMin_fr b h.Min (K (by decide +kernel)) (Q (by decide +kernel)), cCod_fr b h.Cod (K (by decide +kernel)) (Q (by decide +kernel)), cFre_fr b h.Fre (K (by decide +kernel)) (Q (by decide +kernel)), cFam_fr b h.Fam (K (by decide +kernel)) (Q (by decide +kernel)), cNum_fr b h.Num (K (by decide +kernel)) (Q (by decide +kernel)), cGod_fr b h.God (K (by decide +kernel)) (Q (by decide +kernel)), cTok_fr b h.Tok (K (by decide +kernel)) (Q (by decide +kernel)), cAud_fr b h.Aud (K (by decide +kernel)) (Q (by decide +kernel)), cSrv_fr b h.Srv (K (by decide +kernel)) (Q (by decide +kernel)), cNed_fr b h.Ned (K (by decide +kernel)) (Q (by decide +kernel)), cChe_fr b h.Che (K (by decide +kernel)) (Q (by decide +kernel)), cKey_fr b h.Key (K (by decide +kernel)) (Q (by decide +kernel)), cRec_fr b h.Rec (K (by decide +kernel)) (Q (by decide +kernel)), cAU_fr b h.AU (K (by decide +kernel)) (Q (by decide +kernel))⟩
theorem p_ho {α : Type} {x : Option α} {P : α → Prop} (h : Ho x P) : Hp x P := fun a ha => by
  obtain ⟨b, hb, p⟩ := h
  rw [ha] at hb
  cases hb
  exact p
def FL2 (S : AS) (k j : Nat) (S' : AS) : Prop := sN S' = sN S + 1 ∧ sR S' k j = some (sN S) ∧ (∀ p, p < sN S → sI S' p = sI S p) ∧ (∀ p i, p < sN S → ¬ (p = k ∧ i = j) → sR S' p i = sR S p i)
theorem p_one {β : Type} {S : AS} {k j : Nat} {F : AS → Option β} {Q : β → Prop} (H : ∀ S', FL2 S k j S' → Hp (F S') Q) : Hp ((nA S 40 (12 : Int32)).bind fun S2 => (pR S2 13 j (some k) (some (sN S))).bind F) Q := by
  refine p_of st_nA (p_of st_pR ?_)
  generalize (12 : Int32).toNatClampNeg = l
  refine H _ ⟨rfl, ti_sR_eq _ k j _, fun p hp => ?_, fun p i hp hn => ?_⟩
  · have e := ti_wN (S := S) (κ := 40) (l := l) (s := l) (k := p) (by omega)
    exact e.2.2.1
  · have e := ti_wN (S := S) (κ := 40) (l := l) (s := l) (k := p) (by omega)
    rw [ti_sR_ne hn, e.2.2.2.1]
theorem p_flI {S : AS} {k : Nat} (hk : k < sN S) : Hp (f_Flow_init S (some k)) (fun S' => (∀ p, p < sN S → sI S' p = sI S p) ∧ (∀ p i, p < sN S → p ≠ k → sR S' p i = sR S p i) ∧ ∀ j, j < 5 → sR S' k j = some (sN S + j)) := by
  unfold f_Flow_init
  refine p_of st_val (p_one (fun S1 h1 => p_one (fun S2 h2 => p_one (fun S3 h3 => p_one (fun S4 h4 => p_one (fun S5 h5 => p_ret ?_))))))
  obtain ⟨a1, b1, c1, d1⟩ := h1
  obtain ⟨a2, b2, c2, d2⟩ := h2
  obtain ⟨a3, b3, c3, d3⟩ := h3
  obtain ⟨a4, b4, c4, d4⟩ := h4
  obtain ⟨a5, b5, c5, d5⟩ := h5
  refine ⟨fun p hp => ?_, fun p i hp hn => ?_, fun j hj => ?_⟩
  · rw [c5 p (by omega), c4 p (by omega), c3 p (by omega), c2 p (by omega), c1 p (by omega)]
  · rw [d5 p i (by omega) (fun q => hn q.1), d4 p i (by omega) (fun q => hn q.1), d3 p i (by omega) (fun q => hn q.1), d2 p i (by omega) (fun q => hn q.1), d1 p i (by omega) (fun q => hn q.1)]
  · match j, hj with
    | 0, _ => rw [d5 k 0 (by omega) (fun q => absurd q.2 (by decide)), d4 k 0 (by omega) (fun q => absurd q.2 (by decide)), d3 k 0 (by omega) (fun q => absurd q.2 (by decide)), d2 k 0 (by omega) (fun q => absurd q.2 (by decide)), b1]; rfl
    | 1, _ => rw [d5 k 1 (by omega) (fun q => absurd q.2 (by decide)), d4 k 1 (by omega) (fun q => absurd q.2 (by decide)), d3 k 1 (by omega) (fun q => absurd q.2 (by decide)), b2, show sN S1 = sN S + 1 by omega]
    | 2, _ => rw [d5 k 2 (by omega) (fun q => absurd q.2 (by decide)), d4 k 2 (by omega) (fun q => absurd q.2 (by decide)), b3, show sN S2 = sN S + 2 by omega]
    | 3, _ => rw [d5 k 3 (by omega) (fun q => absurd q.2 (by decide)), b4, show sN S3 = sN S + 3 by omega]
    | 4, _ => rw [b5, show sN S4 = sN S + 4 by omega]
/-- what the class's publish leaves, place by place -/
def PBK (S S' : AS) (f d n : Nat) : Prop := ∃ z, sN S ≤ z ∧ (∀ p i, p < sN S → ¬ (p = 17 ∧ (i = 0 ∨ i = 2)) → sI S' p i = sI S p i) ∧ (∀ p i, p < sN S → ¬ (p = 17 ∧ i = 1) → ¬ (p = d ∧ i = n) → ¬ (p = 4 ∧ i = 5) → sR S' p i = sR S p i) ∧
  sI S' 17 2 = Int32.ofNat (n + 1) ∧ sR S' 4 5 = some z ∧ (∀ j, j < 5 → sR S' z j = some (z + 1 + j)) ∧ (∀ i, i < n → lel S' 17 i = lel S 17 i) ∧ lel S' 17 n = f
theorem p_pub55 {S : AS} {f d n : Nat} (k4 : K4F S) (hd : sR S 4 5 = some f) (hs : sI S 17 2 = Int32.ofNat n) (hr : sR S 17 1 = some d) (hn : n < 201) (hL : sL S d ≤ 400) (n4 : 4 < sN S) (n17 : 17 < sN S) (dn : d < sN S) (d17 : d ≠ 17) (d4 : d ≠ 4) : Hp (f_K_publish_B55 S (some 4) 1) (fun q => PBK S q.2 f d n) := by
  unfold f_K_publish_B55
  rw [rS1, bx_l]
  refine p_of (st_gRe (k4.1 6 17 rfl)) (p_of (st_gRe hd) (p_of st_rv (p_b2 (p_and (p_add (S := S) (l := 17) (d := d) (x := f) (n := n) hr hs hn hL n17 dn d17) (p_addL (S := S) (l := 17) (d := d) (x := f) (n := n) hr hs hn hL dn n17 d17)) (fun v S6 p => ?_))))
  obtain ⟨⟨p1, p2, p3, p4, p5⟩, q1, -, d', q3, q4, q5⟩ := p
  have p2 : sI S6 17 2 = Int32.ofNat (n + 1) := p2
  have q1 : sN S ≤ sN S6 := q1
  have q3 : sR S6 17 1 = some d' := q3
  have q5 : d' < sN S6 := q5
  have o8 : ∀ p, p < sN S6 → sI (nO S6 13) p = sI S6 p ∧ sR (nO S6 13) p = sR S6 p := fun p hp => by
    obtain ⟨a, b, -⟩ := nO_f S6 13 (k := p) (by omega)
    exact ⟨a, b⟩
  refine p_of st_nO (p_bd (p_flI (S := nO S6 13) (k := sN S6) (by rw [nO_N]; omega)) (fun S9 h9 => ?_))
  obtain ⟨a2, a3, a4⟩ := h9
  rw [nO_N] at a2 a3 a4
  refine p_of st_pR ?_
  obtain ⟨S10, e10⟩ : ∃ S10, S10 = wR S9 4 5 (some (sN S6)) := ⟨_, rfl⟩
  rw [← e10]
  have i10 : ∀ p, p < sN S6 → sI S10 p = sI S6 p := fun p hp => by
    rw [e10, sI_wR', a2 p (by omega), (o8 p hp).1]
  have r10 : ∀ p i, p < sN S6 → ¬ (p = 4 ∧ i = 5) → sR S10 p i = sR S6 p i := fun p i hp hn => by
    rw [e10, ti_sR_ne hn, a3 p i (by omega) (by omega), (o8 p hp).2]
  have z10 : ∀ j, j < 5 → sR S10 (sN S6) j = some (sN S6 + 1 + j) := fun j hj => by
    rw [e10, ti_sR_ne (by omega)]
    exact a4 j hj
  have d'4 : d' ≠ 4 := by
    rcases q4 with ⟨x, -⟩ | x
    · rw [x]
      exact d4
    · omega
  refine p_of (st_gRe (v := some 17) ((r10 4 6 (by omega) (by omega)).trans ((p3 4 6 n4 (by omega) (by omega)).trans (k4.1 6 17 rfl)))) (p_of st_rv (p_of st_size (p_ret ⟨sN S6, q1, fun p i hp hn => ?_, fun p i hp h1 h2 h3 => ?_, ?_, ?_, z10, fun i hi => ?_, ?_⟩)))
  · show sI S10 p i = _
    rw [i10 p (by omega)]
    exact p1 p i hp hn
  · show sR S10 p i = _
    rw [r10 p i (by omega) h3]
    exact p3 p i hp h1 h2
  · show sI S10 17 2 = _
    rw [i10 17 (by omega)]
    exact p2
  · show sR S10 4 5 = _
    rw [e10, ti_sR_eq]
  · have e : sR S6 ((sR S6 17 1).getD 0) i = sR S d i := p4 i hi
    rw [q3] at e
    have e : sR S6 d' i = sR S d i := e
    show lel S10 17 i = _
    unfold lel
    rw [r10 17 1 (by omega) (by omega), q3, hr]
    show (sR S10 d' i).getD 0 = (sR S d i).getD 0
    rw [r10 d' i q5 (by omega), e]
  · have e : sR S6 ((sR S6 17 1).getD 0) n = some f := p5
    rw [q3] at e
    have e : sR S6 d' n = some f := e
    show lel S10 17 n = _
    unfold lel
    rw [r10 17 1 (by omega) (by omega), q3]
    show (sR S10 d' n).getD 0 = f
    rw [r10 d' n q5 (by omega), e]
    rfl
theorem p_pubK {T : Nat → Nat} {S : AS} {f d n m : Nat} {r : Nat → Nat} (hT : TI T S) (dr : DR T S f m r) (hsr : SR S) (hs : sI S 17 2 = Int32.ofNat n) (hr : sR S 17 1 = some d) (hn : n < 201) (hL : sL S d ≤ 400) (n4 : 4 < sN S) (n17 : 17 < sN S) (dn : d < sN S) (d17 : d ≠ 17) (d4 : d ≠ 4) : Hp (f_K_publish S (some 4)) (fun q => (∃ e, q.1 = .inr e) ∨ PBK S q.2 f d n) := by
  have k4 := K4F_of hT
  have b54 : Hp (f_K_publish_B54 S (some 4)) (fun q => (∃ e, q.1 = .inr e) ∨ PBK S q.2 f d n) := by
    unfold f_K_publish_B54 f_K_publish_B55
    rw [rS0, bx_r]
    exact p_ret (Or.inl ⟨_, rfl⟩)
  unfold f_K_publish
  refine p_of (st_gRe (k4.1 6 17 rfl)) (p_of st_rv (p_of st_size (p_if (fun _ => ?_) (fun _ => ?_))))
  · unfold f_K_publish_B17
    rw [rS0, bx_r]
    exact p_ret (Or.inl ⟨_, rfl⟩)
  · unfold f_K_publish_B17
    rw [rS1, bx_l]
    refine p_of (st_gRe dr.1) (p_of st_gI (p_if (fun _ => b54) (fun _ => p_of (st_gRe dr.1) (p_of st_rv (p_b2 (p_ho (x_all hT dr hsr)) (fun v S2 p => ?_))))))
    obtain ⟨e, p⟩ := p
    have e : S2 = S := e
    rw [e]
    rcases p with ⟨p, hx1⟩ | ⟨p, -⟩
    · have p : v = 1 := p
      rw [p]
      refine p_of (st_F one0) (p_of (st_gRe dr.1) (p_of st_rv (p_b2 (p_ho (x_loop hT dr hsr hx1)) (fun v S3 p2 => ?_))))
      have e' : S3 = S := p2.1
      rw [e']
      exact p_if (fun _ => p_mono (p_pub55 k4 dr.1 hs hr hn hL n4 n17 dn d17 d4) (fun q h => Or.inr h)) (fun _ => b54)
    · have p : v = 0 := p
      rw [p]
      exact p_of (st_T rfl) b54
theorem PBK_wJ {S S' : AS} {f d n : Nat} (h : PBK S S' f d n) (v : Int64) : PBK S (wJ S' 126 0 v) f d n := h
