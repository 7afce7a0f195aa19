/-! ===== the whole relation between the law's calls; step, clear ===== -/
def ka_STP : List Nat := [100, 109, 202, 203, 300, 400, 600, 700, 800, 1000, 1001, 1002, 1003, 1004, 1100, 1200, 1300, 1303, 1304, 1305, 1306, 1307, 1308, 1310, 1311, 1400, 1500, 1600, 1700, 1701, 1702, 1703, 2002, 2102, 2202, 2302, 2402, 2502, 2602, 4201, 4202, 4300, 4304, 4305, 4306, 4401, 4402, 4403, 4404, 4405, 4406, 4407, 4408, 4409, 4410, 4411, 4501, 4502, 4503, 4504, 4505, 4506, 4601, 4602, 4603, 4604, 4800, 5200, 5201, 5202, 50500, 50900, 51301, 51302, 51309, 52001, 52101, 52201, 52301, 52401, 52501, 52601, 53000, 53100, 53200, 53300, 53400, 53500, 53600, 54200, 54203, 54204, 54301, 54302, 54303, 54400, 54500, 54600, 54700]
def ma_STP : List Nat := [10000, 10009, 10019, 10030, 10039, 10046, 10052, 10060, 10061, 10062, 10063, 10070, 10077, 10081, 10100, 10200, 10300, 10400, 10500, 10600, 10700, 10800, 11700, 11800, 12000, 12100, 12200, 12300, 12900, 13100, 13200, 13300, 13400, 13500, 13600, 13700, 13800, 14000, 14100, 14200, 14300, 14400, 14500, 14700, 14800, 14900, 15000, 15100, 15300, 15400, 15500, 15600, 15700, 15800, 15900, 16400, 16500, 16600, 16700, 16800, 16900, 17100, 17200, 17300, 17400, 17500, 17600, 17800, 17900, 18000]
theorem FA_STP {T T' Tm Tm' : Nat → Nat} {S S' m m' : AS} (hT : TV T S) (hm : TI Tm m) (h : FR S m) (k : Kp T T' ka_STP S S') (q : Kp Tm Tm' ma_STP m m') (xcVer : cVer S' m') (xcDrB : cDrB S' m') (xcAst : cAst S' m') : FR S' m' := by
  have b := FR_BB hT hm h
  have K : ∀ {ds : List Nat}, ds.all (fun z => ka_STP.contains z) = true → Kp T T' ds S S' := fun hs => Kp_sub k (fun z hz => List.contains_iff_mem.mp (List.all_eq_true.mp hs z hz))
  have Q : ∀ {ds : List Nat}, ds.all (fun z => ma_STP.contains z) = true → Kp Tm Tm' ds m m' := fun hs => Kp_sub q (fun z hz => List.contains_iff_mem.mp (List.all_eq_true.mp hs z hz))
  exact ⟨cNW_fr b h.NW (K (by decide +kernel)) (Q (by decide +kernel)), cPF_fr b h.PF (K (by decide +kernel)) (Q (by decide +kernel)), cWgt_fr b h.Wgt (K (by decide +kernel)) (Q (by decide +kernel)), cFac_fr b h.Fac (K (by decide +kernel)) (Q (by decide +kernel)), cWrg_fr b h.Wrg (K (by decide +kernel)) (Q (by decide +kernel)), cKn_fr b h.Kn (K (by decide +kernel)) (Q (by decide +kernel)), cCon_fr b h.Con (K (by decide +kernel)) (Q (by decide +kernel)), cHlp_fr b h.Hlp (K (by decide +kernel)) (Q (by decide +kernel)), cAwy_fr b h.Awy (K (by decide +kernel)) (Q (by decide +kernel)), cPts_fr b h.Pts (K (by decide +kernel)) (Q (by decide +kernel)), cLnk_fr b h.Lnk (K (by decide +kernel)) (Q (by decide +kernel)), xcVer, xcDrB, cAtt_fr b h.Att (K (by decide +kernel)) (Q (by decide +kernel)), xcAst, cAsh_fr b h.Ash (K (by decide +kernel)) (Q (by decide +kernel)), cSes_fr b h.Ses (K (by decide +kernel)) (Q (by decide +kernel)), cUsd_fr b h.Usd (K (by decide +kernel)) (Q (by decide +kernel)), cLiv_fr b h.Liv (K (by decide +kernel)) (Q (by decide +kernel)), cSsh_fr b h.Ssh (K (by decide +kernel)) (Q (by decide +kernel)), cMin_fr b h.Min (K (by decide +kernel)) (Q (by decide +kernel)), cCod_fr b h.Cod (K (by decide +kernel)) (Q (by decide +kernel)), cFre_fr b h.Fre (K (by decide +kernel)) (Q (by decide +kernel)), cFam_fr b h.Fam (K (by decide +kernel)) (Q (by decide +kernel)), cNum_fr b h.Num (K (by decide +kernel)) (Q (by decide +kernel)), cGod_fr b h.God (K (by decide +kernel)) (Q (by decide +kernel)), cTok_fr b h.Tok (K (by decide +kernel)) (Q (by decide +kernel)), cAud_fr b h.Aud (K (by decide +kernel)) (Q (by decide +kernel)), cSrv_fr b h.Srv (K (by decide +kernel)) (Q (by decide +kernel)), cNed_fr b h.Ned (K (by decide +kernel)) (Q (by decide +kernel)), cChe_fr b h.Che (K (by decide +kernel)) (Q (by decide +kernel)), cKey_fr b h.Key (K (by decide +kernel)) (Q (by decide +kernel)), cRec_fr b h.Rec (K (by decide +kernel)) (Q (by decide +kernel)), cAU_fr b h.AU (K (by decide +kernel)) (Q (by decide +kernel))⟩
def RPF (T : Nat → Nat) (S : AS) : Prop := (∃ f n r, DR T S f n r) ∧ T 1 = 52 ∧ FR S S
theorem z_RPF : RPF kr_T0 kr_Z := by
  refine ⟨⟨11, 0, z_r, by decide +kernel, by decide +kernel, by decide, by decide +kernel, by decide +kernel, ?_, fun i j _ _ e => by unfold z_r at e; omega, fun j k _ h => absurd h (Nat.not_lt_zero _)⟩, by decide +kernel, z_FR⟩
  intro j hj
  match j, hj with
  | 0, _ => exact ⟨by decide +kernel, by decide +kernel⟩
  | 1, _ => exact ⟨by decide +kernel, by decide +kernel⟩
  | 2, _ => exact ⟨by decide +kernel, by decide +kernel⟩
  | 3, _ => exact ⟨by decide +kernel, by decide +kernel⟩
  | 4, _ => exact ⟨by decide +kernel, by decide +kernel⟩
theorem k_FR_82 : ¬ cl 100 82 ∈ k_FR := by decide +kernel
theorem m_FR_82' : ¬ cl 100 82 ∈ m_FR := by decide +kernel
/-- a refused call -/
theorem FR_no {T : Nat → Nat} {S : AS} (hT : TV T S) (h : FR S S) (v : Int32) : FR (wI (wX S) 57 82 v) (wI (wX S) 57 82 v) := by
  have k : ∀ {cs : List Nat}, ¬ cl 100 82 ∈ cs → Kp T T cs S (wI (wX S) 57 82 v) := fun q => Kp_tr (S' := wX S) ⟨fun _ _ => rfl, fun _ _ _ _ => rfl, fun _ _ _ _ => rfl⟩ (Kp_wI v hT.1.t9.1 q)
  exact FR_fr hT hT.1 h (k k_FR_82) (k m_FR_82')
theorem DR_no {T T1 : Nat → Nat} {S : AS} {f n : Nat} {r : Nat → Nat} (dr : DR T S f n r) (ty : ∀ k, T k ≠ 0 → T1 k = T k) (hT1 : TI T1 (wX S)) (v : Int32) : DR T1 (wI (wX S) 57 82 v) f n r := DR_fr (DR_X (DR_T dr ty)) (thr_Rl hT1 (x := some 57) ⟨_, rfl, hT1.t9.1, by decide⟩ v) (by decide +kernel)
theorem ver_same {T : Nat → Nat} {S S2 : AS} (h : cVer S S) (sz : SZ 17 9 8 S2 S2) (en : nV S2 = nV S) (el : ∀ v, v < nV S → lel S2 17 v = lel S 17 v) (ed : fa S2 4 5 = fa S 4 5) (ef : ∀ v j, v < nV S → j < 5 → fa S2 (lel S 17 v) j = fa S (lel S 17 v) j) (edf : ∀ j, j < 5 → fa S2 (fa S 4 5) j = fa S (fa S 4 5) j)
    (i1 : ∀ v, v < nV S → sI S2 (lel S 17 v) 5 = sI S (lel S 17 v) 5) (i2 : ∀ v j k, v < nV S → j < 5 → sI S2 (fa S (lel S 17 v) j) k = sI S (fa S (lel S 17 v) j) k) (m6 : ∀ v, v < 8 → sI S2 66 v = sI S 66 v) (mr : ∀ j i, j < 5 → i < 96 → sI S2 (67 + j) i = sI S (67 + j) i) : cVer S2 S2 := by
  have n8 : nV S ≤ 8 := h.1.1
  refine ⟨sz, fun v hv => ?_⟩
  rw [en] at hv
  obtain ⟨⟨n, g1, g2, g3, g4, g5⟩, h2, h3, h4, h5⟩ := h.2 v hv
  rw [el v hv, ed]
  refine ⟨⟨n, g1, g2, (i1 v hv).trans g3, (m6 v (by omega)).trans g4, fun j k hj hk => ?_⟩, fun k hk hz => ?_, h3, fun j i hj hi => ?_, fun u hu e => ?_⟩
  · rw [ef v j hv hj, i2 v j k hv hj, mr j _ hj (by omega)]
    exact g5 j k hj hk
  · rw [m6 v (by omega), g4, oi (by omega)] at hk
    have e0 := mr 0 (12 * v + k) (by omega) (by omega)
    have e2 := mr 2 (12 * v + k) (by omega) (by omega)
    have e0 : sI S2 67 (12 * v + k) = sI S 67 (12 * v + k) := e0
    have e2 : sI S2 69 (12 * v + k) = sI S 69 (12 * v + k) := e2
    rw [e0] at hz
    rw [e2]
    exact h2 k (by rw [g4, oi (by omega)]; exact hk) hz
  · rw [ef v j hv hj, edf i hi]
    exact h4 j i hj hi
  · rw [en] at hu
    rw [el u hu] at e
    exact h5 u hu e
/-- attempts stand below the draft's row -/
theorem ast_idx {T : Nat → Nat} {S : AS} (hT : TI T S) (h : FR S S) {a : Nat} (ha : a < uA S) : 12 * nn (sI S 78 a) + nn (sI S 79 a) < 96 := by
  obtain ⟨-, -, -, -, ⟨v, v1, -, v3⟩, -⟩ := h.Att.2 a ha
  have n8 : nV S ≤ 8 := h.Ver.1.1
  have a60 : a < 60 := by
    have := h.Att.1.1
    unfold uA at ha
    omega
  obtain ⟨-, t79, -⟩ := md_at hT (j := 24) (p := 79) rfl rfl
  obtain ⟨g1, g2⟩ := hT.t5 79 a 60 (-1) 11 (by rw [t79]; rfl) a60
  rw [v3, nn_o (by omega)]
  have : nn (sI S 79 a) ≤ 11 := by
    unfold nn
    by_cases c : 0 ≤ (sI S 79 a).toInt
    · have := natI c
      omega
    · have e : (sI S 79 a).toInt = -1 := by omega
      have : sI S 79 a = -1 := Int32.toInt_inj.mp (by rw [e]; decide)
      rw [this]
      decide
  omega
theorem pr_clear {n : Nat} {T T1 : Nat → Nat} {S S1 S2 : AS} {k v : Int32} (hI : IV n T S) (hr : RPF T S) (e1 : f_K_clear S (some 4) = some (k, S1)) (g1 : Rl T (99999 :: kw_K42) S 10 700 T1 S1) (e2 : f_M_clear S1 (some 57) = some (v, S2)) (g2 : Rl T1 kw_st S1 1 0 T1 S2) : k = v ∧ RPF T1 S2 := by
  obtain ⟨⟨f, m, r, dr⟩, t1, h⟩ := hr
  have hT : TV T S := ⟨hI.1, t1⟩
  have t57 : Tx T 100 (some 57) := ⟨_, rfl, hI.1.t9.1, by decide⟩
  have t57' : Tx T1 100 (some 57) := ⟨_, rfl, g1.1.t9.1, by decide⟩
  have t1' : T1 1 = 52 := (g1.ty 1 (by rw [t1]; decide)).trans t1
  obtain ⟨K4, Kf, Kr, f57, k6, r57⟩ := DR_K hI.1 dr
  have m12 := dr.2.2.1
  obtain ⟨k57, kk⟩ := k_keeps hI.1 g1 t57 (by decide +kernel)
  have hs8 : (sI S1 66 8).toInt = (m : Int) := by
    rw [kk 10 110 66 rfl rfl (by decide) (by decide) (by decide) 8, dr.2.2.2.2.1]
    exact oi (by omega)
  rw [x_K_clear hI.1 dr] at e1
  obtain ⟨ek, eS⟩ := Prod.mk.inj (Option.some.inj e1)
  obtain ⟨q2, hq2, -, p2⟩ := t_M_clearX g1.1 t57' m12 hs8
  rw [e2] at hq2
  cases hq2
  obtain ⟨ev, eS2⟩ := Prod.mk.inj p2
  have r2 : sR S2 = sR S := by rw [eS2, ← eS]; rfl
  have oS : ∀ {p i : Nat}, ¬ (p = f ∧ i = 5) → ¬ (p = 57 ∧ i = 82) → ¬ (p = 66 ∧ i = 8) → sI S2 p i = sI S p i := fun z1 z2 z3 => by
    rw [eS2, ti_sI_ne z3, ti_sI_ne z2, ← eS, ti_sI_ne z1]
  have bb := FR_BB hT hI.1 h
  have t66 := (md_ty hI.1 (j := 10) (p := 66) rfl rfl).1
  have kS : ∀ {cs : List Nat}, ¬ 4005 ∈ cs → ¬ 10082 ∈ cs → ¬ 11000 ∈ cs → Kp T T cs S S2 := fun h1 h2 h3 => by
    rw [eS2, ← eS]
    exact Kp_tr (Kp_wI _ dr.2.1 (by rw [show cl 40 5 = 4005 by decide]; exact h1)) (Kp_tr (Kp_wI _ hI.1.t9.1 (by rw [show cl 100 82 = 10082 by decide]; exact h2)) (Kp_wA _ t66 (by decide) h3))
  have fD : fa S 4 5 = f := by
    unfold fa
    rw [dr.1]
    rfl
  have el : ∀ l i, lel S2 l i = lel S l i := fun l i => by
    unfold lel
    rw [r2]
  have ef : ∀ p i, fa S2 p i = fa S p i := fun p i => by
    unfold fa
    rw [r2]
  have eV : nV S2 = nV S := by
    unfold nV
    rw [oS (by omega) (by omega) (by omega)]
  have t17 : T 17 = 20 := (hI.1.t6 0 (by decide)).1
  have s8 : sI S2 66 8 = 0 := by rw [eS2, ti_sI_eq]
  refine ⟨?_, ⟨f, 0, r, ?_, (g1.ty f (by rw [dr.2.1]; decide)).trans dr.2.1, by omega, ?_, s8, fun j hj => ⟨?_, (g1.ty _ (by rw [(dr.2.2.2.2.2.1 j hj).2]; decide)).trans (dr.2.2.2.2.2.1 j hj).2⟩, dr.2.2.2.2.2.2.1, fun j i _ hi => absurd hi (Nat.not_lt_zero _)⟩, t1', FA_STP hT hI.1 h (kS (by decide) (by decide) (by decide)) (kS (by decide) (by decide) (by decide)) ?_ (fun i hi => ?_) ?_⟩
  · rw [← ek, ev]
  · rw [r2]
    exact dr.1
  · rw [eS2, ti_sI_ne (fun q => (k6 66 (by decide) (by decide)).1 q.1.symm), ti_sI_ne (fun q => f57 q.1), ← eS, ti_sI_eq]
    rfl
  · rw [r2]
    exact (dr.2.2.2.2.2.1 j hj).1
  · refine ver_same (T := T) h.Ver ?_ eV (fun w _ => el 17 w) (ef 4 5) (fun w j _ _ => ef _ j) (fun j _ => ef _ j) (fun w hw => oS (fun q => (h.Ver.2 w hw).2.2.1 (by rw [fD]; exact q.1)) (by omega) (by omega)) (fun w j i hw hj => ?_) (fun w hw => oS (fun q => (k6 66 (by decide) (by decide)).1 q.1) (by omega) (by omega)) (fun j i hj hi => oS (fun q => (k6 (67 + j) (by omega) (by omega)).1 q.1) (by omega) (by omega))
    · obtain ⟨z1, z2, z3⟩ := h.Ver.1
      refine ⟨?_, ?_, ?_⟩
      · rw [oS (by omega) (by omega) (by omega)]
        exact z1
      · rw [oS (by omega) (by omega) (by omega)]
        exact z2
      · rw [oS (by omega) (by omega) (by omega), oS (by omega) (by omega) (by omega)]
        exact z3
    · have tw := (tyW hI.1 (tyV bb hw) hj).2
      exact oS (fun q => by
        rw [q.1, dr.2.1] at tw
        exact absurd tw (by decide)) (fun q => by
        rw [q.1, hI.1.t9.1] at tw
        exact absurd tw (by decide)) (fun q => by
        rw [q.1, t66] at tw
        exact absurd tw (by decide))
  · rw [s8] at hi
    exact absurd hi (by
      rw [show (0 : Int32).toInt = 0 from by decide]
      omega)
  · have eA' : uA S2 = uA S := by
      unfold uA
      rw [oS (by omega) (by omega) (by omega)]
    refine ast_same h.Ast eA' (fun w _ => el 18 w) (fun w j hw => ?_) (fun q j hq => oS (fun z => ?_) (by omega) (by omega))
    · have tw := tyA bb hw
      exact oS (fun q => by
        rw [q.1, dr.2.1] at tw
        exact absurd tw (by decide)) (fun q => by
        rw [q.1, hI.1.t9.1] at tw
        exact absurd tw (by decide)) (fun q => by
        rw [q.1, t66] at tw
        exact absurd tw (by decide))
    · have tq : ∃ τ, T q = τ ∧ τ ≠ 40 := by
        rcases hq with rfl | rfl | rfl | rfl | rfl | rfl | rfl
        · exact ⟨_, (md_ty hI.1 (j := 24) rfl rfl).1, by decide⟩
        · exact ⟨_, (md_ty hI.1 (j := 25) rfl rfl).1, by decide⟩
        · exact ⟨_, (md_ty hI.1 (j := 26) rfl rfl).1, by decide⟩
        · exact ⟨_, (md_ty hI.1 (j := 27) rfl rfl).1, by decide⟩
        · exact ⟨_, (md_ty hI.1 (j := 28) rfl rfl).1, by decide⟩
        · exact ⟨_, (md_ty hI.1 (j := 23) rfl rfl).1, by decide⟩
        · exact ⟨_, (md_ty hI.1 (j := 13) rfl rfl).1, by decide⟩
      obtain ⟨τ, h1, h2⟩ := tq
      rw [z.1, dr.2.1] at h1
      exact h2 h1.symm
