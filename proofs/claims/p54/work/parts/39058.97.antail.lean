def kf_AN : List Nat := [100, 109, 202, 203, 300, 400, 1303, 1304, 1305, 1306, 1307, 1308, 1400, 1500, 2202, 2302, 4300, 4304, 4305, 4306, 4401, 4402, 4403, 4404, 4405, 4800, 52101, 52201, 52301, 53100, 53200, 53300, 54204, 54301, 54302, 54303, 54400, 54700]
def mf_AN : List Nat := [10000, 10019, 10030, 10039, 10046, 10077, 10081, 10100, 10200, 10300, 10400, 10500, 10600, 12900, 13100, 13200, 13300, 13400, 13500, 13600, 14000, 14100, 14200, 14300, 14400, 14500, 17800, 17900, 18000]
theorem FP_AN {T T' Tm Tm' : Nat → Nat} {S S' m m' : AS} (b : BB T Tm S m) (h : cFac S m ∧ cWrg S m ∧ cKn S m ∧ cAsh S m ∧ cSes S m ∧ cUsd S m ∧ cLiv S m ∧ cSsh S m ∧ cMin S m ∧ cCod S m ∧ cAU S m) (k : Kp T T' kf_AN S S') (q : Kp Tm Tm' mf_AN m m') : cFac S' m' ∧ cWrg S' m' ∧ cKn S' m' ∧ cAsh S' m' ∧ cSes S' m' ∧ cUsd S' m' ∧ cLiv S' m' ∧ cSsh S' m' ∧ cMin S' m' ∧ cCod S' m' ∧ cAU S' m' := by
  have K : ∀ {ds : List Nat}, ds.all (fun z => kf_AN.contains z) = true → Kp T T' ds S S' := fun hs => Kp_sub k (fun z hz => List.contains_iff_mem.mp (List.all_eq_true.mp hs z hz))
  have Q : ∀ {ds : List Nat}, ds.all (fun z => mf_AN.contains z) = true → Kp Tm Tm' ds m m' := fun hs => Kp_sub q (fun z hz => List.contains_iff_mem.mp (List.all_eq_true.mp hs z hz))
  exact ⟨cFac_fr b h.1 (K (by decide +kernel)) (Q (by decide +kernel)), cWrg_fr b h.2.1 (K (by decide +kernel)) (Q (by decide +kernel)), cKn_fr b h.2.2.1 (K (by decide +kernel)) (Q (by decide +kernel)), cAsh_fr b h.2.2.2.1 (K (by decide +kernel)) (Q (by decide +kernel)), cSes_fr b h.2.2.2.2.1 (K (by decide +kernel)) (Q (by decide +kernel)), cUsd_fr b h.2.2.2.2.2.1 (K (by decide +kernel)) (Q (by decide +kernel)), cLiv_fr b h.2.2.2.2.2.2.1 (K (by decide +kernel)) (Q (by decide +kernel)), cSsh_fr b h.2.2.2.2.2.2.2.1 (K (by decide +kernel)) (Q (by decide +kernel)), cMin_fr b h.2.2.2.2.2.2.2.2.1 (K (by decide +kernel)) (Q (by decide +kernel)), cCod_fr b h.2.2.2.2.2.2.2.2.2.1 (K (by decide +kernel)) (Q (by decide +kernel)), cAU_fr b h.2.2.2.2.2.2.2.2.2.2 (K (by decide +kernel)) (Q (by decide +kernel))⟩
/-! ===== answer: what comes behind ===== -/
def P_ans (S m : AS) : Prop := cFac S m ∧ cWrg S m ∧ cKn S m ∧ cAst S m ∧ P_ses S m
theorem FR_ans {S m : AS} (h : FR S m) : P_ans S m := ⟨h.Fac, h.Wrg, h.Kn, h.Ast, FR_ses h⟩
section
variable {T Tm : Nat → Nat} {S m : AS}
theorem p_B114 {x : Nat} : Hp (f_K_takeAnswer_B114 S (some x)) (fun S' => (sI S x 5 = 0 ∧ ¬ sI S x 8 < 12 ∧ S' = wI S x 5 2) ∨ (¬ (sI S x 5 = 0 ∧ ¬ sI S x 8 < 12) ∧ S' = S)) := by
  unfold f_K_takeAnswer_B114
  refine p_of st_gI (p_if (fun c => p_of st_gI (p_if (fun c2 => p_ret (Or.inr ⟨fun q => q.2 c2, rfl⟩)) (fun c2 => p_of st_pI (p_ret (Or.inl ⟨c, c2, rfl⟩))))) (fun c => p_ret (Or.inr ⟨fun q => c q.1, rfl⟩)))
theorem an_tail (bb : BB T Tm S m) {a : Nat} (ha : a < uA m) (hA : cAsm a S m) (inj : ∀ b, b < uA m → lel S 18 b = lel S 18 a → b = a) (fac : cFac S m) (wrg : cWrg S m) (kn : cKn S m) (ses : P_ses S m) (e57 : sI m 57 82 = 0) (r82 : 0 ≤ (sI m 82 a).toInt ∧ (sI m 82 a).toInt ≤ 12) :
    H2 ((f_K_takeAnswer_B114 S (some (lel S 18 a))).bind fun S4 => (gI S4 11 5 (some (lel S 18 a))).bind fun v5 => some ((Sum.inl v5 : Int32 ⊕ String), S4)) (f_M_answer_B168 m (some 57) (Int32.ofNat a)) (fun x y => AN [eX, eA, eS] x.1 y.1 (sI y.2 57 82) ∧ P_ans x.2 y.2) := by
  have hmf := MF_of bb.2.2.1
  have h60 : uA m ≤ 60 := (zA bb).1
  have ai : (Int32.ofNat a).toNatClampNeg = a := oc (by omega)
  have tx := tyA bb ha
  obtain ⟨q5, q8, q9, q6⟩ := hA.2 a ha
  obtain ⟨-, t80, -⟩ := md_at bb.2.2.1 (j := 25) (p := 80) rfl rfl
  have e12 : sI m 82 a = 12 ↔ ¬ sI m 82 a < 12 := by
    rw [Int32.lt_iff_toInt_lt, show (12 : Int32).toInt = 12 from by decide]
    constructor
    · intro z
      rw [z]
      decide
    · intro z
      exact Int32.toInt_inj.mp (by rw [show (12 : Int32).toInt = 12 from by decide]; omega)
  refine l_pd p_B114 (fun S4 p => ?_)
  unfold f_M_answer_B168
  refine m_of (st_gRe (hmf 25 80 rfl)) (m_of (st_aIe (v := sI m 80 a) ai rfl) ?_)
  have keep : S4 = S → (sI m 80 a = 0 → ¬ sI m 82 a = 12) → H2 ((gI S4 11 5 (some (lel S 18 a))).bind fun v5 => some ((Sum.inl v5 : Int32 ⊕ String), S4)) (f_M_answer_B195 m (some 57) (Int32.ofNat a)) (fun x y => AN [eX, eA, eS] x.1 y.1 (sI y.2 57 82) ∧ P_ans x.2 y.2) := fun e n12 => by
    rw [e]
    unfold f_M_answer_B195
    refine l_of (st_gIe q5) (m_of (st_gRe (hmf 25 80 rfl)) (m_of (st_aIe (v := sI m 80 a) ai rfl) (h2_ret ⟨AN_v e57, fac, wrg, kn, Ast_of hA (fun z => ⟨r82.1, ?_⟩), ses⟩)))
    have : ¬ (sI m 82 a).toInt = 12 := fun y => n12 z (Int32.toInt_inj.mp (by rw [y]; decide))
    show (sI m 82 a).toInt ≤ 11
    omega
  rcases p with ⟨p1, p2, p3⟩ | ⟨p1, p2⟩
  · have p3 : S4 = _ := p3
    rw [q5] at p1
    rw [q8] at p2
    refine m_of (st_T p1) (m_of (st_gRe (hmf 27 82 rfl)) (m_of (st_aIe (v := sI m 82 a) ai rfl) (m_of (st_T (e12.mpr p2)) (m_of (st_gRe (hmf 25 80 rfl)) (m_of (st_bIe ai) ?_)))))
    unfold f_M_answer_B195
    rw [p3]
    refine l_of (st_gIe (ti_sI_eq _ _ _ _)) (m_of (st_gRe (v := some 80) (hmf 25 80 rfl)) (m_of (st_aIe ai (ti_sI_eq _ _ _ _)) (h2_ret ?_)))
    obtain ⟨f1, f2, f3, f4⟩ := FP_AN bb ⟨fac, wrg, kn, ses⟩ (Kp_wI (2 : Int32) (p := lel S 18 a) (j := 5) tx (by decide +kernel)) (Kp_wA (2 : Int32) (p := 80) (j := a) t80 (by decide) (by decide +kernel))
    refine ⟨AN_v ((ti_sI_ne (by omega)).trans e57), f1, f2, f3, Ast_of (asm_mk hA ?_ ha (fun b _ => rfl) (fun b j hb hba => ti_sI_ne (fun z => hba (inj b hb z.1))) (fun q j hq hj => ti_sI_ne (by omega)) (fun j => ti_sI_ne (by omega)) (fun j => ti_sI_ne (by omega)) ⟨?_, ?_, ?_, fun z => ?_⟩) (fun z => ?_), f4⟩
    · unfold uA
      rw [ti_sI_ne (by omega)]
    · rw [ti_sI_eq, ti_sI_eq]
    · rw [ti_sI_ne (by omega), ti_sI_ne (by omega)]
      exact q8
    · rw [ti_sI_ne (by omega), ti_sI_ne (by omega)]
      exact q9
    · rw [ti_sI_eq] at z
      exact absurd z (by decide)
    · rw [ti_sI_eq] at z
      exact absurd z (by decide)
  · have p2 : S4 = S := p2
    rw [q5, q8] at p1
    by_cases c : sI m 80 a = 0
    · have n12 : ¬ sI m 82 a = 12 := fun z => p1 ⟨c, e12.mp z⟩
      exact m_of (st_T c) (m_of (st_gRe (hmf 27 82 rfl)) (m_of (st_aIe (v := sI m 82 a) ai rfl) (m_of (st_F n12) (keep p2 (fun _ => n12)))))
    · exact m_of (st_F c) (keep p2 (fun z => absurd z c))
end
