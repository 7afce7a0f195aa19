/-! ===== from a step on, all together ===== -/
section
variable {T Tm : Nat → Nat} {S m : AS}
theorem h_way (hT : TV T S) (hm : TI Tm m) {a : Nat} (ha : a < uA m) (hF : FR (wI S (lel S 18 a) 5 2) (wI m 80 a 2)) (e5 : sI S (lel S 18 a) 5 = 0) (e80 : sI m 80 a = 0) (sr : SR m) (ac : AC m) {st : Int32}
    (hst : ∀ v n, v < nV m → 1 ≤ n → n ≤ 12 → sI m 78 a = Int32.ofNat v → sI m 66 v = Int32.ofNat n → st = -1 ∨ ∃ k, k < n ∧ st = Int32.ofNat k) : H2 (f_K_goOn S (some 4) (some (lel S 18 a)) st) (f_M_go m (some 57) (Int32.ofNat a) st) (fun S' m' => P_go a S' m' ∧ GFm m m') := by
  obtain ⟨St, est⟩ : ∃ St, St = wI S (lel S 18 a) 5 2 := ⟨_, rfl⟩
  obtain ⟨mt, emt⟩ : ∃ mt, mt = wI m 80 a 2 := ⟨_, rfl⟩
  have hF' := hF
  rw [← est, ← emt] at hF'
  have oSt : ∀ {k j : Nat}, ¬ (k = lel S 18 a ∧ j = 5) → sI St k j = sI S k j := fun z => by
    rw [est]
    exact ti_sI_ne z
  have omt : ∀ {q j : Nat}, ¬ (q = 80 ∧ j = a) → sI mt q j = sI m q j := fun z => by
    rw [emt]
    exact ti_sI_ne z
  have rSt : sR St = sR S := by rw [est, sR_wI]
  have elt : ∀ l i, lel St l i = lel S l i := fun l i => by
    unfold lel
    rw [rSt]
  have uAt : uA mt = uA m := by
    unfold uA
    rw [omt (by omega)]
  have nVt : nV mt = nV m := by
    unfold nV
    rw [omt (by omega)]
  have h60 : uA m ≤ 60 := by
    have := hF'.Att.1.1
    rw [omt (by omega)] at this
    exact this
  have s18 : sI S 18 2 = Int32.ofNat (uA m) := by
    obtain ⟨z1, z2, z3⟩ := hF'.Att.1
    rw [oSt (by omega), omt (by omega)] at z3
    rw [omt (by omega)] at z2
    exact z3.trans z2
  have tx : T (lel S 18 a) = 42 := (lel_at hT.1 (q := 1) (i := a) (by decide) (by
      show (a : Int) < (sI S 18 2).toInt
      rw [s18, oi (by omega)]
      omega)).1
  obtain ⟨-, ⟨i, i6, r0, e75⟩, ⟨d1, l1, r1, e76⟩, ⟨d2, l2, r2, e77⟩, ⟨v, v1, r3, e78⟩, -⟩ := hF'.Att.2 a (by rw [uAt]; exact ha)
  rw [elt, rSt] at r0 r3
  rw [elt, oSt (by omega)] at r1 r2
  rw [elt] at r3
  rw [omt (by omega)] at e75 e76 e77 e78
  rw [nVt] at v1
  obtain ⟨⟨n, n1, n12, g5, g66, gr⟩, gb, -⟩ := hF'.Ver.2 v (by rw [nVt]; exact v1)
  rw [omt (by omega)] at g66
  have v8 : v < 8 := by
    have := hF'.Ver.1.1
    rw [omt (by omega)] at this
    unfold nV at v1
    omega
  have n8 : nV m ≤ 8 := by
    have := hF'.Ver.1.1
    rw [omt (by omega)] at this
    exact this
  have h9 : sI m 57 9 = Int32.ofNat (nV m) := by
    have := hF'.Ver.1.2.1
    rw [omt (by omega)] at this
    exact this
  have tn : T (lel S 17 v) = 40 := by
    refine (lel_at hT.1 (q := 0) (i := v) (by decide) ?_).1
    show (v : Int) < (sI S 17 2).toInt
    have := hF'.Ver.1.2.2
    rw [oSt (by omega), omt (by omega), h9] at this
    rw [this, oi (by omega)]
    omega
  rw [elt, oSt (fun z => by
    rw [z.1, tx] at tn
    exact absurd tn (by decide))] at g5
  have f : FLR S m (lel S 17 v) v n := by
    refine ⟨⟨n1, n12⟩, v8, g5, fun j k hj hk => ?_⟩
    have := gr j k hj hk
    have efa : fa St (lel St 17 v) j = fa S (lel S 17 v) j := by
      rw [elt]
      unfold fa
      rw [rSt]
    have tw := (tyW hT.1 tn hj).2
    rw [efa, oSt (fun z => by
      rw [z.1, tx] at tw
      exact absurd tw (by decide)), omt (by omega)] at this
    exact this
  obtain ⟨y, y1, y2, y3, y4⟩ := tyM (j := 4) hT.1 tx rfl
  have xne : ∀ {k τ : Nat}, T k = τ → τ ≠ 42 → k ≠ lel S 18 a := fun hk ht z => by
    rw [z, tx] at hk
    exact ht hk.symm
  have PFS : PF S := by
    have := hF'.PF
    unfold cPF PF at this
    rw [rSt] at this
    exact ⟨fun j hj => by
      obtain ⟨z1, z2, z3, z4, z5⟩ := this.1 j hj
      exact ⟨z1, z2, z3, z4, by rw [← z5]; exact (oSt (by omega)).symm⟩, this.2⟩
  have g : GB S m (lel S 18 a) a (lel S 17 v) v n := by
    refine ⟨⟨K4F_of hT.1, MF_of hm, ?_, fun j hj => ?_, fun j hj => ?_, fun j hj d hd => ?_, ?_, fun j hj => ⟨fun c hc => ?_, ?_⟩, PFS⟩, by omega, ⟨i, d1, d2, ⟨i6, l1, l2⟩, ⟨r0, r1, r2⟩, e75, e76, e77⟩, r3, e78, f, ⟨y, mn S (lel S 18 a) 4, y1, y3, fun c hc => ?_⟩, sr⟩
    · have := hF'.NW
      unfold cNW at this
      rw [oSt (by omega), omt (by omega)] at this
      exact this
    · have := hF'.Pts j hj
      rw [oSt (by omega), oSt (by omega), omt (by omega), omt (by omega)] at this
      exact this
    · have := hF'.Wrg j hj
      have ne := xne (kt_P hT.1 PFS hj).1 (by decide)
      rw [oSt (by omega), oSt (by omega), oSt (by omega), omt (by omega), omt (by omega), omt (by omega)] at this
      exact this
    · have := hF'.Kn j hj d hd
      rw [oSt (by omega), oSt (by omega), omt (by omega), omt (by omega)] at this
      exact this
    · have := hF'.Wgt
      unfold cWgt at this
      rw [oSt (by omega), oSt (by omega), oSt (by omega)] at this
      exact this
    · have := (hF'.Fac j hj).1 c hc
      rw [oSt (by omega), oSt (by omega), omt (by omega), omt (by omega)] at this
      exact this
    · have := (hF'.Fac j hj).2
      rw [oSt (by omega), omt (by omega)] at this
      exact this
    · have := hF'.Ash a (by rw [uAt]; exact ha) c hc
      have emn : mn St (lel St 18 a) 4 = mn S (lel S 18 a) 4 := by
        rw [elt]
        unfold mn
        rw [rSt]
      rw [emn, oSt (by omega), omt (by omega)] at this
      exact this
  refine h_goOn0 g ac v1 h9 n8 g66 (fun st at' hs => ?_) (hst v n v1 n1 n12 e78 g66)
  refine h_gfin hT hm ha hF e5 e80 e78 f r3 (fun k hk e0 => ?_) hs
  have := gb k (by rw [omt (by omega), g66, oi (by omega)]; omega) (by rw [omt (by omega)]; exact e0)
  rw [omt (by omega)] at this
  exact this
end
