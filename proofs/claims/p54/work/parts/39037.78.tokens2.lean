/-- what holds of tokens and families when one more is there -/
theorem TK_fin {S S' m m' : AS} {g d f to : Nat} {frm sc gen key un : Int32} (tk : TKK S S' g d (nT m) to frm sc gen key un) (tm : TKM m m' f (nT m) to frm sc gen un) (hc : cTok S m) (hn : cNum S m) (ha : cAud S m) (hf : cFre S m)
    (f1 : f < nF m) (f60 : nF m ≤ 60) (hg : g = lel S 23 f) (to4 : to < 4) (n200 : nT m < 200) (hk : sI m 57 61 = key) (hk20 : ∃ k, k < 20 ∧ key = Int32.ofNat k) (u0 : 0 ≤ un.toInt) (u1 : un.toInt ≤ 30010)
    (lelF : ∀ q, q < nF m → lel S' 23 q = lel S 23 q) (lelC : ∀ q, q < nC m → lel S' 22 q = lel S 22 q) (ltF : ∀ q, q < nF m → lel S 23 q < sN S ∧ lel S 23 q ≠ 24) (injF : ∀ a b, a < nF m → b < nF m → lel S 23 a = lel S 23 b → a = b)
    (ltT : ∀ t, t < nT m → lel S 24 t < sN S ∧ lel S 24 t ≠ 24 ∧ lel S 24 t ≠ d ∧ ∀ q, q < nF m → lel S 24 t ≠ lel S 23 q) (ltC : ∀ c, c < nC m → sI m 98 c = -1 → lel S 22 c < sN S ∧ lel S 22 c ≠ 24 ∧ lel S 22 c ≠ g) : cTok S' m' ∧ cNum S' m' ∧ cAud S' m' ∧ cFre S' m' := by
  obtain ⟨k1, k2, k3, ⟨k4, k5⟩, ⟨z0, z1, z2, z3, z4, z5, z6⟩, k6, k7⟩ := tk
  obtain ⟨⟨-, -, m1⟩, y1, y2, y3, y4, y5, y6, y7, y8, y9⟩ := tm
  have eT : nn (sI m' 57 52) = nT m + 1 := by
    rw [y9]
    exact nn_o (by omega)
  have enT : nT m' = nT m + 1 := eT
  have enF : nF m' = nF m := by
    unfold nF
    rw [m1 _ _ (by omega) (by omega) (by omega)]
  have enC : nC m' = nC m := by
    unfold nC
    rw [m1 _ _ (by omega) (by omega) (by omega)]
  refine ⟨⟨⟨?_, ?_, ?_⟩, fun t ht => ?_⟩, fun q hq => ?_, fun q hq v hv => ?_, fun c hc' h98 => ?_⟩
  · rw [eT]
    omega
  · rw [eT]
    exact y9
  · rw [y9]
    exact k3
  · rw [enT] at ht
    rw [enF]
    by_cases c : t = nT m
    · subst c
      rw [k5]
      obtain ⟨k, k20, ek⟩ := hk20
      exact ⟨⟨f, f1, by rw [lelF f f1, ← hg]; exact z0, y1⟩, z1.trans y2.symm, ⟨to, to4, z2, y3⟩, z3.trans y4.symm, z4.trans y5.symm, ⟨k, k20, z5.trans ek, y7.trans (hk.trans ek)⟩, z6.trans y6.symm, by rw [y6]; exact u0, by rw [y6]; exact u1⟩
    · have ht : t < nT m := by omega
      obtain ⟨l1, l2, l3, l4⟩ := ltT t ht
      have lg : lel S 24 t ≠ g := by rw [hg]; exact l4 f f1
      obtain ⟨⟨q, q1, q2, q3⟩, w1, ⟨v, v1, v2, v3⟩, w3, w4, ⟨k, x1, x2, x3⟩, w6, w7, w8⟩ := hc.2 t ht
      have oI : ∀ j, sI S' (lel S 24 t) j = sI S (lel S 24 t) j := fun j => k1 _ j l1 (by omega) (by omega)
      have oM : ∀ a, (a = 104 ∨ a = 105 ∨ a = 106 ∨ a = 107 ∨ a = 108 ∨ a = 109 ∨ a = 110) → sI m' a t = sI m a t := fun a h => m1 a t (by omega) (by omega) (by omega)
      rw [k4 t ht, oI, oI, oI, oI, oI, oI, oM 104 (by omega), oM 105 (by omega), oM 106 (by omega), oM 107 (by omega), oM 108 (by omega), oM 109 (by omega), oM 110 (by omega)]
      exact ⟨⟨q, q1, by rw [k2 _ 0 l1 (by omega) (by omega), lelF q q1]; exact q2, q3⟩, w1, ⟨v, v1, v2, v3⟩, w3, w4, ⟨k, x1, x2, x3⟩, w6, w7, w8⟩
  · rw [enF] at hq
    obtain ⟨l1, l2⟩ := ltF q hq
    obtain ⟨w1, w3, w4⟩ := hn q hq
    have e100 : sI m' 100 q = sI m 100 q := m1 _ _ (by omega) (by omega) (by omega)
    have e101 : sI m' 101 q = sI m 101 q := m1 _ _ (by omega) (by omega) (by omega)
    rw [lelF q hq, e100, e101, k1 _ 7 l1 (by omega) (by omega), k1 _ 8 l1 (by omega) (by omega)]
    refine ⟨w1, w3, ?_⟩
    by_cases c : q = f
    · subst c
      rw [← hg, k6, y8]
    · have : lel S 23 q ≠ g := fun z => c (injF q f hq f1 (z.trans hg))
      rw [k1 _ 9 l1 (by omega) (by omega), m1 _ _ (by omega) (by omega) (by omega)]
      exact w4
  · rw [enF] at hq
    rw [enT, lelF q hq]
    have old : (∃ t, t < nT m + 1 ∧ sI m' 108 t = Int32.ofNat q ∧ sI m' 105 t = Int32.ofNat v) ↔ (∃ t, t < nT m ∧ sI m 108 t = Int32.ofNat q ∧ sI m 105 t = Int32.ofNat v) ∨ (q = f ∧ v = to) := by
      constructor
      · rintro ⟨t, t1, t2, t3⟩
        by_cases c : t = nT m
        · subst c
          rw [y1] at t2
          rw [y3] at t3
          exact Or.inr ⟨(oinj (by omega) (by omega) t2).symm, (oinj (by omega) (by omega) t3).symm⟩
        · rw [m1 _ _ (by omega) (by omega) (by omega)] at t2 t3
          exact Or.inl ⟨t, by omega, t2, t3⟩
      · rintro (⟨t, t1, t2, t3⟩ | ⟨rfl, rfl⟩)
        · exact ⟨t, by omega, (m1 _ _ (by omega) (by omega) (by omega)).trans t2, (m1 _ _ (by omega) (by omega) (by omega)).trans t3⟩
        · exact ⟨nT m, by omega, y1, y3⟩
    rw [old, ← ha q hq v hv]
    by_cases c : q = f
    · subst c
      rw [← hg, k7, bt_sh _ (by omega)]
      exact ⟨fun z => z.elim Or.inl (fun y => Or.inr ⟨rfl, y⟩), fun z => z.elim Or.inl (fun y => Or.inr y.2)⟩
    · have : lel S 23 q ≠ g := fun z => c (injF q f hq f1 (z.trans hg))
      rw [k1 _ 10 (ltF q hq).1 (by omega) (by omega)]
      exact ⟨Or.inl, fun z => z.elim id (fun y => absurd y.1 c)⟩
  · rw [enC] at hc'
    rw [m1 _ _ (by omega) (by omega) (by omega)] at h98
    obtain ⟨l1, l2, l3⟩ := ltC c hc' h98
    rw [lelC c hc', k1 _ 6 l1 (by omega) (by omega), k1 _ 7 l1 (by omega) (by omega), k1 _ 10 l1 (by omega) (by omega), k1 _ 11 l1 (by omega) (by omega)]
    exact hf c hc' h98
