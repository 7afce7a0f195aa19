/-! ===== rules of the law's calls: its numbers out of the script, its wrapped calls ===== -/
theorem x_some (S : AS) (a : Int32) {k : Nat} (k0 : 0 < k) (k1 : k ≤ 1000) : ∃ w, w < k ∧ f_W_some S a (Int32.ofNat k) = some (Int32.ofNat w, S) := by
  obtain ⟨N, hN, e⟩ : ∃ N : Nat, N < 2 ^ 30 ∧ (a.toUInt32 >>> ((2 : Int32).toUInt32 &&& Int32.toUInt32 31)).toInt32 = Int32.ofNat N := by
    refine ⟨(a.toUInt32 >>> ((2 : Int32).toUInt32 &&& Int32.toUInt32 31)).toNat, ?_, ?_⟩
    · rw [UInt32.toNat_shiftRight, show ((2 : Int32).toUInt32 &&& Int32.toUInt32 31).toNat % 32 = 2 from by decide, Nat.shiftRight_eq_div_pow]
      have := a.toUInt32.toNat_lt
      omega
    · apply Int32.toBitVec_inj.mp
      show (a.toUInt32 >>> ((2 : Int32).toUInt32 &&& Int32.toUInt32 31)).toBitVec = BitVec.ofNat 32 (a.toUInt32 >>> ((2 : Int32).toUInt32 &&& Int32.toUInt32 31)).toBitVec.toNat
      rw [BitVec.ofNat_toNat, BitVec.setWidth_eq]
  have nz : ¬ Int32.ofNat k = 0 := fun q => by
    have := congrArg Int32.toInt q
    rw [oiq (by omega), show (0 : Int32).toInt = 0 from by decide] at this
    omega
  refine ⟨N % k, Nat.mod_lt _ k0, ?_⟩
  unfold f_W_some
  rw [e, Option.bind_some, if_neg nz, irem_eq_mod]
  refine congrArg (fun z => some (z, S)) (Int32.toInt_inj.mp ?_)
  have h1 : N % k < k := Nat.mod_lt _ k0
  rw [Int32.toInt_mod, oiq (by omega : k ≤ 100000), oiq (by omega : N % k ≤ 100000), Int32.toInt_ofNat_of_lt (by omega), Int.tmod_eq_emod_of_nonneg (by omega), Int.natCast_emod]
theorem o_some {β : Type} {S : AS} {a i : Int32} {F : Int32 → AS → Option β} {Q : β → Prop} (k : Nat) (hi : i = Int32.ofNat k) (k0 : 0 < k) (k1 : k ≤ 1000) (H : ∀ w, w < k → Ho (F (Int32.ofNat w) S) Q) : Ho (kr_b2 (f_W_some S a i) F) Q := by
  obtain ⟨w, hw, e⟩ := x_some S a k0 k1
  rw [hi, e]
  exact H w hw
theorem ANc_0 {cs : List Int32} {c v t : Int32} (h : ANc cs c v t) (hl : cs.length ≤ 100) (t0 : t = 0) : c = v := by
  rcases h with ⟨h, -⟩ | ⟨i, k, hi, -, ht⟩
  · exact h
  · have := (List.getElem?_eq_some_iff.mp hi).1
    have e := ht.symm.trans t0
    have := congrArg Int32.toInt e
    rw [oiq (by omega), show (0 : Int32).toInt = 0 from by decide] at this
    omega
theorem ANc_k {cs : List Int32} {c v t k : Int32} (h : ANc cs c v t) (hl : cs.length ≤ 100) (i : Nat) (hi : cs[i]? = some k) (ti : t = Int32.ofNat (i + 1)) : c = k := by
  have i1 := (List.getElem?_eq_some_iff.mp hi).1
  rcases h with ⟨-, t0⟩ | ⟨j, k', hj, hc, ht⟩
  · have := congrArg Int32.toInt (ti.symm.trans t0)
    rw [oiq (by omega), show (0 : Int32).toInt = 0 from by decide] at this
    omega
  · have j1 := (List.getElem?_eq_some_iff.mp hj).1
    have := oinjq (by omega) (by omega) (ti.symm.trans ht)
    have e : i = j := by omega
    rw [← e, hi] at hj
    cases hj
    exact hc
/-- the law's rows stay; the reference's places stay, but what it says it threw -/
def LK (S S' : AS) : Prop := ∀ k, 127 ≤ k → k < 141 → sI S' k = sI S k
def GK (m m' : AS) : Prop := ∀ k j, 57 ≤ k → k < 126 → ¬ (k = 57 ∧ (100 ≤ j ∨ j = 82)) → sI m' k j = sI m k j
theorem GK_rf (m : AS) : GK m m := fun _ _ _ _ _ => rfl
theorem GK_tr {m m1 m2 : AS} (h : GK m m1) (g : GK m1 m2) : GK m m2 := fun k j a b c => (g k j a b c).trans (h k j a b c)
theorem gh_all : (List.range 68).all (fun i => (List.range 81).any fun j => ft 100 j == some (100 + j) && sg (100 + j) == some (58 + i) && decide (40 ≤ kd (100 + j))) = true := by decide +kernel
theorem K_gh {T T1 : Nat → Nat} {w : List Nat} {S S1 : AS} (hT : TI T S) (g : Rl T (99999 :: w) S 10 700 T1 S1) (h3 : ∀ z ∈ w, z < 10000 ∨ 50000 ≤ z) : GK S S1 := fun k j a b c => by
  have hx : Tx T 100 (some 57) := ⟨57, rfl, hT.t9.1, by decide⟩
  obtain ⟨k1, k2⟩ := k_keeps hT g hx h3
  by_cases e : k = 57
  · subst e
    exact k1 j (by omega)
  · have h := List.all_eq_true.mp gh_all (k - 58) (List.mem_range.mpr (by omega))
    obtain ⟨i, hi, h⟩ := List.any_eq_true.mp h
    have hi := List.mem_range.mp hi
    simp only [Bool.and_eq_true, beq_iff_eq, decide_eq_true_eq, show 58 + (k - 58) = k by omega] at h
    exact k2 i (100 + i) k h.1.1 h.1.2 h.2 (by omega) (by omega) j
theorem lPts_e {m m' : AS} (h : lPts m) (e : ∀ j, sI m' 73 j = sI m 73 j) : lPts m' := by
  unfold lPts at *
  rw [e, e, e]
  exact h
/-- the points, and the minute: no call but pass moves it, and that by 139 at most -/
def lPN (n : Nat) (m : AS) : Prop := lPts m ∧ (sI m 57 0).toInt ≤ 140 * (n : Int)
theorem lPN_e {n : Nat} {m m' : AS} (h : lPN n m) (e : ∀ j, sI m' 73 j = sI m 73 j) (e0 : sI m' 57 0 = sI m 57 0) : lPN (n + 1) m' := ⟨lPts_e h.1 e, by
  have := h.2
  rw [e0]
  omega⟩
/-- all that holds between two calls of the law: n of them wrote, r were made -/
def L54 (n r : Nat) (T : Nat → Nat) (S : AS) : Prop := IV n T S ∧ RPF T S ∧ TL T ∧ lPN n S ∧ (sC S ≤ 200 + 20 * r ∧ sS S ≤ 12000 + 1000 * r) ∧ ∃ ns nc nf nt nk na, LW ns nc nf nt nk na S S
/-- behind a wrapped call -/
def BH (n r : Nat) (T1 : Nat → Nat) (Sa S1 S2 : AS) : Prop := IV (n + 1) T1 S2 ∧ RPF T1 S2 ∧ TL T1 ∧ (sC S2 ≤ 200 + 20 * (r + 1) ∧ sS S2 ≤ 12000 + 1000 * (r + 1)) ∧ LK Sa S2 ∧ LK Sa S1 ∧ GK Sa S1 ∧ MF S1
theorem PK_BH {n r : Nat} {T T1 : Nat → Nat} {w wM : List Nat} {S Sa S1 S2 : AS} (L : L54 n r T S) (l : LF S Sa) (g : PKg n T w wM Sa S1 T1 S2) (h1 : (99999 :: w).all (fun z => !lw.contains z) = true) (h2 : wM.all (fun z => !lw.contains z) = true) (h3 : ∀ z ∈ w, z < 10000 ∨ 50000 ≤ z) : BH n r T1 Sa S1 S2 := by
  obtain ⟨iv, rp, tl, -, ⟨c1, c2⟩, -⟩ := L
  obtain ⟨tl1, r2, r1⟩ := PK_rows tl (LF_IV iv tl l) g h1 h2 h3
  obtain ⟨g1, g2, -, iv2, rp2⟩ := g
  have a := g1.2.2.2.1
  have b := g2.2.2.2.1
  have q1 : sC Sa = sC S := l.2.2.2.2.2.1
  have q2 : sS Sa = sS S := l.2.2.2.2.2.2.1
  exact ⟨iv2, rp2, tl1, ⟨by have := a.1; have := b.1; omega, by have := a.2.1; have := b.2.1; omega⟩, r2, r1, K_gh (LF_TI iv.1 tl l) g1 h3, MF_of g1.1⟩
/-- it holds again: what is wanted is the relation -/
theorem BH_L {n r : Nat} {T1 : Nat → Nat} {Sa S1 S2 : AS} (h : BH n r T1 Sa S1 S2) (pts : lPN (n + 1) S2) (lw : ∃ ns nc nf nt nk na, LW ns nc nf nt nk na S2 S2) : L54 (n + 1) (r + 1) T1 S2 := ⟨h.1, h.2.1, h.2.2.1, pts, h.2.2.2.1, lw⟩
/-- what a kind of calls is to show -/
def G54 (n r : Nat) (q : Int32 × AS) : Prop := q.1 = 1 ∧ ∃ T', L54 (n + 1) (r + 1) T' q.2
theorem LW_cong2 {S m S' m' : AS} {ns nc nf nt nk na : Nat} (h : LW ns nc nf nt nk na S m) (a : LK S S') (b : GK m m') : LW ns nc nf nt nk na S' m' := by
  obtain ⟨-, -, -, ⟨fac, -⟩, -⟩ := id h
  exact LWa_enroll h (fun k j h1 h2 _ => by rw [a k h1 h2]) (fun k j h1 h2 h3 _ => b k j h1 h2 h3) (lFac_fr fac (fun j _ => by rw [a 129 (by omega) (by omega)]) (funext fun j => b 58 j (by omega) (by omega) (by omega)) (funext fun j => b 59 j (by omega) (by omega) (by omega)) (funext fun j => b 60 j (by omega) (by omega) (by omega)))
