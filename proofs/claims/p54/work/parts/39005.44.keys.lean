/-! ===== twenty bits ===== -/
theorem bt_and (a b : Int32) (j : Nat) : bt (a &&& b) j = (bt a j && bt b j) := by
  unfold bt
  rw [Int32.toBitVec_and, BitVec.getLsbD_and]
theorem shl20 : ∀ n, n < 20 → ∀ j, j < 32 → bt ((1 : Int32) <<< (Int32.ofNat n &&& 31)) j = decide (j = n) := by decide +kernel
theorem msk20 : ∀ n, n < 20 → ∀ j, j < 32 → bt (((1 : Int32) <<< (Int32.ofNat n &&& 31)) ^^^ (-1 : Int32)) j = decide (j ≠ n) := by decide +kernel
theorem bt_sh20 (x : Int32) {v : Nat} (hv : v < 20) (j : Nat) : bt (x ||| ((1 : Int32) <<< (Int32.ofNat v &&& 31))) j = true ↔ bt x j = true ∨ j = v := by
  rw [bt_or]
  by_cases c : j < 32
  · rw [shl20 v hv j c, Bool.or_eq_true, decide_eq_true_iff]
  · rw [bt_big (by omega), bt_big (by omega)]
    constructor
    · intro q; cases q
    · rintro (q | q)
      · cases q
      · omega
theorem bt_cl20 (x : Int32) {v : Nat} (hv : v < 20) {j : Nat} (hj : j < 32) : bt (x &&& (((1 : Int32) <<< (Int32.ofNat v &&& 31)) ^^^ (-1 : Int32))) j = true ↔ bt x j = true ∧ j ≠ v := by
  rw [bt_and, msk20 v hv j hj, Bool.and_eq_true, decide_eq_true_iff]
theorem shr_20 : ∀ j, j < 20 → (((Int32.ofNat j &&& 31 : Int32).toBitVec).smod 32).toNat = j := by decide +kernel
theorem bt_test20 (x : Int32) {j : Nat} (h : j < 20) : ((x >>> (Int32.ofNat j &&& 31)) &&& (1 : Int32)) = (1 : Int32) ↔ bt x j = true := by
  rw [← Int32.toBitVec_inj, Int32.toBitVec_and, Int32.toBitVec_shiftRight]
  show (_ &&& 1#32) = 1#32 ↔ _
  rw [and1, BitVec.sshiftRight', shr_20 j h, BitVec.getLsbD_sshiftRight]
  unfold bt
  rw [if_pos (by omega)]
  simp
theorem bt_is20 {x : Int32} {v : Nat} (hv : v < 20) (S : AS) : f_K_isIn S (Int32.ofNat v) x = some (if bt x v = true then 1 else 0, S) := by
  unfold f_K_isIn
  by_cases c : bt x v = true
  · rw [if_pos ((bt_test20 x hv).mpr c), if_pos c]
  · rw [if_neg (fun q => c ((bt_test20 x hv).mp q)), if_neg c]
/-! ===== the keys ===== -/
def KP (t : Int) (m : AS) (k : Nat) : Prop := (k : Int) < (sI m 57 60).toInt ∧ sI m 111 k = 0 ∧ (sI m 112 k = -1 ∨ t < (sI m 112 k).toInt)
def KY (t : Int) (S m : AS) : Prop := ∃ c g : Nat, (1 ≤ c ∧ c ≤ 20 ∧ g < c) ∧ (sI m 57 60 = Int32.ofNat c ∧ sI m 57 61 = Int32.ofNat g) ∧ (sI S 25 0 = sI m 57 60 ∧ sI S 25 1 = sI m 57 61 ∧ sI S 25 2 = sI m 57 62 ∧ sI S 25 3 = sI m 57 63) ∧ sI m 112 g = -1 ∧
  (sI m 57 62 = -1 ∨ ∃ w, w < c ∧ w ≠ g ∧ sI m 57 62 = Int32.ofNat w ∧ sI m 112 w = -1) ∧
  (∀ k, k < 20 → (sI m 112 k = -1 ∧ sI S 26 k = 0) ∨ (sI m 112 k = sI S 26 k ∧ 1 ≤ (sI S 26 k).toInt)) ∧
  (∀ k, k < 20 → c ≤ k → sI m 111 k = 0 ∧ sI m 112 k = -1) ∧ (∀ k, k < 20 → (bt (sI S 25 4) k = true ↔ KP t m k))
theorem z_KY : KY 0 kr_Z kr_Z := by
  refine ⟨1, 0, by decide, by decide +kernel, by decide +kernel, by decide +kernel, Or.inl (by decide +kernel), ?_, ?_, ?_⟩
  · have h : (List.range 20).all (fun k => sI kr_Z 112 k == -1 && sI kr_Z 26 k == 0) = true := by decide +kernel
    intro k hk
    have := List.all_eq_true.mp h k (List.mem_range.mpr hk)
    simp only [Bool.and_eq_true, beq_iff_eq] at this
    exact Or.inl this
  · have h : (List.range 20).all (fun k => sI kr_Z 111 k == 0 && sI kr_Z 112 k == -1) = true := by decide +kernel
    intro k hk _
    have := List.all_eq_true.mp h k (List.mem_range.mpr hk)
    simp only [Bool.and_eq_true, beq_iff_eq] at this
    exact this
  · have h : (List.range 20).all (fun k => bt (sI kr_Z 25 4) k == (decide (k = 0))) = true := by decide +kernel
    have h1 : (List.range 20).all (fun k => sI kr_Z 111 k == 0 && sI kr_Z 112 k == -1) = true := by decide +kernel
    have h2 : (sI kr_Z 57 60).toInt = 1 := by decide +kernel
    intro k hk
    have a := List.all_eq_true.mp h k (List.mem_range.mpr hk)
    have b := List.all_eq_true.mp h1 k (List.mem_range.mpr hk)
    simp only [Bool.and_eq_true, beq_iff_eq] at a b
    unfold KP
    rw [a, h2, decide_eq_true_iff]
    exact ⟨fun q => ⟨by omega, b.1, Or.inl b.2⟩, fun q => by have := q.1; omega⟩
/-- all but the keys and the audit as before -/
def KKo (S S' : AS) : Prop := sR S' = sR S ∧ sL S' = sL S ∧ ∀ p j, p ≠ 5 → p ≠ 6 → p ≠ 7 → p ≠ 25 → p ≠ 26 → sI S' p j = sI S p j
theorem p_retire_L {now : Int32} {c : Nat} (hc : c ≤ 20) : ∀ (k i fu : Nat) (S : AS), i + k = c → sR S 25 5 = some 26 → sI S 25 0 = Int32.ofNat c →
    Hp (f_Keyring_retire_L2 fu S (some 25) now (Int32.ofNat i)) (fun S' => sR S' = sR S ∧ sL S' = sL S ∧ (∀ p j, ¬ (p = 25 ∧ j = 4) → sI S' p j = sI S p j) ∧ ∀ x, x < 20 → (bt (sI S' 25 4) x = true ↔ bt (sI S 25 4) x = true ∧ ¬ (i ≤ x ∧ x < c ∧ sI S 26 x = now)))
  | _, _, 0, _, _, _, _ => p_0
  | 0, i, fu + 1, S, hk, hr, hn => by
    unfold f_Keyring_retire_L2 f_Keyring_retire_C2
    exact p_of (st_gIe hn) (p_of (st_T ((ole (by omega) (by omega)).mpr (by omega))) (p_ret ⟨rfl, rfl, fun _ _ _ => rfl, fun x hx => ⟨fun q => ⟨q, fun z => by omega⟩, fun q => q.1⟩⟩))
  | k + 1, i, fu + 1, S, hk, hr, hn => by
    unfold f_Keyring_retire_L2 f_Keyring_retire_C2
    refine p_of (st_gIe hn) (p_of (st_F (fun q => by have := (ole (by omega) (by omega)).mp q; omega)) (p_of (st_F (fun q => by
      have := (ole (a := 20) (b := i) (by omega) (by omega)).mp q
      omega)) (p_of (st_gRe hr) (p_of (st_aIe (oc (by omega)) rfl) (p_if (fun q => ?_) (fun q => ?_))))))
    · refine p_of st_gI (p_of st_pI ?_)
      unfold f_Keyring_retire_B40
      refine p_of st_val ?_
      rw [o1]
      refine p_mono (p_retire_L hc k (i + 1) fu _ (by omega) (by rw [sR_wI]; exact hr) (by rw [ti_sI_ne (by omega)]; exact hn)) (fun S' p => ?_)
      obtain ⟨p1, p2, p3, p4⟩ := p
      refine ⟨p1, p2, fun a b h => by rw [p3 a b h, ti_sI_ne h], fun x hx => ?_⟩
      rw [p4 x hx, ti_sI_eq, bt_cl20 _ (by omega) (by omega), ti_sI_ne (by omega)]
      constructor
      · rintro ⟨⟨q1, q2⟩, q3⟩
        exact ⟨q1, fun z => q3 ⟨by omega, z.2⟩⟩
      · rintro ⟨q1, q2⟩
        refine ⟨⟨q1, fun z => q2 ⟨by omega, by omega, by rw [z]; exact q⟩⟩, fun z => q2 ⟨by omega, z.2⟩⟩
    · unfold f_Keyring_retire_B40
      refine p_of st_val ?_
      rw [o1]
      refine p_mono (p_retire_L hc k (i + 1) fu S (by omega) hr hn) (fun S' p => ?_)
      obtain ⟨p1, p2, p3, p4⟩ := p
      refine ⟨p1, p2, p3, fun x hx => ?_⟩
      rw [p4 x hx]
      constructor
      · rintro ⟨q1, q2⟩
        refine ⟨q1, fun z => ?_⟩
        by_cases e : x = i
        · rw [e] at z; exact q z.2.2
        · exact q2 ⟨by omega, z.2⟩
      · rintro ⟨q1, q2⟩
        exact ⟨q1, fun z => q2 ⟨by omega, z.2⟩⟩
theorem p_due {S : AS} {now : Int32} : Hp (f_Keyring_isDueToSign S (some 25) now) (fun q => q.2 = S ∧ (q.1 = 0 ∨ q.1 = 1) ∧ (q.1 = 1 ↔ sI S 25 2 ≠ -1 ∧ ¬ now < sI S 25 3)) := by
  unfold f_Keyring_isDueToSign
  refine p_of st_gI (p_if (fun c => p_ret ⟨rfl, Or.inl rfl, fun q => absurd (show (0 : Int32) = 1 from q) (by decide), fun q => absurd c q.1⟩) (fun c => ?_))
  exact p_of st_gI (p_if (fun d => p_ret ⟨rfl, Or.inl rfl, fun q => absurd (show (0 : Int32) = 1 from q) (by decide), fun q => absurd d q.2⟩) (fun d => p_ret ⟨rfl, Or.inr rfl, fun _ => ⟨c, d⟩, fun _ => rfl⟩))
theorem p_put {S : AS} {now : Int32} {g : Nat} (hr : sR S 25 5 = some 26) (hg : sI S 25 1 = Int32.ofNat g) (h20 : g < 20) : Hp (f_Keyring_putWaitingToSign S (some 25) now) (fun S' => S' = wI (wI (wI S 26 g (now + 20)) 25 1 (sI S 25 2)) 25 2 (-1)) := by
  unfold f_Keyring_putWaitingToSign
  refine p_of (st_gIe hg) (p_of (st_F (fun q => by have := lt0.mp q; rw [oi (by omega)] at this; omega)) (p_of (st_gIe hg) (p_of (st_F (fun q => by
    have := (ole (a := 20) (b := g) (by omega) (by omega)).mp q
    omega)) (p_of (st_gRe hr) (p_of (st_gIe hg) (p_of (st_bIe (oc (by omega))) ?_))))))
  unfold f_Keyring_putWaitingToSign_B29
  exact p_of (st_gIe (ti_sI_ne (by omega))) (p_of st_pI (p_of st_pI (p_ret rfl)))
/-- what a minute does to the keys of the class: S2 with the waiting key signing or S itself, then those retired now -/
theorem p_B44 {S : AS} {c : Nat} (h4 : K4F S) (hc : c ≤ 20) (hn : sI S 25 0 = Int32.ofNat c) : Hp (f_K_turnKeys_B44 S (some 4)) (fun S' => sR S' = sR S ∧ sL S' = sL S ∧ (∀ p j, ¬ (p = 25 ∧ j = 4) → sI S' p j = sI S p j) ∧ ∀ x, x < 20 → (bt (sI S' 25 4) x = true ↔ bt (sI S 25 4) x = true ∧ ¬ (x < c ∧ sI S 26 x = sI S 4 0))) := by
  unfold f_K_turnKeys_B44
  refine p_of (st_gRe (h4.1 15 25 rfl)) (p_of st_gI (p_of st_rv ?_))
  unfold f_Keyring_retire
  refine p_bd (p_retire_L hc c 0 kr_FU S (by omega) h4.2.2.2 hn) (fun S' p => p_ret ?_)
  obtain ⟨p1, p2, p3, p4⟩ := p
  refine ⟨p1, p2, p3, fun x hx => ?_⟩
  rw [p4 x hx]
  exact ⟨fun q => ⟨q.1, fun z => q.2 ⟨Nat.zero_le _, z⟩⟩, fun q => ⟨q.1, fun z => q.2 z.2⟩⟩
/-- the keys a minute later, none coming to sign -/
theorem KY_min {t : Int} {S S' m m' : AS} (h : KY t S m) (ht : 0 ≤ t) (h0 : (sI S 4 0).toInt = t + 1) (e : ∀ p j, ¬ (p = 25 ∧ j = 4) → sI S' p j = sI S p j) (em : ∀ p j, p = 111 ∨ p = 112 ∨ p = 57 ∧ 60 ≤ j ∧ j ≤ 63 → sI m' p j = sI m p j)
    (eb : ∀ c, sI S 25 0 = Int32.ofNat c → c ≤ 20 → ∀ x, x < 20 → (bt (sI S' 25 4) x = true ↔ bt (sI S 25 4) x = true ∧ ¬ (x < c ∧ sI S 26 x = sI S 4 0))) : KY (t + 1) S' m' := by
  obtain ⟨c, g, h1, h2, h3, h4, h5, h6, h7, h8⟩ := h
  have m60 := em 57 60 (by omega)
  have m61 := em 57 61 (by omega)
  have m62 := em 57 62 (by omega)
  have m63 := em 57 63 (by omega)
  have m1 : ∀ k, sI m' 111 k = sI m 111 k := fun k => em 111 k (by omega)
  have m2 : ∀ k, sI m' 112 k = sI m 112 k := fun k => em 112 k (by omega)
  have k26 : ∀ k, sI S' 26 k = sI S 26 k := fun k => e 26 k (by omega)
  refine ⟨c, g, h1, ⟨by rw [m60]; exact h2.1, by rw [m61]; exact h2.2⟩, ⟨?_, ?_, ?_, ?_⟩, by rw [m2]; exact h4, ?_, fun k hk => by rw [m2, k26]; exact h6 k hk, fun k hk hk2 => by rw [m1, m2]; exact h7 k hk hk2, fun k hk => ?_⟩
  · rw [e 25 0 (by omega), m60]; exact h3.1
  · rw [e 25 1 (by omega), m61]; exact h3.2.1
  · rw [e 25 2 (by omega), m62]; exact h3.2.2.1
  · rw [e 25 3 (by omega), m63]; exact h3.2.2.2
  · rw [m62]
    rcases h5 with q | ⟨w, q1, q2, q3, q4⟩
    · exact Or.inl q
    · exact Or.inr ⟨w, q1, q2, q3, by rw [m2]; exact q4⟩
  · rw [eb c (h3.1.trans h2.1) h1.2.1 k hk, h8 k hk]
    unfold KP
    rw [m60, m1, m2, h2.1, oi (by omega)]
    rcases h6 k hk with ⟨q1, q2⟩ | ⟨q1, q2⟩
    · rw [q1, q2]
      constructor
      · rintro ⟨⟨z1, z2, z3⟩, z4⟩
        exact ⟨z1, z2, Or.inl rfl⟩
      · rintro ⟨z1, z2, z3⟩
        refine ⟨⟨z1, z2, Or.inl rfl⟩, fun z => ?_⟩
        have := congrArg Int32.toInt z.2
        rw [h0, show (0 : Int32).toInt = 0 from by decide] at this
        omega
    · have n1 : ¬ sI S 26 k = -1 := fun z => by rw [z] at q2; exact absurd q2 (by decide)
      rw [q1]
      constructor
      · rintro ⟨⟨z1, z2, z3⟩, z4⟩
        refine ⟨z1, z2, Or.inr ?_⟩
        have z3 := z3.resolve_left n1
        have : (sI S 26 k).toInt ≠ t + 1 := fun z => z4 ⟨by omega, Int32.toInt_inj.mp (z.trans h0.symm)⟩
        omega
      · rintro ⟨z1, z2, z3⟩
        have z3 := z3.resolve_left n1
        refine ⟨⟨z1, z2, Or.inr (by omega)⟩, fun z => ?_⟩
        have := congrArg Int32.toInt z.2
        omega
/-- the waiting key signs, in the minute t + 1 -/
theorem KY_sign {t : Int} {S m m' : AS} (h : KY t S m) (ht : 0 ≤ t) (ht2 : t < 30000) {now : Int32} (h0 : now.toInt = t + 1) {g : Nat} (hg : sI m 57 61 = Int32.ofNat g) (hg2 : g < 20) (hw : sI m 57 62 ≠ -1)
    (em : ∀ p j, p = 111 ∨ p = 57 ∧ (j = 60 ∨ j = 63) → sI m' p j = sI m p j) (e1 : sI m' 57 61 = sI m 57 62) (e2 : sI m' 57 62 = -1) (e3 : ∀ k, sI m' 112 k = if k = g then now + 20 else sI m 112 k) : KY t (wI (wI (wI S 26 g (now + 20)) 25 1 (sI S 25 2)) 25 2 (-1)) m' := by
  obtain ⟨c, g', h1, h2, h3, h4, h5, h6, h7, h8⟩ := h
  have gg : g' = g := oinj (by omega) (by omega) (h2.2.symm.trans hg)
  subst gg
  have n20 : (now + 20).toInt = t + 21 := by
    rw [Int32.toInt_add, h0, show (20 : Int32).toInt = 20 from by decide]
    exact (bm (by omega) (by omega)).trans (by omega)
  obtain ⟨w, q1, q2, q3, q4⟩ := h5.resolve_left hw
  have m60 := em 57 60 (by omega)
  have m63 := em 57 63 (by omega)
  have m1 : ∀ k, sI m' 111 k = sI m 111 k := fun k => em 111 k (by omega)
  refine ⟨c, w, ⟨h1.1, h1.2.1, q1⟩, ⟨by rw [m60]; exact h2.1, by rw [e1]; exact q3⟩, ⟨?_, ?_, ?_, ?_⟩, ?_, Or.inl e2, fun k hk => ?_, fun k hk hk2 => ?_, fun k hk => ?_⟩
  · rw [ti_sI_ne (by omega), ti_sI_ne (by omega), ti_sI_ne (by omega), m60]; exact h3.1
  · rw [ti_sI_ne (by omega), ti_sI_eq, e1]; exact h3.2.2.1
  · rw [ti_sI_eq, e2]
  · rw [ti_sI_ne (by omega), ti_sI_ne (by omega), ti_sI_ne (by omega), m63]; exact h3.2.2.2
  · rw [e3, if_neg q2]; exact q4
  · rw [e3, ti_sI_ne (by omega), ti_sI_ne (by omega)]
    by_cases ck : k = g'
    · subst ck
      rw [if_pos rfl, ti_sI_eq]
      exact Or.inr ⟨rfl, by omega⟩
    · rw [if_neg ck, ti_sI_ne (fun z => ck z.2)]
      exact h6 k hk
  · rw [m1, e3, if_neg (by omega)]
    exact h7 k hk hk2
  · rw [ti_sI_ne (by omega), ti_sI_ne (by omega), ti_sI_ne (by omega), h8 k hk]
    unfold KP
    rw [m60, m1, e3]
    by_cases ck : k = g'
    · subst ck
      rw [if_pos rfl, h4]
      exact ⟨fun z => ⟨z.1, z.2.1, Or.inr (by omega)⟩, fun z => ⟨z.1, z.2.1, Or.inl rfl⟩⟩
    · rw [if_neg ck]
