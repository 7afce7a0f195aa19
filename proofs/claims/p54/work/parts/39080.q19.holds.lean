/-! ===== what a step of a test asks for ===== -/
theorem oltq {a b : Nat} (ha : a ≤ 100000) (hb : b ≤ 100000) : Int32.ofNat a < Int32.ofNat b ↔ a < b := by
  rw [Int32.lt_iff_toInt_lt, oiq ha, oiq hb]
  omega
def nB (v : Int32) : Bool := decide (¬ v = -1)
theorem x_levelm {S : AS} {a b c : Int32} (ha : mok a) (hb : mok b) (hc : mok c) : f_W_level S a b c = some (LVL (nB a) (nB b) (nB c), S) := by
  have one : ∀ x : Int32, mok x → (x < 0 ↔ nB x = false) := fun x hx => by
    rw [mok_lt hx]
    unfold nB
    rw [decide_eq_false_iff_not, Classical.not_not]
  unfold f_W_level f_W_level_B9 f_W_level_B18 LVL
  have h1 := one a ha
  have h2 := one b hb
  have h3 := one c hc
  cases e1 : nB a <;> cases e2 : nB b <;> cases e3 : nB c <;> rw [e1] at h1 <;> rw [e2] at h2 <;> rw [e3] at h3
  all_goals simp only [h1, h2, h3]
  all_goals rfl
theorem p_sh_end {m : AS} {i x : Int32} : ∀ fu, Hp (f_M_shownIn_L4 fu m (some 57) i x (3 : Int32)) (fun q => q = (x, m))
  | 0 => p_0
  | fu + 1 => by
    unfold f_M_shownIn_L4 f_M_shownIn_C4
    exact p_of (st_T (by decide)) (p_ret rfl)
theorem p_sh_st {m : AS} (hmf : MF m) {i f : Nat} (hi : i < 60) (hf : f < 3) {x : Int32} {Q : Int32 × AS → Prop} (H : ∀ fu, Hp (f_M_shownIn_L4 fu m (some 57) (Int32.ofNat i) (x ||| (if nB (sI m 84 (3 * i + f)) = true then (1 : Int32) <<< (Int32.ofNat f &&& 31) else 0)) (Int32.ofNat (f + 1))) Q) : ∀ fu, Hp (f_M_shownIn_L4 fu m (some 57) (Int32.ofNat i) x (Int32.ofNat f)) Q
  | 0 => p_0
  | fu + 1 => by
    unfold f_M_shownIn_L4 f_M_shownIn_C4
    have h := H fu
    refine p_of (st_F (fun q => by have := (ole (a := 3) (b := f) (by decide) (by omega)).mp q; omega)) (p_of (st_gRe (hmf 29 84 rfl)) (p_of (st_aIe (ix3 i hi f hf) rfl) ?_))
    unfold nB at h
    by_cases c : sI m 84 (3 * i + f) = -1
    · rw [if_neg (by rw [decide_eq_true_iff]; exact fun q => q c)] at h
      unfold f_M_shownIn_B31
      refine p_of (st_T c) (p_of st_val (p_of st_val ?_))
      rw [o1]
      exact h
    · rw [if_pos (decide_eq_true c)] at h
      unfold f_M_shownIn_B31
      refine p_of (st_F c) (p_of st_val (p_of st_val ?_))
      rw [o1]
      exact h
theorem p_shownIn {m : AS} (hmf : MF m) {i : Nat} (hi : i < 60) : Hp (f_M_shownIn m (some 57) (Int32.ofNat i)) (fun q => q = ((((0 : Int32) ||| (if nB (sI m 84 (3 * i)) = true then (1 : Int32) <<< (Int32.ofNat 0 &&& 31) else 0)) ||| (if nB (sI m 84 (3 * i + 1)) = true then (1 : Int32) <<< (Int32.ofNat 1 &&& 31) else 0)) ||| (if nB (sI m 84 (3 * i + 2)) = true then (1 : Int32) <<< (Int32.ofNat 2 &&& 31) else 0), m)) := by
  unfold f_M_shownIn
  exact p_sh_st hmf hi (f := 0) (by decide) (p_sh_st hmf hi (f := 1) (by decide) (p_sh_st hmf hi (f := 2) (by decide) (fun fu => p_sh_end fu))) kr_FU
theorem x_isTest (m : AS) : ∀ kd, kd < 7 → f_M_isTest m (Int32.ofNat kd) = some (if 1 ≤ kd ∧ kd ≤ 4 then 1 else 0, m) := fun kd hk => by
  unfold f_M_isTest
  by_cases c : kd < 1
  · rw [if_pos (show Int32.ofNat kd < (1 : Int32) from (oltq (b := 1) (by omega) (by omega)).mpr c), if_neg (by omega)]
  · rw [if_neg (show ¬ Int32.ofNat kd < (1 : Int32) from fun q => c ((oltq (b := 1) (by omega) (by omega)).mp q))]
    by_cases d : 4 < kd
    · rw [if_pos (show (4 : Int32) < Int32.ofNat kd from (oltq (a := 4) (by omega) (by omega)).mpr d), if_neg (by omega)]
    · rw [if_neg (show ¬ (4 : Int32) < Int32.ofNat kd from fun q => d ((oltq (a := 4) (by omega) (by omega)).mp q)), if_pos (by omega)]
/-- all that going on rests on -/
def GH (na : Nat) (S m : AS) : Prop := LR S ∧ MF m ∧ (lNow S m ∧ lFlo S m) ∧ (lFac S m ∧ lWrg S m ∧ lKn S m) ∧ (lAtt na S m ∧ lAsh na S m ∧ na ≤ 10) ∧ lPts m
section
variable {S m : AS} {na i : Nat}
/-- the law's test and the reference's: one answer -/
theorem g_test (h : GH na S m) (hi : i < na) {k : Nat} (hk : k < 7) {kd a : Nat} (d1 : 1 ≤ kd) (d4 : kd ≤ 4) (ha : kd = 3 → a < 3) (m67 : sI m 67 k = Int32.ofNat kd) (m68 : sI m 68 k = Int32.ofNat a) {Q : AS → AS → Prop} {k11 : AS → Option Nat → Option Nat → Option Nat → Option Nat → Option Nat → Option Nat → Option Nat → Option Nat → Int32 → Int32 → Int32 → Option AS} {y : Int32 → AS → Option AS}
    (s5 : sI S 128 (5 * k) = Int32.ofNat kd) (s51 : sI S 128 (5 * k + 1) = Int32.ofNat a)
    (H : ∀ v w : Int32, (v = 0 ↔ w = 0) → HW (f_W_goes_B187 k11 S (some 127) (some 128) (some 129) (some 130) (some 131) (some 132) (some 133) (some 134) (Int32.ofNat i) (Int32.ofNat (6 * i)) (Int32.ofNat k) v) (y w m) Q) :
    HW (if Int32.ofNat kd = (1 : Int32) then
      (aI S 40 (some 130) (Int32.ofNat (6 * i))).bind fun v30 =>
      (aI S 40 (some 129) (((12 : Int32) * v30) + (10 : Int32))).bind fun v31 =>
      (aI S 40 (some 130) (Int32.ofNat (6 * i) + (1 : Int32))).bind fun v32 =>
      if ((v31 >>> (v32 &&& 31)) &&& (1 : Int32)) = (1 : Int32) then
      f_W_goes_B187 k11 S (some 127) (some 128) (some 129) (some 130) (some 131) (some 132) (some 133) (some 134) (Int32.ofNat i) (Int32.ofNat (6 * i)) (Int32.ofNat k) (1 : Int32)
      else
      f_W_goes_B187 k11 S (some 127) (some 128) (some 129) (some 130) (some 131) (some 132) (some 133) (some 134) (Int32.ofNat i) (Int32.ofNat (6 * i)) (Int32.ofNat k) (0 : Int32)
      else
      if Int32.ofNat kd = (2 : Int32) then
      kr_b2 (f_W_risk S (some 127) (some 129) (some 130) (Int32.ofNat i)) fun v34 S33 =>
      if v34 < Int32.ofNat a then
      f_W_goes_B187 k11 S33 (some 127) (some 128) (some 129) (some 130) (some 131) (some 132) (some 133) (some 134) (Int32.ofNat i) (Int32.ofNat (6 * i)) (Int32.ofNat k) (0 : Int32)
      else
      f_W_goes_B187 k11 S33 (some 127) (some 128) (some 129) (some 130) (some 131) (some 132) (some 133) (some 134) (Int32.ofNat i) (Int32.ofNat (6 * i)) (Int32.ofNat k) (1 : Int32)
      else
      if Int32.ofNat kd = (3 : Int32) then
      (aI S 40 (some 130) (Int32.ofNat (6 * i))).bind fun v35 =>
      (aI S 40 (some 129) (((12 : Int32) * v35) + Int32.ofNat a)).bind fun v36 =>
      if v36 = (1 : Int32) then
      f_W_goes_B187 k11 S (some 127) (some 128) (some 129) (some 130) (some 131) (some 132) (some 133) (some 134) (Int32.ofNat i) (Int32.ofNat (6 * i)) (Int32.ofNat k) (1 : Int32)
      else
      f_W_goes_B187 k11 S (some 127) (some 128) (some 129) (some 130) (some 131) (some 132) (some 133) (some 134) (Int32.ofNat i) (Int32.ofNat (6 * i)) (Int32.ofNat k) (0 : Int32)
      else
      (aI S 40 (some 132) ((3 : Int32) * Int32.ofNat i)).bind fun v37 =>
      (aI S 40 (some 132) (((3 : Int32) * Int32.ofNat i) + (1 : Int32))).bind fun v38 =>
      (aI S 40 (some 132) (((3 : Int32) * Int32.ofNat i) + (2 : Int32))).bind fun v39 =>
      kr_b2 (f_W_level S v37 v38 v39) fun v41 S40 =>
      if v41 < Int32.ofNat a then
      f_W_goes_B187 k11 S40 (some 127) (some 128) (some 129) (some 130) (some 131) (some 132) (some 133) (some 134) (Int32.ofNat i) (Int32.ofNat (6 * i)) (Int32.ofNat k) (0 : Int32)
      else
      f_W_goes_B187 k11 S40 (some 127) (some 128) (some 129) (some 130) (some 131) (some 132) (some 133) (some 134) (Int32.ofNat i) (Int32.ofNat (6 * i)) (Int32.ofNat k) (1 : Int32))
    (kr_b2 (f_M_holds m (some 57) (Int32.ofNat i) (Int32.ofNat k)) y) Q := by
  obtain ⟨lr, hmf, ⟨now, -⟩, ⟨fac, wr, kn⟩, ⟨att, ash, n10⟩, pts⟩ := h
  have lr' := lr
  obtain ⟨r127, r128, r129, r130, -, r132, -⟩ := lr
  obtain ⟨⟨p, p3, a1, a2⟩, ⟨d, d3, b1, b2⟩, -, -⟩ := att i hi
  have ji : (Int32.ofNat i).toNatClampNeg = i := oc (by omega)
  have jk : (Int32.ofNat k).toNatClampNeg = k := oc (by omega)
  have e1 : ∀ n, Int32.ofNat kd = Int32.ofNat n → n < 10 → kd = n := fun n q hn => oinjq (by omega) (by omega) q
  -- the reference's answer
  have hh : ∀ w : Int32, Hp (f_M_holds m (some 57) (Int32.ofNat i) (Int32.ofNat k)) (fun q => q = (w, m)) → ∀ x, HW x (y w m) Q → HW x (kr_b2 (f_M_holds m (some 57) (Int32.ofNat i) (Int32.ofNat k)) y) Q := fun w hp x hx => wm_of (st_hp2 hp) hx
  by_cases c1 : kd = 1
  · refine w_T (by rw [c1]; rfl) ?_
    refine w_aIe r130 (n := 6 * i) rfl (by omega) a1 (w_aI r129 (n := 12 * p + 10) (wix 12 p 10) (by omega) (w_aIe r130 (n := 6 * i + 1) (wadd _ 1) (by omega) b1 ?_))
    rw [bitv _ (by omega)]
    obtain ⟨⟨k1, k2⟩, -⟩ := kn p p3 d d3
    have hp : Hp (f_M_holds m (some 57) (Int32.ofNat i) (Int32.ofNat k)) (fun q => q = (sI m 62 (6 * p + d), m)) := by
      unfold f_M_holds
      refine p_of (st_gRe (hmf 20 75 rfl)) (p_of (st_aIe ji a2) (p_of (st_gRe (hmf 11 67 rfl)) (p_of (st_aIe jk m67) (p_of (st_T (by rw [c1]; rfl)) ?_))))
      refine p_of (st_gRe (hmf 5 62 rfl)) (p_of (st_gRe (hmf 21 76 rfl)) (p_of (st_aIe ji b2) (p_of (st_aIe (n := 6 * p + d) ?_ rfl) (p_of st_z (p_ret rfl)))))
      rw [show (6 : Int32) * Int32.ofNat p + Int32.ofNat d = Int32.ofNat (6 * p + d) from wix 6 p d]
      exact oc (by omega)
    cases e : bt (sI S 129 (12 * p + 10)) d with
    | true =>
      have m1 := k1.mp e
      exact w_T rfl (hh _ hp _ (H 1 _ ⟨fun q => absurd q (by decide), fun q => by rw [m1] at q; exact absurd q (by decide)⟩))
    | false =>
      have m0 : sI m 62 (6 * p + d) = 0 := k2.resolve_right (fun q => by
        have := k1.mpr q
        rw [e] at this
        cases this)
      exact w_F (by decide) (hh _ hp _ (H 0 _ ⟨fun _ => m0, fun _ => rfl⟩))
  · refine w_F (fun q => c1 (e1 1 q (by decide))) ?_
    have n1 : ¬ Int32.ofNat kd = (1 : Int32) := fun q => c1 (e1 1 q (by decide))
    by_cases c2 : kd = 2
    · refine w_T (by rw [c2]; rfl) ?_
      obtain ⟨rv, ev, hv⟩ := g_risk r127 r129 r130 hmf now wr kn att pts hi n10
      refine w_b2 ev ?_
      have hp : Hp (f_M_holds m (some 57) (Int32.ofNat i) (Int32.ofNat k)) (fun q => q = (if rv < Int32.ofNat a then 0 else 1, m)) := by
        unfold f_M_holds
        refine p_of (st_gRe (hmf 20 75 rfl)) (p_of (st_aIe ji a2) (p_of (st_gRe (hmf 11 67 rfl)) (p_of (st_aIe jk m67) (p_of (st_F n1) ?_))))
        refine p_of (st_gRe (hmf 11 67 rfl)) (p_of (st_aIe jk m67) (p_of (st_T (by rw [c2]; rfl)) (p_of st_rv (p_b2 hv (fun v S' q => ?_)))))
        obtain ⟨q1, q2⟩ := Prod.mk.inj q
        rw [q1, q2]
        refine p_of (st_gRe (hmf 12 68 rfl)) (p_of (st_aIe jk m68) ?_)
        by_cases c : rv < Int32.ofNat a
        · rw [if_pos c, if_pos c]
          exact p_ret rfl
        · rw [if_neg c, if_neg c]
          exact p_ret rfl
      by_cases c : rv < Int32.ofNat a
      · rw [if_pos c] at hp
        exact w_T c (hh _ hp _ (H 0 0 Iff.rfl))
      · rw [if_neg c] at hp
        exact w_F c (hh _ hp _ (H 1 1 Iff.rfl))
    · refine w_F (fun q => c2 (e1 2 q (by decide))) ?_
      have n2 : ¬ Int32.ofNat kd = (2 : Int32) := fun q => c2 (e1 2 q (by decide))
      by_cases c3 : kd = 3
      · refine w_T (by rw [c3]; rfl) ?_
        have a3 := ha c3
        obtain ⟨⟨st, st3, f1, f2⟩, -⟩ := (fac p p3).1 a a3
        refine w_aIe r130 (n := 6 * i) rfl (by omega) a1 (w_aIe r129 (n := 12 * p + a) (wix 12 p a) (by omega) f1 ?_)
        have hp : Hp (f_M_holds m (some 57) (Int32.ofNat i) (Int32.ofNat k)) (fun q => q = (if Int32.ofNat st = 1 then 1 else 0, m)) := by
          unfold f_M_holds
          refine p_of (st_gRe (hmf 20 75 rfl)) (p_of (st_aIe ji a2) (p_of (st_gRe (hmf 11 67 rfl)) (p_of (st_aIe jk m67) (p_of (st_F n1) ?_))))
          refine p_of (st_gRe (hmf 11 67 rfl)) (p_of (st_aIe jk m67) (p_of (st_F n2) ?_))
          refine p_of (st_gRe (hmf 11 67 rfl)) (p_of (st_aIe jk m67) (p_of (st_T (by rw [c3]; rfl)) ?_))
          refine p_of (st_gRe (hmf 1 58 rfl)) (p_of (st_gRe (hmf 12 68 rfl)) (p_of (st_aIe jk m68) (p_of (st_aIe (n := 3 * p + a) (ix3 p (by omega) a a3) f2) ?_)))
          by_cases c : Int32.ofNat st = 1
          · rw [if_pos c, if_pos c]
            exact p_ret rfl
          · rw [if_neg c, if_neg c]
            exact p_ret rfl
        by_cases c : Int32.ofNat st = 1
        · rw [if_pos c] at hp
          exact w_T c (hh _ hp _ (H 1 1 Iff.rfl))
        · rw [if_neg c] at hp
          exact w_F c (hh _ hp _ (H 0 0 Iff.rfl))
      · refine w_F (fun q => c3 (e1 3 q (by decide))) ?_
        have n3 : ¬ Int32.ofNat kd = (3 : Int32) := fun q => c3 (e1 3 q (by decide))
        have z0 := ash i hi 0 (by decide)
        have z1 := ash i hi 1 (by decide)
        have z2 := ash i hi 2 (by decide)
        rw [Nat.add_zero] at z0
        refine w_aIe r132 (n := 3 * i) (wmul 3 i) (by omega) z0.1 (w_aIe r132 (n := 3 * i + 1) (wix 3 i 1) (by omega) z1.1 (w_aIe r132 (n := 3 * i + 2) (wix 3 i 2) (by omega) z2.1 ?_))
        refine w_b2 (x_levelm z0.2 z1.2 z2.2) ?_
        have hp : Hp (f_M_holds m (some 57) (Int32.ofNat i) (Int32.ofNat k)) (fun q => q = (if LVL (nB (sI m 84 (3 * i))) (nB (sI m 84 (3 * i + 1))) (nB (sI m 84 (3 * i + 2))) < Int32.ofNat a then 0 else 1, m)) := by
          unfold f_M_holds
          refine p_of (st_gRe (hmf 20 75 rfl)) (p_of (st_aIe ji a2) (p_of (st_gRe (hmf 11 67 rfl)) (p_of (st_aIe jk m67) (p_of (st_F n1) ?_))))
          refine p_of (st_gRe (hmf 11 67 rfl)) (p_of (st_aIe jk m67) (p_of (st_F n2) ?_))
          refine p_of (st_gRe (hmf 11 67 rfl)) (p_of (st_aIe jk m67) (p_of (st_F n3) ?_))
          refine p_of st_rv (p_b2 (p_shownIn hmf (i := i) (by omega)) (fun v S' q => ?_))
          obtain ⟨q1, q2⟩ := Prod.mk.inj q
          rw [q1, q2]
          unfold f_M_levelOf
          refine p_of (st_b2 rfl) ?_
          rw [lvl_bits]
          refine p_of (st_gRe (hmf 12 68 rfl)) (p_of (st_aIe jk m68) ?_)
          by_cases c : LVL (nB (sI m 84 (3 * i))) (nB (sI m 84 (3 * i + 1))) (nB (sI m 84 (3 * i + 2))) < Int32.ofNat a
          · rw [if_pos c, if_pos c]
            exact p_ret rfl
          · rw [if_neg c, if_neg c]
            exact p_ret rfl
        by_cases c : LVL (nB (sI m 84 (3 * i))) (nB (sI m 84 (3 * i + 1))) (nB (sI m 84 (3 * i + 2))) < Int32.ofNat a
        · rw [if_pos c] at hp
          exact w_T c (hh _ hp _ (H 0 0 Iff.rfl))
        · rw [if_neg c] at hp
          exact w_F c (hh _ hp _ (H 1 1 Iff.rfl))
end
