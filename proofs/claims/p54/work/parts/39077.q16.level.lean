/-! ===== the level of a session; the risk of an attempt ===== -/
def shB (n z : Int32) : Bool := decide (¬ z = -1 ∧ ¬ (120 : Int32) < n - z)
def LVL (a b c : Bool) : Int32 := ((if a = true then (1 : Int32) else 0) + (if b = true then (2 : Int32) else 0)) + (if c = true then (3 : Int32) else 0)
theorem mok_lt {z : Int32} (h : mok z) : z < 0 ↔ z = -1 := by
  constructor
  · intro q
    have q := lt0.mp q
    rcases h with h | ⟨h1, h2⟩
    · exact h
    · omega
  · intro q
    rw [q]
    decide
theorem lt120 (x : Int32) : (121 : Int32) ≤ x ↔ (120 : Int32) < x := by
  rw [Int32.le_iff_toInt_le, Int32.lt_iff_toInt_lt, show (121 : Int32).toInt = 121 from by decide, show (120 : Int32).toInt = 120 from by decide]
  omega
theorem x_shown {S : AS} {s f : Nat} (r1 : Rw S 127 14) (r2 : Rw S 134 45) (hs : s < 15) (hf : f < 3) {fi : Int32} (ef : fi = Int32.ofNat f) (hz : mok (sI S 134 (3 * s + f))) : f_W_shown S (some 127) (some 134) (Int32.ofNat s) fi = some (if shB (sI S 127 0) (sI S 134 (3 * s + f)) = true then 1 else -1, S) := by
  subst ef
  unfold f_W_shown
  rw [Rw_aI (i := (3 : Int32) * Int32.ofNat s + Int32.ofNat f) r2 (n := 3 * s + f) (wix 3 s f) (by omega), Option.bind_some]
  by_cases c : sI S 134 (3 * s + f) = -1
  · rw [if_pos ((mok_lt hz).mpr c), if_neg]
    unfold shB
    rw [decide_eq_true_iff]
    exact fun q => q.1 c
  · rw [if_neg (fun q => c ((mok_lt hz).mp q)), Rw_aI (i := (0 : Int32)) r1 (n := 0) rfl (by decide), Option.bind_some, Option.bind_some]
    by_cases d : (120 : Int32) < sI S 127 0 - sI S 134 (3 * s + f)
    · rw [if_pos ((lt120 _).mpr d), if_neg]
      unfold shB
      rw [decide_eq_true_iff]
      exact fun q => q.2 d
    · rw [if_neg (fun q => d ((lt120 _).mp q)), if_pos]
      unfold shB
      rw [decide_eq_true_iff]
      exact ⟨c, d⟩
theorem x_level (S : AS) (a b c : Bool) : f_W_level S (if a = true then 1 else -1) (if b = true then 1 else -1) (if c = true then 1 else -1) = some (LVL a b c, S) := by
  unfold f_W_level f_W_level_B9 f_W_level_B18
  cases a <;> cases b <;> cases c <;> rfl
theorem x_levelOf {S : AS} {s : Nat} (r1 : Rw S 127 14) (r2 : Rw S 134 45) (hs : s < 15) (hz : ∀ f, f < 3 → mok (sI S 134 (3 * s + f))) : f_W_levelOf S (some 127) (some 134) (Int32.ofNat s) = some (LVL (shB (sI S 127 0) (sI S 134 (3 * s))) (shB (sI S 127 0) (sI S 134 (3 * s + 1))) (shB (sI S 127 0) (sI S 134 (3 * s + 2))), S) := by
  unfold f_W_levelOf
  rw [x_shown (fi := (0 : Int32)) r1 r2 hs (f := 0) (by decide) rfl (hz 0 (by decide)), b2_s, x_shown (fi := (1 : Int32)) r1 r2 hs (f := 1) (by decide) rfl (hz 1 (by decide)), b2_s, x_shown (fi := (2 : Int32)) r1 r2 hs (f := 2) (by decide) rfl (hz 2 (by decide)), b2_s, x_level, b2_s]
  rfl
/-- the reference's -/
theorem p_lv_end {m : AS} {s x : Int32} : ∀ fu, Hp (f_M_levelNow_L4 fu m (some 57) s x (3 : Int32)) (fun q => q = (((x &&& (1 : Int32)) + (x &&& (2 : Int32))) + ((3 : Int32) * ((x >>> ((2 : Int32) &&& 31)) &&& (1 : Int32))), m))
  | 0 => p_0
  | fu + 1 => by
    unfold f_M_levelNow_L4 f_M_levelNow_C4
    refine p_of (st_T (by decide)) ?_
    exact p_b2 (P := fun q => q = (((x &&& (1 : Int32)) + (x &&& (2 : Int32))) + ((3 : Int32) * ((x >>> ((2 : Int32) &&& 31)) &&& (1 : Int32))), m)) (p_ret rfl) (fun v S' e => by
      obtain ⟨e1, e2⟩ := Prod.mk.inj e
      rw [e1, e2]
      exact p_ret rfl)
theorem p_lv_st {m : AS} (hmf : MF m) {s f : Nat} (hs : s < 60) (hf : f < 3) {x : Int32} {Q : Int32 × AS → Prop} (H : ∀ fu, Hp (f_M_levelNow_L4 fu m (some 57) (Int32.ofNat s) (x ||| (if shB (sI m 57 0) (sI m 90 (3 * s + f)) = true then (1 : Int32) <<< (Int32.ofNat f &&& 31) else 0)) (Int32.ofNat (f + 1))) Q) : ∀ fu, Hp (f_M_levelNow_L4 fu m (some 57) (Int32.ofNat s) x (Int32.ofNat f)) Q
  | 0 => p_0
  | fu + 1 => by
    unfold f_M_levelNow_L4 f_M_levelNow_C4
    refine p_of (st_F (fun q => by have := (ole (a := 3) (b := f) (by decide) (by omega)).mp q; omega)) (p_of (st_gRe (hmf 36 90 rfl)) (p_of (st_aIe (ix3 s hs f hf) rfl) ?_))
    have no : shB (sI m 57 0) (sI m 90 (3 * s + f)) = false → Hp (f_M_levelNow_B46 (f_M_levelNow_L4 fu) m (some 57) (Int32.ofNat s) (Int32.ofNat f) x) Q := fun e => by
      unfold f_M_levelNow_B46 f_M_levelNow_B47
      refine p_of st_val (p_of st_val ?_)
      have h := H fu
      rw [e] at h
      rw [o1]
      exact h
    by_cases c : sI m 90 (3 * s + f) = -1
    · refine p_of (st_T c) (no ?_)
      unfold shB
      rw [decide_eq_false_iff_not]
      exact fun q => q.1 c
    · refine p_of (st_F c) (p_of st_gI ?_)
      by_cases d : (120 : Int32) < sI m 57 0 - sI m 90 (3 * s + f)
      · refine p_of (st_T d) (no ?_)
        unfold shB
        rw [decide_eq_false_iff_not]
        exact fun q => q.2 d
      · refine p_of (st_F d) ?_
        unfold f_M_levelNow_B47
        refine p_of st_val (p_of st_val ?_)
        have h := H fu
        have e : shB (sI m 57 0) (sI m 90 (3 * s + f)) = true := by
          unfold shB
          rw [decide_eq_true_iff]
          exact ⟨c, d⟩
        rw [e, if_pos rfl] at h
        rw [o1]
        exact h
theorem lvl_bits : ∀ a b c : Bool, (((((0 : Int32) ||| (if a = true then (1 : Int32) <<< (Int32.ofNat 0 &&& 31) else 0)) ||| (if b = true then (1 : Int32) <<< (Int32.ofNat 1 &&& 31) else 0)) ||| (if c = true then (1 : Int32) <<< (Int32.ofNat 2 &&& 31) else 0)) &&& (1 : Int32)) + (((((0 : Int32) ||| (if a = true then (1 : Int32) <<< (Int32.ofNat 0 &&& 31) else 0)) ||| (if b = true then (1 : Int32) <<< (Int32.ofNat 1 &&& 31) else 0)) ||| (if c = true then (1 : Int32) <<< (Int32.ofNat 2 &&& 31) else 0)) &&& (2 : Int32)) +
    (3 : Int32) * (((((0 : Int32) ||| (if a = true then (1 : Int32) <<< (Int32.ofNat 0 &&& 31) else 0)) ||| (if b = true then (1 : Int32) <<< (Int32.ofNat 1 &&& 31) else 0)) ||| (if c = true then (1 : Int32) <<< (Int32.ofNat 2 &&& 31) else 0)) >>> ((2 : Int32) &&& 31) &&& (1 : Int32)) = LVL a b c := by decide +kernel
theorem p_levelNow {m : AS} (hmf : MF m) {s : Nat} (hs : s < 60) : Hp (f_M_levelNow m (some 57) (Int32.ofNat s)) (fun q => q = (LVL (shB (sI m 57 0) (sI m 90 (3 * s))) (shB (sI m 57 0) (sI m 90 (3 * s + 1))) (shB (sI m 57 0) (sI m 90 (3 * s + 2))), m)) := by
  unfold f_M_levelNow
  refine p_lv_st hmf hs (f := 0) (by decide) (p_lv_st hmf hs (f := 1) (by decide) (p_lv_st hmf hs (f := 2) (by decide) (fun fu => p_mono (p_lv_end fu) (fun q e => ?_)))) kr_FU
  rw [e, Nat.add_zero]
  refine Prod.ext ?_ rfl
  exact lvl_bits _ _ _
/-- one level on both sides -/
theorem lvl_eq {S m : AS} {ns s : Nat} (hN : lNow S m) (h : lSsh ns S m) (hs : s < ns) : LVL (shB (sI S 127 0) (sI S 134 (3 * s))) (shB (sI S 127 0) (sI S 134 (3 * s + 1))) (shB (sI S 127 0) (sI S 134 (3 * s + 2))) = LVL (shB (sI m 57 0) (sI m 90 (3 * s))) (shB (sI m 57 0) (sI m 90 (3 * s + 1))) (shB (sI m 57 0) (sI m 90 (3 * s + 2))) := by
  have e0 := (h s hs 0 (by decide)).1
  rw [Nat.add_zero] at e0
  rw [hN.1, e0, (h s hs 1 (by decide)).1, (h s hs 2 (by decide)).1]
