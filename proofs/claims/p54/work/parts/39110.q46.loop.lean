/-! ===== the law's loop: 150 steps ===== -/
theorem x_cell (X : Nat → Int32) (L : Nat) (hL : L ≤ 260) (S : AS) {i : Nat} (hi : i ≤ 100) : ∃ v, f_W_cell X L S (Int32.ofNat i) = some (v, S) := by
  unfold f_W_cell
  by_cases c : Int32.ofNat L ≤ Int32.ofNat i
  · rw [if_pos c]
    exact ⟨_, rfl⟩
  · have c2 : i < L := by
      have : ¬ L ≤ i := fun q => c ((oleq (a := L) (b := i) (by omega) (by omega)).mpr q)
      omega
    rw [if_neg c]
    unfold kr_sx
    rw [if_pos ⟨by rw [oiq (by omega)]; omega, by rw [oiq (by omega)]; omega⟩]
    exact ⟨_, rfl⟩
theorem mod83 : ∀ i, i < 150 → Int32.ofNat i - Int32.ofNat i / (83 : Int32) * (83 : Int32) = Int32.ofNat (i % 83) := by decide +kernel
section
variable {X : Nat → Int32} {L n r i : Nat} {T : Nat → Nat} {S : AS} {x20 y0 : Int32} {Q : Int32 × AS → Prop}
theorem lp_step {k : (AS → Option Nat → Option Nat → Option Nat → Option Nat → Option Nat → Option Nat → Option Nat → Option Nat → Option Nat → Option Nat → Option Nat → Option Nat → Option Nat → Option Nat → Option Nat → Int32 → Int32 → Option (Int32 × AS))} (L0 : L54 n r T S) (hn : n ≤ 200) (hk : ∀ T' S', L54 (n + 1) (r + 19) T' S' → Ho (k S' (some 4) (some 127) (some 128) (some 129) (some 130) (some 131) (some 132) (some 133) (some 134) (some 135) (some 136) (some 137) (some 138) (some 139) (some 140) 1 (Int32.ofNat (i + 1))) Q) : Ho (f_W_law_B504 X L k S (some 4) (some 127) (some 128) (some 129) (some 130) (some 131) (some 132) (some 133) (some 134) (some 135) (some 136) (some 137) (some 138) (some 139) (some 140) (Int32.ofNat i) x20 y0) Q := by
  have tail : ∀ (v : Int32) (S1 : AS), G54 n r (v, S1) → Ho (f_W_law_B1066 X L k S1 (some 4) (some 127) (some 128) (some 129) (some 130) (some 131) (some 132) (some 133) (some 134) (some 135) (some 136) (some 137) (some 138) (some 139) (some 140) (Int32.ofNat i) x20 v) Q := fun v S1 g => by
    obtain ⟨e, T1, L1⟩ := g
    have e : v = 1 := e
    rw [e]
    unfold f_W_law_B1066
    refine r_ifF one0 (o_b2o (l_asks L1 (by omega)) (fun v2 S2 g2 => ?_))
    obtain ⟨e2, T2, L2⟩ := g2
    have e2 : v2 = 1 := e2
    rw [e2]
    refine r_ifF one0 ?_
    unfold f_W_law_B1107
    refine r_val ?_
    rw [o1]
    exact hk T2 S2 L2
  unfold f_W_law_B504
  refine r_if (fun _ => ?_) (fun _ => o_b2o (l_enroll L0 (by omega)) (fun v S1 g => tail v S1 g))
  refine r_if (fun _ => ?_) (fun _ => o_b2o (l_begin L0 (by omega)) (fun v S1 g => tail v S1 g))
  refine r_if (fun _ => ?_) (fun _ => o_b2o (l_answer L0 (by omega)) (fun v S1 g => tail v S1 g))
  refine r_if (fun _ => ?_) (fun _ => o_b2o (l_pass L0 (by omega)) (fun v S1 g => tail v S1 g))
  refine r_if (fun _ => ?_) (fun _ => o_b2o (l_signOut L0 (by omega)) (fun v S1 g => tail v S1 g))
  refine r_if (fun _ => ?_) (fun _ => o_b2o (l_stepUp L0 (by omega)) (fun v S1 g => tail v S1 g))
  refine r_if (fun _ => ?_) (fun _ => o_b2o (l_helper L0 (by omega)) (fun v S1 g => tail v S1 g))
  refine r_if (fun _ => ?_) (fun _ => o_b2o (l_act L0 (by omega)) (fun v S1 g => tail v S1 g))
  refine r_if (fun _ => ?_) (fun _ => o_b2o (l_consent L0 (by omega)) (fun v S1 g => tail v S1 g))
  refine r_if (fun _ => ?_) (fun _ => ?_)
  case refine_2 =>
    refine o_some 2 rfl (by decide) (by decide) (fun w w2 => ?_)
    have hw : w = 0 ∨ w = 1 := by omega
    rcases hw with rfl | rfl
    · rw [show Int32.ofNat 0 + (1 : Int32) = (1 : Int32) from rfl]
      exact o_b2o (l_withdraw L0 (by omega)) (fun v S1 g => tail v S1 g)
    · rw [show Int32.ofNat 1 + (1 : Int32) = (2 : Int32) from rfl]
      exact o_b2o (l_need L0 (by omega)) (fun v S1 g => tail v S1 g)
  refine r_if (fun _ => ?_) (fun _ => o_b2o (l_authorize L0 (by omega)) (fun v S1 g => tail v S1 g))
  refine r_if (fun _ => ?_) (fun _ => o_b2o (l_redeem L0 (by omega)) (fun v S1 g => tail v S1 g))
  refine r_if (fun _ => ?_) (fun _ => o_b2o (l_refresh L0 (by omega)) (fun v S1 g => tail v S1 g))
  refine r_if (fun _ => ?_) (fun _ => o_b2o (l_exchange L0 (by omega)) (fun v S1 g => tail v S1 g))
  refine r_if (fun _ => ?_) (fun _ => o_b2o (l_turn L0 (by omega)) (fun v S1 g => tail v S1 g))
  refine r_if (fun _ => o_b2o (l_check L0 (by omega)) (fun v S1 g => tail v S1 g)) (fun _ => o_b2o (l_line L0 (by omega)) (fun v S1 g => tail v S1 g))
theorem lp_loop (hL : L ≤ 260) : ∀ (k i fu : Nat) (T : Nat → Nat) (S : AS), i + k = 150 → k < fu → L54 (20 + i) (30 + 19 * i) T S → Ho (f_W_law_L449 X L fu S (some 4) (some 127) (some 128) (some 129) (some 130) (some 131) (some 132) (some 133) (some 134) (some 135) (some 136) (some 137) (some 138) (some 139) (some 140) 1 (Int32.ofNat i)) (fun q => q.1 = 1 ∧ ∃ T', L54 170 2880 T' q.2)
  | _, _, 0, _, _, _, h, _ => absurd h (Nat.not_lt_zero _)
  | k, i, fu + 1, T, S, hk, hfu, L0 => by
    unfold f_W_law_L449 f_W_law_C449
    by_cases c : i < 150
    · refine r_ifF (ofF (a := i) (b := 150) (by omega) (by omega) c) (r_ifF one0 ?_)
      rw [mod83 i c]
      obtain ⟨v, ev⟩ := x_cell X L hL S (i := i % 83) (by omega)
      refine o_b2 ev (r_val (r_val ?_))
      have go : ∀ x20 y0 : Int32, Ho (f_W_law_B504 X L (f_W_law_L449 X L fu) S (some 4) (some 127) (some 128) (some 129) (some 130) (some 131) (some 132) (some 133) (some 134) (some 135) (some 136) (some 137) (some 138) (some 139) (some 140) (Int32.ofNat i) x20 y0) (fun q => q.1 = 1 ∧ ∃ T', L54 170 2880 T' q.2) := fun x20 y0 =>
        lp_step L0 (by omega) (fun T' S' L2 => lp_loop hL (k - 1) (i + 1) fu T' S' (by omega) (by omega) (by rw [show 20 + (i + 1) = 20 + i + 1 by omega, show 30 + 19 * (i + 1) = 30 + 19 * i + 19 by omega]; exact L2))
      exact r_if (fun _ => o_some 40 rfl (by decide) (by decide) (fun w _ => go _ _)) (fun _ => go _ _)
    · have ei : i = 150 := by omega
      rw [ei] at L0 ⊢
      exact r_ifT (ofT (a := 150) (b := 150) (by omega) (by omega) (by omega)) (r_z ⟨by decide, by decide⟩ ⟨_, rfl, rfl, T, L0⟩)
end
