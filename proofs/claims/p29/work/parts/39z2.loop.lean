/-! ===== the loop ===== -/
theorem lw_C {X : Nat → Int32} {L : Nat} {k : AS → Option Nat → Option Nat → Option Nat → Int32 → Option (Int32 × AS)} {Q : Int32 × AS → Prop} {n : Nat} {S : AS} (hL : L ≤ 3072) (hn : 6 * n ≤ 3072) (hw : LW n S) (hq : Q (1, S)) (hk : ∀ S', 6 * n + 6 ≤ L → LW (n + 1) S' → Ho (k S' (some 4) (some 57) (some 126) (Int32.ofNat (6 * n) + 6)) Q) : Ho (f_W_law_C23 X L k S (some 4) (some 57) (some 126) (Int32.ofNat (6 * n))) Q := by
  have e1 : (Int32.ofNat (6 * n)).toInt = ((6 * n : Nat) : Int) := kw_nat (by omega)
  unfold f_W_law_C23
  refine r_if (fun _ => r_some hq) (fun c => ?_)
  have c6 : (Int32.ofNat (6 * n)).toInt + 6 ≤ (L : Int) := by
    have e2 : (Int32.ofNat L - 6).toInt = (L : Int) - 6 := kw_sub6 hL
    rw [Int32.lt_iff_toInt_lt, e2, e1] at c
    rw [e1]
    omega
  have h0 : 0 ≤ (Int32.ofNat (6 * n)).toInt := by rw [e1]; omega
  have hL6 : 6 * n + 6 ≤ L := by rw [e1] at c6; omega
  have hk := fun S' => hk S' hL6
  refine r_sx (kw_sx0 h0 (by omega)) (fun v _ => ?_)
  refine r_val ?_
  refine r_if (fun _ => c_pass hL h0 c6 (by omega) hw hk) (fun _ => ?_)
  refine r_if (fun _ => c_enroll hL h0 c6 (by omega) hw hk) (fun _ => ?_)
  refine r_if (fun _ => c_factor hL h0 c6 (by omega) hw hk) (fun _ => ?_)
  refine r_if (fun _ => c_step hL h0 c6 (by omega) hw hk) (fun _ => ?_)
  refine r_if (fun _ => c_clear hL h0 c6 (by omega) hw hk) (fun _ => ?_)
  refine r_if (fun _ => c_publish hL h0 c6 (by omega) hw hk) (fun _ => ?_)
  refine r_if (fun _ => c_weakest hL h0 c6 (by omega) hw hk) (fun _ => ?_)
  refine r_if (fun _ => c_points hL h0 c6 (by omega) hw hk) (fun _ => ?_)
  refine r_if (fun _ => c_begin hL h0 c6 (by omega) hw hk) (fun _ => ?_)
  refine r_if (fun _ => c_answer hL h0 c6 (by omega) hw hk) (fun _ => ?_)
  refine r_if (fun _ => c_state hL h0 c6 (by omega) hw hk) (fun _ => ?_)
  refine r_if (fun _ => c_asked hL h0 c6 (by omega) hw hk) (fun _ => ?_)
  refine r_if (fun _ => c_sessionOf hL h0 c6 (by omega) hw hk) (fun _ => ?_)
  refine r_if (fun _ => c_risk hL h0 c6 (by omega) hw hk) (fun _ => ?_)
  refine r_if (fun _ => c_trialRisk hL h0 c6 (by omega) hw hk) (fun _ => ?_)
  refine r_if (fun _ => c_sessions hL h0 c6 (by omega) hw hk) (fun _ => ?_)
  refine r_if (fun _ => c_isLive hL h0 c6 (by omega) hw hk) (fun _ => ?_)
  refine r_if (fun _ => c_isLiveByAudit hL h0 c6 (by omega) hw hk) (fun _ => ?_)
  refine r_if (fun _ => c_level hL h0 c6 (by omega) hw hk) (fun _ => ?_)
  refine r_if (fun _ => c_stepUp hL h0 c6 (by omega) hw hk) (fun _ => ?_)
  refine r_if (fun _ => c_signOut hL h0 c6 (by omega) hw hk) (fun _ => ?_)
  refine r_if (fun _ => c_helper hL h0 c6 (by omega) hw hk) (fun _ => ?_)
  refine r_if (fun _ => c_act hL h0 c6 (by omega) hw hk) (fun _ => ?_)
  refine r_if (fun _ => c_consent hL h0 c6 (by omega) hw hk) (fun _ => ?_)
  refine r_if (fun _ => c_withdraw hL h0 c6 (by omega) hw hk) (fun _ => ?_)
  refine r_if (fun _ => c_need hL h0 c6 (by omega) hw hk) (fun _ => ?_)
  refine r_if (fun _ => c_authorize hL h0 c6 (by omega) hw hk) (fun _ => ?_)
  refine r_if (fun _ => c_redeem hL h0 c6 (by omega) hw hk) (fun _ => ?_)
  refine r_if (fun _ => c_refresh hL h0 c6 (by omega) hw hk) (fun _ => ?_)
  refine r_if (fun _ => c_isGood hL h0 c6 (by omega) hw hk) (fun _ => ?_)
  refine r_if (fun _ => c_tokenOf hL h0 c6 (by omega) hw hk) (fun _ => ?_)
  refine r_if (fun _ => c_exchange hL h0 c6 (by omega) hw hk) (fun _ => ?_)
  refine r_if (fun _ => c_token hL h0 c6 (by omega) hw hk) (fun _ => ?_)
  refine r_if (fun _ => c_turn hL h0 c6 (by omega) hw hk) (fun _ => ?_)
  refine r_if (fun _ => c_emergency hL h0 c6 (by omega) hw hk) (fun _ => ?_)
  refine r_if (fun _ => c_signing hL h0 c6 (by omega) hw hk) (fun _ => ?_)
  refine r_if (fun _ => c_isPublished hL h0 c6 (by omega) hw hk) (fun _ => ?_)
  refine r_if (fun _ => c_line hL h0 c6 (by omega) hw hk) (fun _ => ?_)
  refine r_if (fun _ => c_check hL h0 c6 (by omega) hw hk) (fun _ => ?_)
  refine r_if (fun _ => c_lag hL h0 c6 (by omega) hw hk) (fun _ => ?_)
  refine r_if (fun _ => c_recover hL h0 c6 (by omega) hw hk) (fun _ => ?_)
  refine r_if (fun _ => c_vouch hL h0 c6 (by omega) hw hk) (fun _ => ?_)
  refine r_if (fun _ => c_stop hL h0 c6 (by omega) hw hk) (fun _ => ?_)
  refine r_if (fun _ => c_finish hL h0 c6 (by omega) hw hk) (fun _ => ?_)
  refine r_if (fun _ => c_link hL h0 c6 (by omega) hw hk) (fun _ => ?_)
  refine r_if (fun _ => c_foreign hL h0 c6 (by omega) hw hk) (fun _ => ?_)
  refine r_if (fun _ => c_leave hL h0 c6 (by omega) hw hk) (fun _ => ?_)
  refine r_if (fun _ => c_audits hL h0 c6 (by omega) hw hk) (fun _ => ?_)
  refine r_if (fun _ => c_audit hL h0 c6 (by omega) hw hk) (fun _ => ?_)
  refine r_if (fun _ => c_sum hL h0 c6 (by omega) hw hk) (fun _ => ?_)
  refine r_if (fun _ => c_sumAnew hL h0 c6 (by omega) hw hk) (fun _ => ?_)
  exact hk _ (LW_up hw)
theorem lw_L {X : Nat → Int32} {L : Nat} (hL : L ≤ 3072) : ∀ (f n : Nat) (S : AS), n + f = 2000 → 6 * n ≤ 3072 → LW n S → Ho (f_W_law_L23 X L f S (some 4) (some 57) (some 126) (Int32.ofNat (6 * n))) (fun b => b.1 = 1 ∧ sC b.2 ≤ kr_cM ∧ sS b.2 ≤ kr_sM)
  | 0, n, S, hf, hn, _ => by omega
  | f + 1, n, S, hf, hn, hw => by
    unfold f_W_law_L23
    refine lw_C hL hn hw ⟨rfl, ?_⟩ (fun S' h6 hw' => ?_)
    · obtain ⟨T, hI, -⟩ := hw
      obtain ⟨-, -, -, -, h5, h6⟩ := hI
      unfold kr_cM kr_sM
      exact ⟨by show sC S ≤ _; omega, by show sS S ≤ _; omega⟩
    · have e : Int32.ofNat (6 * n) + 6 = Int32.ofNat (6 * (n + 1)) := by
        rw [show 6 * (n + 1) = 6 * n + 6 by omega, Int32.ofNat_add]
        rfl
      rw [e]
      exact lw_L hL f (n + 1) S' (by omega) (by omega) hw'
theorem kr_p : kr_pure := by
  intro X L hL
  obtain ⟨⟨r, S'⟩, h1, h2, h3⟩ := lw_L (X := X) hL kr_FU 0 kr_Z (by decide) (by decide) z_LW
  refine ⟨S', ?_, h3⟩
  rw [kr_start]
  have h2 : r = 1 := h2
  rw [← h2]
  exact h1
