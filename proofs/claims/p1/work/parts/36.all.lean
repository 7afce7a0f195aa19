/-! ===== p1: all calls ===== -/
theorem kr_ifg {P : Prop} [Decidable P] {x y : Option (Int32 × AS)} (h1 : kr_good x = true) (h2 : kr_good y = true) : kr_good (if P then x else y) = true := by
  by_cases h : P
  · rw [if_pos h]; exact h1
  · rw [if_neg h]; exact h2
theorem kr_p : kr_pure := by
  intro X L hL
  rw [kr_start]
  refine kr_good_of ?_
  show kr_good (f_W_law_C23 X L (f_W_law_L23 X L 1999) kr_Z (some 4) (some 57) (some 126) (0 : Int32)) = true
  by_cases h6 : L = 6
  · subst h6
    unfold f_W_law_C23
    rw [if_neg (by decide), kr_sx0, Option.bind_some, Option.bind_some]
    show kr_good (if X 0 &&& 63 = 0 then f_W_law_B260 X 6 (kr_K6 X) kr_Z (some 4) (some 57) (some 126) (0 : Int32) else _) = true
    refine kr_ifg (o_pass X) ?_
    refine kr_ifg (o_enroll X) ?_
    refine kr_ifg (o_factor X) ?_
    refine kr_ifg (o_step X) ?_
    refine kr_ifg (o_clear X) ?_
    refine kr_ifg (o_publish X) ?_
    refine kr_ifg (o_weakest X) ?_
    refine kr_ifg (o_points X) ?_
    refine kr_ifg (o_begin X) ?_
    refine kr_ifg (o_answer X) ?_
    refine kr_ifg (o_state X) ?_
    refine kr_ifg (o_asked X) ?_
    refine kr_ifg (o_sessionOf X) ?_
    refine kr_ifg (o_risk X) ?_
    refine kr_ifg (o_trialRisk X) ?_
    refine kr_ifg (o_sessions X) ?_
    refine kr_ifg (o_isLive X) ?_
    refine kr_ifg (o_isLiveByAudit X) ?_
    refine kr_ifg (o_level X) ?_
    refine kr_ifg (o_stepUp X) ?_
    refine kr_ifg (o_signOut X) ?_
    refine kr_ifg (o_helper X) ?_
    refine kr_ifg (o_act X) ?_
    refine kr_ifg (o_consent X) ?_
    refine kr_ifg (o_withdraw X) ?_
    refine kr_ifg (o_need X) ?_
    refine kr_ifg (o_authorize X) ?_
    refine kr_ifg (o_redeem X) ?_
    refine kr_ifg (o_refresh X) ?_
    refine kr_ifg (o_isGood X) ?_
    refine kr_ifg (o_tokenOf X) ?_
    refine kr_ifg (o_exchange X) ?_
    refine kr_ifg (o_token X) ?_
    refine kr_ifg (o_turn X) ?_
    refine kr_ifg (o_emergency X) ?_
    refine kr_ifg (o_signing X) ?_
    refine kr_ifg (o_isPublished X) ?_
    refine kr_ifg (o_line X) ?_
    refine kr_ifg (o_check X) ?_
    refine kr_ifg (o_lag X) ?_
    refine kr_ifg (o_recover X) ?_
    refine kr_ifg (o_vouch X) ?_
    refine kr_ifg (o_stop X) ?_
    refine kr_ifg (o_finish X) ?_
    refine kr_ifg (o_link X) ?_
    refine kr_ifg (o_foreign X) ?_
    refine kr_ifg (o_leave X) ?_
    refine kr_ifg (o_audits X) ?_
    refine kr_ifg (o_audit X) ?_
    refine kr_ifg (o_sum X) ?_
    refine kr_ifg (o_sumAnew X) ?_
    show kr_good (f_W_law_B3320 X 6 (kr_K6 X) kr_Z (some 4) (some 57) (some 126) (0 : Int32)) = true
    rw [kr_tail]
    exact kr_gd rfl rfl
  · unfold f_W_law_C23
    have hc : (Int32.ofNat L) - (6 : Int32) < 0 := by
      have h5 : L < 6 := by omega
      clear h6 hL
      revert L
      decide +kernel
    rw [if_pos hc]
    exact kr_gd rfl rfl
