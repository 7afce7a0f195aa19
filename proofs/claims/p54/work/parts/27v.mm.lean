/-! ===== the reference's calls, with what holds between them ===== -/
theorem mm_pass {T : Nat → Nat} {S : AS} (hT : TI T S) {a0 : Option Nat} {a1 : Int32} (h0 : Tx T 100 a0) (hM : MI S) (hph : Ph S ≤ 1100) : Ho (f_M_pass S a0 a1) (fun q => Rl T kw_M9 S 1 0 T q.2 ∧ MI q.2) := by
  obtain ⟨q, h1, h2, -⟩ := t_M_pass hT h0 (Int.le_trans hph (by decide))
  exact ⟨q, h1, Rlweak h2 (fun _ z => z) (by decide) (Nat.le_refl _), MI_fr hM h2 h0 (by decide +kernel)⟩
theorem mm_enroll {T : Nat → Nat} {S : AS} (hT : TI T S) {a0 : Option Nat} {a1 : Int32} {a2 : Int32} (h0 : Tx T 100 a0) (hM : MI S) (hph : Ph S ≤ 1100) : Ho (f_M_enroll S a0 a1 a2) (fun q => Rl T kw_M13 S 1 0 T q.2 ∧ MI q.2) := by
  obtain ⟨q, h1, h2, -⟩ := t_M_enroll hT h0 
  exact ⟨q, h1, Rlweak h2 (fun _ z => z) (by decide) (Nat.le_refl _), MI_fr hM h2 h0 (by decide +kernel)⟩
theorem mm_factor {T : Nat → Nat} {S : AS} (hT : TI T S) {a0 : Option Nat} {a1 : Int32} {a2 : Int32} (h0 : Tx T 100 a0) (hM : MI S) (hph : Ph S ≤ 1100) : Ho (f_M_factor S a0 a1 a2) (fun q => Rl T kw_M4 S 1 0 T q.2 ∧ MI q.2) := by
  obtain ⟨q, h1, h2, -⟩ := t_M_factor hT h0 
  exact ⟨q, h1, Rlweak h2 (fun _ z => z) (by decide) (Nat.le_refl _), MI_fr hM h2 h0 (by decide +kernel)⟩
theorem mm_step {T : Nat → Nat} {S : AS} (hT : TI T S) {a0 : Option Nat} {a1 : Int32} {a2 : Int32} {a3 : Int32} {a4 : Int32} {a5 : Int32} (h0 : Tx T 100 a0) (hM : MI S) (hph : Ph S ≤ 1100) : Ho (f_M_step S a0 a1 a2 a3 a4 a5) (fun q => Rl T kw_st S 1 0 T q.2 ∧ MI q.2) := by
  obtain ⟨n, hn, hn12⟩ := steps_n hT h0 (v := 8) (by decide)
  obtain ⟨q, h1, h2⟩ := t_M_stepX hT h0 hn12 hn
  exact ⟨q, h1, Rlweak h2.1 (fun _ z => z) (by decide) (Nat.le_refl _), MI_step hT h0 hn12 hM h2⟩
theorem mm_clear {T : Nat → Nat} {S : AS} (hT : TI T S) {a0 : Option Nat}  (h0 : Tx T 100 a0) (hM : MI S) (hph : Ph S ≤ 1100) : Ho (f_M_clear S a0) (fun q => Rl T kw_st S 1 0 T q.2 ∧ MI q.2) := by
  obtain ⟨n, hn, hn12⟩ := steps_n hT h0 (v := 8) (by decide)
  obtain ⟨q, h1, h2, h3⟩ := t_M_clearX hT h0 hn12 hn
  exact ⟨q, h1, Rlweak h2 (fun _ z => z) (by decide) (Nat.le_refl _), MI_clear hT h0 hM h2 (by rw [h3])⟩
theorem mm_publish {T : Nat → Nat} {S : AS} (hT : TI T S) {a0 : Option Nat}  (h0 : Tx T 100 a0) (hM : MI S) (hph : Ph S ≤ 1100) : Ho (f_M_publish S a0) (fun q => Rl T (10082 :: kw_pub) S 1 0 T q.2 ∧ MI q.2) := by
  obtain ⟨n, hn, hn12⟩ := steps_n hT h0 (v := 8) (by decide)
  obtain ⟨v, hv, hv8⟩ := fld hT h0 (j := 9) (b := 8) rfl
  obtain ⟨q, h1, h2⟩ := t_M_publish hT h0 hM.1 hn12 hn (ofNat_of hv) hv8
  exact ⟨q, h1, Rlweak h2.1 (fun _ z => z) (by decide) (Nat.le_refl _), MI_publish hT h0 hn12 (ofNat_of hv) hM h2 hv8⟩
theorem mm_weakest {T : Nat → Nat} {S : AS} (hT : TI T S) {a0 : Option Nat} {a1 : Int32} (h0 : Tx T 100 a0) (hM : MI S) (hph : Ph S ≤ 1100) : Ho (f_M_weakest S a0 a1) (fun q => Rl T kw_M22 S 1 0 T q.2 ∧ MI q.2) := by
  obtain ⟨q, h1, h2, -⟩ := t_M_weakest hT h0 hM.1
  exact ⟨q, h1, Rlweak h2 (fun _ z => z) (by decide) (Nat.le_refl _), MI_fr hM h2 h0 (by decide +kernel)⟩
theorem mm_points {T : Nat → Nat} {S : AS} (hT : TI T S) {a0 : Option Nat} {a1 : Int32} {a2 : Int32} {a3 : Int32} (h0 : Tx T 100 a0) (hM : MI S) (hph : Ph S ≤ 1100) : Ho (f_M_points S a0 a1 a2 a3) (fun q => Rl T kw_M25 S 1 0 T q.2 ∧ MI q.2) := by
  obtain ⟨q, h1, h2, -⟩ := t_M_points hT h0 
  exact ⟨q, h1, Rlweak h2 (fun _ z => z) (by decide) (Nat.le_refl _), MI_fr hM h2 h0 (by decide +kernel)⟩
theorem mm_begin {T : Nat → Nat} {S : AS} (hT : TI T S) {a0 : Option Nat} {a1 : Int32} {a2 : Int32} {a3 : Int32} (h0 : Tx T 100 a0) (hM : MI S) (hph : Ph S ≤ 1100) : Ho (f_M_begin S a0 a1 a2 a3) (fun q => Rl T kw_bg S 1 0 T q.2 ∧ MI q.2) := by
  obtain ⟨q, h1, h2, h3⟩ := t_M_begin hT h0 hph hM
  exact ⟨q, h1, Rlweak h2 (fun _ z => z) (by decide) (Nat.le_refl _), h3⟩
theorem mm_answer {T : Nat → Nat} {S : AS} (hT : TI T S) {a0 : Option Nat} {a1 : Int32} {a2 : Int32} {a3 : Int32} (h0 : Tx T 100 a0) (hM : MI S) (hph : Ph S ≤ 1100) : Ho (f_M_answer S a0 a1 a2 a3) (fun q => Rl T kw_an S 1 0 T q.2 ∧ MI q.2) := by
  exact t_M_answer hT h0 hph hM
theorem mm_state {T : Nat → Nat} {S : AS} (hT : TI T S) {a0 : Option Nat} {a1 : Int32} (h0 : Tx T 100 a0) (hM : MI S) (hph : Ph S ≤ 1100) : Ho (f_M_state S a0 a1) (fun q => Rl T kw_M4 S 1 0 T q.2 ∧ MI q.2) := by
  obtain ⟨q, h1, h2, -⟩ := t_M_state hT h0 
  exact ⟨q, h1, Rlweak h2 (fun _ z => z) (by decide) (Nat.le_refl _), MI_fr hM h2 h0 (by decide +kernel)⟩
theorem mm_asked {T : Nat → Nat} {S : AS} (hT : TI T S) {a0 : Option Nat} {a1 : Int32} (h0 : Tx T 100 a0) (hM : MI S) (hph : Ph S ≤ 1100) : Ho (f_M_asked S a0 a1) (fun q => Rl T [10082] S 1 0 T q.2 ∧ MI q.2) := by
  obtain ⟨q, h1, h2, h3⟩ := t_M_asked hT h0 hM
  exact ⟨q, h1, Rlweak h2 (fun _ z => z) (by decide) (Nat.le_refl _), h3⟩
theorem mm_sessionOf {T : Nat → Nat} {S : AS} (hT : TI T S) {a0 : Option Nat} {a1 : Int32} (h0 : Tx T 100 a0) (hM : MI S) (hph : Ph S ≤ 1100) : Ho (f_M_sessionOf S a0 a1) (fun q => Rl T kw_M4 S 1 0 T q.2 ∧ MI q.2) := by
  obtain ⟨q, h1, h2, -⟩ := t_M_sessionOf hT h0 
  exact ⟨q, h1, Rlweak h2 (fun _ z => z) (by decide) (Nat.le_refl _), MI_fr hM h2 h0 (by decide +kernel)⟩
theorem mm_risk {T : Nat → Nat} {S : AS} (hT : TI T S) {a0 : Option Nat} {a1 : Int32} (h0 : Tx T 100 a0) (hM : MI S) (hph : Ph S ≤ 1100) : Ho (f_M_risk S a0 a1) (fun q => Rl T kw_M4 S 1 0 T q.2 ∧ MI q.2) := by
  obtain ⟨q, h1, h2, -⟩ := t_M_risk hT h0 
  exact ⟨q, h1, Rlweak h2 (fun _ z => z) (by decide) (Nat.le_refl _), MI_fr hM h2 h0 (by decide +kernel)⟩
theorem mm_trialRisk {T : Nat → Nat} {S : AS} (hT : TI T S) {a0 : Option Nat} {a1 : Int32} (h0 : Tx T 100 a0) (hM : MI S) (hph : Ph S ≤ 1100) : Ho (f_M_trialRisk S a0 a1) (fun q => Rl T kw_M4 S 1 0 T q.2 ∧ MI q.2) := by
  obtain ⟨q, h1, h2, -⟩ := t_M_trialRisk hT h0 
  exact ⟨q, h1, Rlweak h2 (fun _ z => z) (by decide) (Nat.le_refl _), MI_fr hM h2 h0 (by decide +kernel)⟩
theorem mm_sessions {T : Nat → Nat} {S : AS} (hT : TI T S) {a0 : Option Nat}  (h0 : Tx T 100 a0) (hM : MI S) (hph : Ph S ≤ 1100) : Ho (f_M_sessions S a0) (fun q => Rl T kw_M4 S 1 0 T q.2 ∧ MI q.2) := by
  obtain ⟨q, h1, h2, -⟩ := t_M_sessions hT h0 
  exact ⟨q, h1, Rlweak h2 (fun _ z => z) (by decide) (Nat.le_refl _), MI_fr hM h2 h0 (by decide +kernel)⟩
theorem mm_isLive {T : Nat → Nat} {S : AS} (hT : TI T S) {a0 : Option Nat} {a1 : Int32} (h0 : Tx T 100 a0) (hM : MI S) (hph : Ph S ≤ 1100) : Ho (f_M_isLive S a0 a1) (fun q => Rl T kw_M4 S 1 0 T q.2 ∧ MI q.2) := by
  obtain ⟨q, h1, h2, -⟩ := t_M_isLive hT h0 
  exact ⟨q, h1, Rlweak h2 (fun _ z => z) (by decide) (Nat.le_refl _), MI_fr hM h2 h0 (by decide +kernel)⟩
theorem mm_isLiveByAudit {T : Nat → Nat} {S : AS} (hT : TI T S) {a0 : Option Nat} {a1 : Int32} (h0 : Tx T 100 a0) (hM : MI S) (hph : Ph S ≤ 1100) : Ho (f_M_isLiveByAudit S a0 a1) (fun q => Rl T kw_M4 S 1 0 T q.2 ∧ MI q.2) := by
  obtain ⟨q, h1, h2, -⟩ := t_M_isLiveByAudit hT h0 
  exact ⟨q, h1, Rlweak h2 (fun _ z => z) (by decide) (Nat.le_refl _), MI_fr hM h2 h0 (by decide +kernel)⟩
theorem mm_level {T : Nat → Nat} {S : AS} (hT : TI T S) {a0 : Option Nat} {a1 : Int32} (h0 : Tx T 100 a0) (hM : MI S) (hph : Ph S ≤ 1100) : Ho (f_M_level S a0 a1) (fun q => Rl T kw_M4 S 1 0 T q.2 ∧ MI q.2) := by
  obtain ⟨q, h1, h2, -⟩ := t_M_level hT h0 
  exact ⟨q, h1, Rlweak h2 (fun _ z => z) (by decide) (Nat.le_refl _), MI_fr hM h2 h0 (by decide +kernel)⟩
theorem mm_stepUp {T : Nat → Nat} {S : AS} (hT : TI T S) {a0 : Option Nat} {a1 : Int32} {a2 : Int32} {a3 : Int32} {a4 : Int32} (h0 : Tx T 100 a0) (hM : MI S) (hph : Ph S ≤ 1100) : Ho (f_M_stepUp S a0 a1 a2 a3 a4) (fun q => Rl T kw_M47 S 1 0 T q.2 ∧ MI q.2) := by
  obtain ⟨q, h1, h2, -⟩ := t_M_stepUp hT h0 (Int.le_trans hph (by decide))
  exact ⟨q, h1, Rlweak h2 (fun _ z => z) (by decide) (Nat.le_refl _), MI_fr hM h2 h0 (by decide +kernel)⟩
theorem mm_signOut {T : Nat → Nat} {S : AS} (hT : TI T S) {a0 : Option Nat} {a1 : Int32} (h0 : Tx T 100 a0) (hM : MI S) (hph : Ph S ≤ 1100) : Ho (f_M_signOut S a0 a1) (fun q => Rl T kw_M48 S 1 0 T q.2 ∧ MI q.2) := by
  obtain ⟨q, h1, h2, -⟩ := t_M_signOut hT h0 (Int.le_trans hph (by decide))
  exact ⟨q, h1, Rlweak h2 (fun _ z => z) (by decide) (Nat.le_refl _), MI_fr hM h2 h0 (by decide +kernel)⟩
theorem mm_helper {T : Nat → Nat} {S : AS} (hT : TI T S) {a0 : Option Nat} {a1 : Int32} (h0 : Tx T 100 a0) (hM : MI S) (hph : Ph S ≤ 1100) : Ho (f_M_helper S a0 a1) (fun q => Rl T kw_M49 S 1 0 T q.2 ∧ MI q.2) := by
  obtain ⟨q, h1, h2, -⟩ := t_M_helper hT h0 
  exact ⟨q, h1, Rlweak h2 (fun _ z => z) (by decide) (Nat.le_refl _), MI_fr hM h2 h0 (by decide +kernel)⟩
theorem mm_act {T : Nat → Nat} {S : AS} (hT : TI T S) {a0 : Option Nat} {a1 : Int32} {a2 : Int32} (h0 : Tx T 100 a0) (hM : MI S) (hph : Ph S ≤ 1100) : Ho (f_M_act S a0 a1 a2) (fun q => Rl T kw_M50 S 1 0 T q.2 ∧ MI q.2) := by
  obtain ⟨q, h1, h2, -⟩ := t_M_act hT h0 (Int.le_trans hph (by decide))
  exact ⟨q, h1, Rlweak h2 (fun _ z => z) (by decide) (Nat.le_refl _), MI_fr hM h2 h0 (by decide +kernel)⟩
theorem mm_consent {T : Nat → Nat} {S : AS} (hT : TI T S) {a0 : Option Nat} {a1 : Int32} {a2 : Int32} {a3 : Int32} (h0 : Tx T 100 a0) (hM : MI S) (hph : Ph S ≤ 1100) : Ho (f_M_consent S a0 a1 a2 a3) (fun q => Rl T kw_M51 S 1 0 T q.2 ∧ MI q.2) := by
  obtain ⟨q, h1, h2, -⟩ := t_M_consent hT h0 
  exact ⟨q, h1, Rlweak h2 (fun _ z => z) (by decide) (Nat.le_refl _), MI_fr hM h2 h0 (by decide +kernel)⟩
theorem mm_withdraw {T : Nat → Nat} {S : AS} (hT : TI T S) {a0 : Option Nat} {a1 : Int32} {a2 : Int32} (h0 : Tx T 100 a0) (hM : MI S) (hph : Ph S ≤ 1100) : Ho (f_M_withdraw S a0 a1 a2) (fun q => Rl T kw_M52 S 1 0 T q.2 ∧ MI q.2) := by
  obtain ⟨q, h1, h2, -⟩ := t_M_withdraw hT h0 (Int.le_trans hph (by decide))
  exact ⟨q, h1, Rlweak h2 (fun _ z => z) (by decide) (Nat.le_refl _), MI_fr hM h2 h0 (by decide +kernel)⟩
theorem mm_need {T : Nat → Nat} {S : AS} (hT : TI T S) {a0 : Option Nat} {a1 : Int32} {a2 : Int32} (h0 : Tx T 100 a0) (hM : MI S) (hph : Ph S ≤ 1100) : Ho (f_M_need S a0 a1 a2) (fun q => Rl T kw_M53 S 1 0 T q.2 ∧ MI q.2) := by
  obtain ⟨q, h1, h2, -⟩ := t_M_need hT h0 
  exact ⟨q, h1, Rlweak h2 (fun _ z => z) (by decide) (Nat.le_refl _), MI_fr hM h2 h0 (by decide +kernel)⟩
theorem mm_authorize {T : Nat → Nat} {S : AS} (hT : TI T S) {a0 : Option Nat} {a1 : Int32} {a2 : Int32} {a3 : Int32} {a4 : Int32} (h0 : Tx T 100 a0) (hM : MI S) (hph : Ph S ≤ 1100) : Ho (f_M_authorize S a0 a1 a2 a3 a4) (fun q => Rl T kw_M60 S 1 0 T q.2 ∧ MI q.2) := by
  obtain ⟨q, h1, h2, -⟩ := t_M_authorize hT h0 hM.2.2.2
  exact ⟨q, h1, Rlweak h2 (fun _ z => z) (by decide) (Nat.le_refl _), MI_fr hM h2 h0 (by decide +kernel)⟩
theorem mm_redeem {T : Nat → Nat} {S : AS} (hT : TI T S) {a0 : Option Nat} {a1 : Int32} (h0 : Tx T 100 a0) (hM : MI S) (hph : Ph S ≤ 1100) : Ho (f_M_redeem S a0 a1) (fun q => Rl T kw_M77 S 1 0 T q.2 ∧ MI q.2) := by
  obtain ⟨q, h1, h2, -⟩ := t_M_redeem hT h0 hM.2.2.2 (Int.le_trans hph (by decide))
  exact ⟨q, h1, Rlweak h2 (fun _ z => z) (by decide) (Nat.le_refl _), MI_fr hM h2 h0 (by decide +kernel)⟩
theorem mm_refresh {T : Nat → Nat} {S : AS} (hT : TI T S) {a0 : Option Nat} {a1 : Int32} {a2 : Int32} (h0 : Tx T 100 a0) (hM : MI S) (hph : Ph S ≤ 1100) : Ho (f_M_refresh S a0 a1 a2) (fun q => Rl T kw_M82 S 1 0 T q.2 ∧ MI q.2) := by
  obtain ⟨q, h1, h2, -⟩ := t_M_refresh hT h0 (Int.le_trans hph (by decide))
  exact ⟨q, h1, Rlweak h2 (fun _ z => z) (by decide) (Nat.le_refl _), MI_fr hM h2 h0 (by decide +kernel)⟩
theorem mm_isGood {T : Nat → Nat} {S : AS} (hT : TI T S) {a0 : Option Nat} {a1 : Int32} (h0 : Tx T 100 a0) (hM : MI S) (hph : Ph S ≤ 1100) : Ho (f_M_isGood S a0 a1) (fun q => Rl T kw_M4 S 1 0 T q.2 ∧ MI q.2) := by
  obtain ⟨q, h1, h2, -⟩ := t_M_isGood hT h0 
  exact ⟨q, h1, Rlweak h2 (fun _ z => z) (by decide) (Nat.le_refl _), MI_fr hM h2 h0 (by decide +kernel)⟩
theorem mm_tokenOf {T : Nat → Nat} {S : AS} (hT : TI T S) {a0 : Option Nat} {a1 : Int32} (h0 : Tx T 100 a0) (hM : MI S) (hph : Ph S ≤ 1100) : Ho (f_M_tokenOf S a0 a1) (fun q => Rl T kw_M4 S 1 0 T q.2 ∧ MI q.2) := by
  obtain ⟨q, h1, h2, -⟩ := t_M_tokenOf hT h0 
  exact ⟨q, h1, Rlweak h2 (fun _ z => z) (by decide) (Nat.le_refl _), MI_fr hM h2 h0 (by decide +kernel)⟩
theorem mm_exchange {T : Nat → Nat} {S : AS} (hT : TI T S) {a0 : Option Nat} {a1 : Int32} {a2 : Int32} {a3 : Int32} (h0 : Tx T 100 a0) (hM : MI S) (hph : Ph S ≤ 1100) : Ho (f_M_exchange S a0 a1 a2 a3) (fun q => Rl T kw_M83 S 1 0 T q.2 ∧ MI q.2) := by
  obtain ⟨q, h1, h2, -⟩ := t_M_exchange hT h0 
  exact ⟨q, h1, Rlweak h2 (fun _ z => z) (by decide) (Nat.le_refl _), MI_fr hM h2 h0 (by decide +kernel)⟩
theorem mm_token {T : Nat → Nat} {S : AS} (hT : TI T S) {a0 : Option Nat} {a1 : Int32} (h0 : Tx T 100 a0) (hM : MI S) (hph : Ph S ≤ 1100) : Ho (f_M_token S a0 a1) (fun q => Rl T kw_M4 S 1 0 T q.2 ∧ MI q.2) := by
  obtain ⟨q, h1, h2, -⟩ := t_M_token hT h0 
  exact ⟨q, h1, Rlweak h2 (fun _ z => z) (by decide) (Nat.le_refl _), MI_fr hM h2 h0 (by decide +kernel)⟩
theorem mm_turn {T : Nat → Nat} {S : AS} (hT : TI T S) {a0 : Option Nat}  (h0 : Tx T 100 a0) (hM : MI S) (hph : Ph S ≤ 1100) : Ho (f_M_turn S a0) (fun q => Rl T kw_M86 S 1 0 T q.2 ∧ MI q.2) := by
  obtain ⟨q, h1, h2, -⟩ := t_M_turn hT h0 
  exact ⟨q, h1, Rlweak h2 (fun _ z => z) (by decide) (Nat.le_refl _), MI_fr hM h2 h0 (by decide +kernel)⟩
theorem mm_emergency {T : Nat → Nat} {S : AS} (hT : TI T S) {a0 : Option Nat}  (h0 : Tx T 100 a0) (hM : MI S) (hph : Ph S ≤ 1100) : Ho (f_M_emergency S a0) (fun q => Rl T kw_M91 S 1 0 T q.2 ∧ MI q.2) := by
  obtain ⟨q, h1, h2, -⟩ := t_M_emergency hT h0 (Int.le_trans hph (by decide))
  exact ⟨q, h1, Rlweak h2 (fun _ z => z) (by decide) (Nat.le_refl _), MI_fr hM h2 h0 (by decide +kernel)⟩
theorem mm_signing {T : Nat → Nat} {S : AS} (hT : TI T S) {a0 : Option Nat}  (h0 : Tx T 100 a0) (hM : MI S) (hph : Ph S ≤ 1100) : Ho (f_M_signing S a0) (fun q => Rl T kw_M4 S 1 0 T q.2 ∧ MI q.2) := by
  obtain ⟨q, h1, h2, -⟩ := t_M_signing hT h0 
  exact ⟨q, h1, Rlweak h2 (fun _ z => z) (by decide) (Nat.le_refl _), MI_fr hM h2 h0 (by decide +kernel)⟩
theorem mm_isPublished {T : Nat → Nat} {S : AS} (hT : TI T S) {a0 : Option Nat} {a1 : Int32} (h0 : Tx T 100 a0) (hM : MI S) (hph : Ph S ≤ 1100) : Ho (f_M_isPublished S a0 a1) (fun q => Rl T kw_M4 S 1 0 T q.2 ∧ MI q.2) := by
  obtain ⟨q, h1, h2, -⟩ := t_M_isPublished hT h0 
  exact ⟨q, h1, Rlweak h2 (fun _ z => z) (by decide) (Nat.le_refl _), MI_fr hM h2 h0 (by decide +kernel)⟩
theorem mm_line {T : Nat → Nat} {S : AS} (hT : TI T S) {a0 : Option Nat} {a1 : Int32} (h0 : Tx T 100 a0) (hM : MI S) (hph : Ph S ≤ 1100) : Ho (f_M_line S a0 a1) (fun q => Rl T kw_M93 S 1 0 T q.2 ∧ MI q.2) := by
  obtain ⟨q, h1, h2, -⟩ := t_M_line hT h0 
  exact ⟨q, h1, Rlweak h2 (fun _ z => z) (by decide) (Nat.le_refl _), MI_fr hM h2 h0 (by decide +kernel)⟩
theorem mm_check {T : Nat → Nat} {S : AS} (hT : TI T S) {a0 : Option Nat} {a1 : Int32} {a2 : Int32} {a3 : Int32} (h0 : Tx T 100 a0) (hM : MI S) (hph : Ph S ≤ 1100) : Ho (f_M_check S a0 a1 a2 a3) (fun q => Rl T kw_M95 S 1 0 T q.2 ∧ MI q.2) := by
  obtain ⟨q, h1, h2, -⟩ := t_M_check hT h0 
  exact ⟨q, h1, Rlweak h2 (fun _ z => z) (by decide) (Nat.le_refl _), MI_fr hM h2 h0 (by decide +kernel)⟩
theorem mm_lag {T : Nat → Nat} {S : AS} (hT : TI T S) {a0 : Option Nat} {a1 : Int32} (h0 : Tx T 100 a0) (hM : MI S) (hph : Ph S ≤ 1100) : Ho (f_M_lag S a0 a1) (fun q => Rl T kw_M4 S 1 0 T q.2 ∧ MI q.2) := by
  obtain ⟨q, h1, h2, -⟩ := t_M_lag hT h0 
  exact ⟨q, h1, Rlweak h2 (fun _ z => z) (by decide) (Nat.le_refl _), MI_fr hM h2 h0 (by decide +kernel)⟩
theorem mm_recover {T : Nat → Nat} {S : AS} (hT : TI T S) {a0 : Option Nat} {a1 : Int32} (h0 : Tx T 100 a0) (hM : MI S) (hph : Ph S ≤ 1100) : Ho (f_M_recover S a0 a1) (fun q => Rl T kw_M99 S 1 0 T q.2 ∧ MI q.2) := by
  obtain ⟨q, h1, h2, -⟩ := t_M_recover hT h0 
  exact ⟨q, h1, Rlweak h2 (fun _ z => z) (by decide) (Nat.le_refl _), MI_fr hM h2 h0 (by decide +kernel)⟩
theorem mm_vouch {T : Nat → Nat} {S : AS} (hT : TI T S) {a0 : Option Nat} {a1 : Int32} {a2 : Int32} (h0 : Tx T 100 a0) (hM : MI S) (hph : Ph S ≤ 1100) : Ho (f_M_vouch S a0 a1 a2) (fun q => Rl T kw_M101 S 1 0 T q.2 ∧ MI q.2) := by
  obtain ⟨q, h1, h2, -⟩ := t_M_vouch hT h0 
  exact ⟨q, h1, Rlweak h2 (fun _ z => z) (by decide) (Nat.le_refl _), MI_fr hM h2 h0 (by decide +kernel)⟩
theorem mm_stop {T : Nat → Nat} {S : AS} (hT : TI T S) {a0 : Option Nat} {a1 : Int32} {a2 : Int32} (h0 : Tx T 100 a0) (hM : MI S) (hph : Ph S ≤ 1100) : Ho (f_M_stop S a0 a1 a2) (fun q => Rl T kw_M102 S 1 0 T q.2 ∧ MI q.2) := by
  obtain ⟨q, h1, h2, -⟩ := t_M_stop hT h0 
  exact ⟨q, h1, Rlweak h2 (fun _ z => z) (by decide) (Nat.le_refl _), MI_fr hM h2 h0 (by decide +kernel)⟩
theorem mm_finish {T : Nat → Nat} {S : AS} (hT : TI T S) {a0 : Option Nat} {a1 : Int32} (h0 : Tx T 100 a0) (hM : MI S) (hph : Ph S ≤ 1100) : Ho (f_M_finish S a0 a1) (fun q => Rl T kw_M105 S 1 0 T q.2 ∧ MI q.2) := by
  obtain ⟨q, h1, h2, -⟩ := t_M_finish hT h0 (Int.le_trans hph (by decide))
  exact ⟨q, h1, Rlweak h2 (fun _ z => z) (by decide) (Nat.le_refl _), MI_fr hM h2 h0 (by decide +kernel)⟩
theorem mm_link {T : Nat → Nat} {S : AS} (hT : TI T S) {a0 : Option Nat} {a1 : Int32} {a2 : Int32} (h0 : Tx T 100 a0) (hM : MI S) (hph : Ph S ≤ 1100) : Ho (f_M_link S a0 a1 a2) (fun q => Rl T kw_M106 S 1 0 T q.2 ∧ MI q.2) := by
  obtain ⟨q, h1, h2, -⟩ := t_M_link hT h0 
  exact ⟨q, h1, Rlweak h2 (fun _ z => z) (by decide) (Nat.le_refl _), MI_fr hM h2 h0 (by decide +kernel)⟩
theorem mm_foreign {T : Nat → Nat} {S : AS} (hT : TI T S) {a0 : Option Nat} {a1 : Int32} (h0 : Tx T 100 a0) (hM : MI S) (hph : Ph S ≤ 1100) : Ho (f_M_foreign S a0 a1) (fun q => Rl T kw_M50 S 1 0 T q.2 ∧ MI q.2) := by
  obtain ⟨q, h1, h2, -⟩ := t_M_foreign hT h0 (Int.le_trans hph (by decide))
  exact ⟨q, h1, Rlweak h2 (fun _ z => z) (by decide) (Nat.le_refl _), MI_fr hM h2 h0 (by decide +kernel)⟩
theorem mm_leave {T : Nat → Nat} {S : AS} (hT : TI T S) {a0 : Option Nat} {a1 : Int32} (h0 : Tx T 100 a0) (hM : MI S) (hph : Ph S ≤ 1100) : Ho (f_M_leave S a0 a1) (fun q => Rl T kw_lv S 1 0 T q.2 ∧ MI q.2) := by
  obtain ⟨q, h1, h2, h3⟩ := t_M_leave2 hT h0 hph hM
  exact ⟨q, h1, Rlweak h2 (fun _ z => z) (by decide) (Nat.le_refl _), h3⟩
theorem mm_audits {T : Nat → Nat} {S : AS} (hT : TI T S) {a0 : Option Nat}  (h0 : Tx T 100 a0) (hM : MI S) (hph : Ph S ≤ 1100) : Ho (f_M_audits S a0) (fun q => Rl T kw_M4 S 1 0 T q.2 ∧ MI q.2) := by
  obtain ⟨q, h1, h2, -⟩ := t_M_audits hT h0 
  exact ⟨q, h1, Rlweak h2 (fun _ z => z) (by decide) (Nat.le_refl _), MI_fr hM h2 h0 (by decide +kernel)⟩
theorem mm_audit {T : Nat → Nat} {S : AS} (hT : TI T S) {a0 : Option Nat} {a1 : Int32} (h0 : Tx T 100 a0) (hM : MI S) (hph : Ph S ≤ 1100) : Ho (f_M_audit S a0 a1) (fun q => Rl T kw_M4 S 1 0 T q.2 ∧ MI q.2) := by
  obtain ⟨q, h1, h2, -⟩ := t_M_audit hT h0 
  exact ⟨q, h1, Rlweak h2 (fun _ z => z) (by decide) (Nat.le_refl _), MI_fr hM h2 h0 (by decide +kernel)⟩
theorem mm_sum {T : Nat → Nat} {S : AS} (hT : TI T S) {a0 : Option Nat}  (h0 : Tx T 100 a0) (hM : MI S) (hph : Ph S ≤ 1100) : Ho (f_M_sum S a0) (fun q => Rl T kw_M4 S 1 0 T q.2 ∧ MI q.2) := by
  obtain ⟨q, h1, h2, -⟩ := t_M_sum hT h0 
  exact ⟨q, h1, Rlweak h2 (fun _ z => z) (by decide) (Nat.le_refl _), MI_fr hM h2 h0 (by decide +kernel)⟩
theorem mm_sumAnew {T : Nat → Nat} {S : AS} (hT : TI T S) {a0 : Option Nat} {a1 : Int32} (h0 : Tx T 100 a0) (hM : MI S) (hph : Ph S ≤ 1100) : Ho (f_M_sumAnew S a0 a1) (fun q => Rl T kw_M4 S 1 0 T q.2 ∧ MI q.2) := by
  obtain ⟨q, h1, h2, -⟩ := t_M_sumAnew hT h0 
  exact ⟨q, h1, Rlweak h2 (fun _ z => z) (by decide) (Nat.le_refl _), MI_fr hM h2 h0 (by decide +kernel)⟩
