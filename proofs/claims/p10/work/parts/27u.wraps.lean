/-! ===== the wrappers of the class's calls ===== -/
theorem r_bhR {α β : Type} {T : Nat → Nat} {w : List Nat} {S : AS} {c s : Nat} {es : List String} {x : Option ((α ⊕ String) × AS)} {G : String → AS → Option β} {F : α → AS → Option β} {P : α → (Nat → Nat) → Prop} {Q : β → Prop} (hc : Ho x (fun q => PY T w S c s es P q ∧ FT q.2)) (h : ∀ v T' S', Rl T w S c s T' S' → FT S' → Ho (F v S') Q) (he : ∀ e T' S', Rl T w S c s T' S' → e ∈ es → FT S' → Ho (G e S') Q) : Ho (kr_bh x G F) Q := by
  obtain ⟨⟨v, S'⟩, rfl, ⟨T', h1, h2⟩, hf⟩ := hc
  rcases h2 with ⟨v', e1, e3⟩ | ⟨e, e1, e3⟩
  · cases e1
    exact h v' T' S' h1 hf
  · cases e1
    exact he e T' S' h1 e3 hf
theorem w_pass {T : Nat → Nat} {S : AS} (hT : TI T S) {a0 : Option Nat} {a1 : Int32} {a2 : Option Nat} (h0 : Tx T 1 a0) (hk : Tx T 50 a2) : Ho (f_W_pass S a0 a1 a2) (fun q => PW T kw_K41 S 10 700 q.2) := by
  unfold f_W_pass
  refine r_rv hT h0 rfl ?_
  refine r_bhX (t_K_pass hT h0) (fun v S1 g _ => ?_) (fun e S1 g he => ?_)
  · exact r_bJ g hk (fun g2 => r_some ⟨_, Rlweak g2 (fun _ z => z) (by decide) (by decide)⟩)
  · simp only [List.mem_cons, List.not_mem_nil, or_false] at he
    rcases he with rfl | rfl
    · exact r_ifT rfl (r_some (PW_of (Rlweak g (by decide +kernel) (by decide) (by decide))))
    · exact r_ifF (by decide +kernel) (r_ifT rfl (r_some (PW_of (Rlweak g (by decide +kernel) (by decide) (by decide)))))
theorem w_enroll {T : Nat → Nat} {S : AS} (hT : TI T S) {a0 : Option Nat} {a1 : Int32} {a2 : Int32} {a3 : Option Nat} (h0 : Tx T 1 a0) (hk : Tx T 50 a3) : Ho (f_W_enroll S a0 a1 a2 a3) (fun q => PW T kw_K11 S 10 700 q.2) := by
  unfold f_W_enroll
  refine r_rv hT h0 rfl ?_
  refine r_bhX (t_K_enroll hT h0) (fun v S1 g _ => ?_) (fun e S1 g he => ?_)
  · exact r_bJ g hk (fun g2 => r_some ⟨_, Rlweak g2 (fun _ z => z) (by decide) (by decide)⟩)
  · simp only [List.mem_cons, List.not_mem_nil, or_false] at he
    rcases he with rfl | rfl
    · exact r_ifF (by decide +kernel) (r_ifT rfl (r_some (PW_of (Rlweak g (by decide +kernel) (by decide) (by decide)))))
    · exact r_ifT rfl (r_some (PW_of (Rlweak g (by decide +kernel) (by decide) (by decide))))
theorem w_factor {T : Nat → Nat} {S : AS} (hT : TI T S) {a0 : Option Nat} {a1 : Int32} {a2 : Int32} {a3 : Option Nat} (h0 : Tx T 1 a0) (hk : Tx T 50 a3) : Ho (f_W_factor S a0 a1 a2 a3) (fun q => PW T [] S 10 700 q.2) := by
  unfold f_W_factor
  refine r_rv hT h0 rfl ?_
  have g0 := Rlrf hT
  refine r_bhT (t_K_factor hT h0) (fun v _ => ?_) (fun e he => ?_)
  · exact r_bJ g0 hk (fun g2 => r_some ⟨_, Rlweak g2 (fun _ z => z) (by decide) (by decide)⟩)
  · simp only [List.mem_cons, List.not_mem_nil, or_false] at he
    rcases he with rfl | rfl
    · exact r_ifF (by decide +kernel) (r_ifT rfl (r_some (PW_of (Rlweak (RlwX g0) (by decide +kernel) (by decide) (by decide)))))
    · exact r_ifT rfl (r_some (PW_of (Rlweak (RlwX g0) (by decide +kernel) (by decide) (by decide))))
theorem w_step {T : Nat → Nat} {S : AS} (hT : TI T S) {a0 : Option Nat} {a1 : Int32} {a2 : Int32} {a3 : Int32} {a4 : Int32} {a5 : Int32} {a6 : Option Nat} (h0 : Tx T 1 a0) (hk : Tx T 50 a6) : Ho (f_W_step S a0 a1 a2 a3 a4 a5 a6) (fun q => PW T kw_K13 S 10 700 q.2) := by
  unfold f_W_step
  refine r_rv hT h0 rfl ?_
  refine r_bhX (t_K_step hT h0) (fun v S1 g _ => ?_) (fun e S1 g he => ?_)
  · exact r_bJ g hk (fun g2 => r_some ⟨_, Rlweak g2 (fun _ z => z) (by decide) (by decide)⟩)
  · simp only [List.mem_cons, List.not_mem_nil, or_false] at he
    rcases he with rfl | rfl
    · exact r_ifT rfl (r_some (PW_of (Rlweak g (by decide +kernel) (by decide) (by decide))))
    · exact r_ifF (by decide +kernel) (r_ifT rfl (r_some (PW_of (Rlweak g (by decide +kernel) (by decide) (by decide)))))
theorem w_publish {T : Nat → Nat} {S : AS} (hT : TI T S) {a0 : Option Nat} {a1 : Option Nat} (h0 : Tx T 1 a0) (hk : Tx T 50 a1) : Ho (f_W_publish S a0 a1) (fun q => PW T kw_K44 S 10 700 q.2) := by
  unfold f_W_publish
  refine r_rv hT h0 rfl ?_
  refine r_bhY (t_K_publish hT h0) (fun v T1 S1 g _ => ?_) (fun e T1 S1 g he => ?_)
  · exact r_bJ g (Tx.up hk g.ty) (fun g2 => r_some ⟨_, Rlweak g2 (fun _ z => z) (by decide) (by decide)⟩)
  · simp only [List.mem_cons, List.not_mem_nil, or_false] at he
    subst he
    exact r_ifT rfl (r_some (PW_of (Rlweak g (by decide +kernel) (by decide) (by decide))))
theorem w_weakest {T : Nat → Nat} {S : AS} (hT : TI T S) {a0 : Option Nat} {a1 : Int32} {a2 : Option Nat} (h0 : Tx T 1 a0) (hk : Tx T 50 a2) : Ho (f_W_weakest S a0 a1 a2) (fun q => PW T kw_K14 S 10 700 q.2) := by
  unfold f_W_weakest
  refine r_rv hT h0 rfl ?_
  refine r_bhY (t_K_weakest hT h0) (fun v T1 S1 g _ => ?_) (fun e T1 S1 g he => ?_)
  · exact r_bJ g (Tx.up hk g.ty) (fun g2 => r_some ⟨_, Rlweak g2 (fun _ z => z) (by decide) (by decide)⟩)
  · simp only [List.mem_cons, List.not_mem_nil, or_false] at he
    subst he
    exact r_ifT rfl (r_some (PW_of (Rlweak g (by decide +kernel) (by decide) (by decide))))
theorem w_points {T : Nat → Nat} {S : AS} (hT : TI T S) {a0 : Option Nat} {a1 : Int32} {a2 : Int32} {a3 : Int32} {a4 : Option Nat} (h0 : Tx T 1 a0) (hk : Tx T 50 a4) : Ho (f_W_points S a0 a1 a2 a3 a4) (fun q => PW T kw_K47 S 10 700 q.2) := by
  unfold f_W_points
  refine r_rv hT h0 rfl ?_
  refine r_bhX (t_K_points hT h0) (fun v S1 g _ => ?_) (fun e S1 g he => ?_)
  · exact r_bJ g hk (fun g2 => r_some ⟨_, Rlweak g2 (fun _ z => z) (by decide) (by decide)⟩)
  · simp only [List.mem_cons, List.not_mem_nil, or_false] at he
    subst he
    exact r_ifT rfl (r_some (PW_of (Rlweak g (by decide +kernel) (by decide) (by decide))))
theorem w_begin {T : Nat → Nat} {S : AS} (hT : TI T S) {a0 : Option Nat} {a1 : Int32} {a2 : Int32} {a3 : Int32} {a4 : Option Nat} (h0 : Tx T 1 a0) (hk : Tx T 50 a4) : Ho (f_W_begin S a0 a1 a2 a3 a4) (fun q => PW T kw_K57 S 10 700 q.2) := by
  unfold f_W_begin
  refine r_rv hT h0 rfl ?_
  refine r_bhY (t_K_begin hT h0) (fun v T1 S1 g _ => ?_) (fun e T1 S1 g he => ?_)
  · exact r_bJ g (Tx.up hk g.ty) (fun g2 => r_some ⟨_, Rlweak g2 (fun _ z => z) (by decide) (by decide)⟩)
  · simp only [List.mem_cons, List.not_mem_nil, or_false] at he
    rcases he with rfl | rfl
    · exact r_ifF (by decide +kernel) (r_ifT rfl (r_some (PW_of (Rlweak g (by decide +kernel) (by decide) (by decide)))))
    · exact r_ifT rfl (r_some (PW_of (Rlweak g (by decide +kernel) (by decide) (by decide))))
theorem w_answer {T : Nat → Nat} {S : AS} (hT : TI T S) {a0 : Option Nat} {a1 : Int32} {a2 : Int32} {a3 : Int32} {a4 : Option Nat} (h0 : Tx T 1 a0) (hk : Tx T 50 a4) : Ho (f_W_answer S a0 a1 a2 a3 a4) (fun q => PW T kw_K63 S 10 700 q.2) := by
  unfold f_W_answer
  refine r_rv hT h0 rfl ?_
  refine r_bhY (t_K_answer hT h0) (fun v T1 S1 g _ => ?_) (fun e T1 S1 g he => ?_)
  · exact r_bJ g (Tx.up hk g.ty) (fun g2 => r_some ⟨_, Rlweak g2 (fun _ z => z) (by decide) (by decide)⟩)
  · simp only [List.mem_cons, List.not_mem_nil, or_false] at he
    rcases he with rfl | rfl | rfl
    · exact r_ifF (by decide +kernel) (r_ifT rfl (r_some (PW_of (Rlweak g (by decide +kernel) (by decide) (by decide)))))
    · exact r_ifF (by decide +kernel) (r_ifF (by decide +kernel) (r_ifT rfl (r_some (PW_of (Rlweak g (by decide +kernel) (by decide) (by decide))))))
    · exact r_ifT rfl (r_some (PW_of (Rlweak g (by decide +kernel) (by decide) (by decide))))
theorem w_state {T : Nat → Nat} {S : AS} (hT : TI T S) {a0 : Option Nat} {a1 : Int32} {a2 : Option Nat} (h0 : Tx T 1 a0) (hk : Tx T 50 a2) : Ho (f_W_state S a0 a1 a2) (fun q => PW T [] S 10 700 q.2) := by
  unfold f_W_state
  refine r_rv hT h0 rfl ?_
  have g0 := Rlrf hT
  refine r_bhT (t_K_state hT h0) (fun v _ => ?_) (fun e he => ?_)
  · exact r_bJ g0 hk (fun g2 => r_some ⟨_, Rlweak g2 (fun _ z => z) (by decide) (by decide)⟩)
  · simp only [List.mem_cons, List.not_mem_nil, or_false] at he
    subst he
    exact r_ifT rfl (r_some (PW_of (Rlweak (RlwX g0) (by decide +kernel) (by decide) (by decide))))
theorem w_asked {T : Nat → Nat} {S : AS} (hT : TI T S) {a0 : Option Nat} {a1 : Int32} {a2 : Option Nat} (h0 : Tx T 1 a0) (hk : Tx T 50 a2) : Ho (f_W_asked S a0 a1 a2) (fun q => PW T [] S 10 700 q.2) := by
  unfold f_W_asked
  refine r_rv hT h0 rfl ?_
  have g0 := Rlrf hT
  refine r_bhT (t_K_asked hT h0) (fun v _ => ?_) (fun e he => ?_)
  · exact r_bJ g0 hk (fun g2 => r_some ⟨_, Rlweak g2 (fun _ z => z) (by decide) (by decide)⟩)
  · simp only [List.mem_cons, List.not_mem_nil, or_false] at he
    subst he
    exact r_ifT rfl (r_some (PW_of (Rlweak (RlwX g0) (by decide +kernel) (by decide) (by decide))))
theorem w_sessionOf {T : Nat → Nat} {S : AS} (hT : TI T S) {a0 : Option Nat} {a1 : Int32} {a2 : Option Nat} (h0 : Tx T 1 a0) (hk : Tx T 50 a2) : Ho (f_W_sessionOf S a0 a1 a2) (fun q => PW T [] S 10 700 q.2) := by
  unfold f_W_sessionOf
  refine r_rv hT h0 rfl ?_
  have g0 := Rlrf hT
  refine r_bhT (t_K_sessionOf hT h0) (fun v _ => ?_) (fun e he => ?_)
  · exact r_bJ g0 hk (fun g2 => r_some ⟨_, Rlweak g2 (fun _ z => z) (by decide) (by decide)⟩)
  · simp only [List.mem_cons, List.not_mem_nil, or_false] at he
    subst he
    exact r_ifT rfl (r_some (PW_of (Rlweak (RlwX g0) (by decide +kernel) (by decide) (by decide))))
theorem w_risk {T : Nat → Nat} {S : AS} (hT : TI T S) {a0 : Option Nat} {a1 : Int32} {a2 : Option Nat} (h0 : Tx T 1 a0) (hk : Tx T 50 a2) : Ho (f_W_risk S a0 a1 a2) (fun q => PW T [] S 10 700 q.2) := by
  unfold f_W_risk
  refine r_rv hT h0 rfl ?_
  have g0 := Rlrf hT
  refine r_bhT (t_K_risk hT h0) (fun v _ => ?_) (fun e he => ?_)
  · exact r_bJ g0 hk (fun g2 => r_some ⟨_, Rlweak g2 (fun _ z => z) (by decide) (by decide)⟩)
  · simp only [List.mem_cons, List.not_mem_nil, or_false] at he
    subst he
    exact r_ifT rfl (r_some (PW_of (Rlweak (RlwX g0) (by decide +kernel) (by decide) (by decide))))
theorem w_trialRisk {T : Nat → Nat} {S : AS} (hT : TI T S) {a0 : Option Nat} {a1 : Int32} {a2 : Option Nat} (h0 : Tx T 1 a0) (hk : Tx T 50 a2) : Ho (f_W_trialRisk S a0 a1 a2) (fun q => PW T [] S 10 700 q.2) := by
  unfold f_W_trialRisk
  refine r_rv hT h0 rfl ?_
  have g0 := Rlrf hT
  refine r_bhT (t_K_trialRisk hT h0) (fun v _ => ?_) (fun e he => ?_)
  · exact r_bJ g0 hk (fun g2 => r_some ⟨_, Rlweak g2 (fun _ z => z) (by decide) (by decide)⟩)
  · simp only [List.mem_cons, List.not_mem_nil, or_false] at he
    subst he
    exact r_ifT rfl (r_some (PW_of (Rlweak (RlwX g0) (by decide +kernel) (by decide) (by decide))))
theorem w_isLive {T : Nat → Nat} {S : AS} (hT : TI T S) {a0 : Option Nat} {a1 : Int32} {a2 : Option Nat} (h0 : Tx T 1 a0) (hk : Tx T 50 a2) : Ho (f_W_isLive S a0 a1 a2) (fun q => PW T [] S 10 700 q.2) := by
  unfold f_W_isLive
  refine r_rv hT h0 rfl ?_
  have g0 := Rlrf hT
  refine r_bhT (t_K_isLive hT h0) (fun v _ => ?_) (fun e he => ?_)
  · refine r_if (fun _ => ?_) (fun _ => ?_)
    · unfold f_W_isLive_B15
      exact r_bJ g0 hk (fun g2 => r_some ⟨_, Rlweak g2 (fun _ z => z) (by decide) (by decide)⟩)
    · unfold f_W_isLive_B15
      exact r_bJ g0 hk (fun g2 => r_some ⟨_, Rlweak g2 (fun _ z => z) (by decide) (by decide)⟩)
  · simp only [List.mem_cons, List.not_mem_nil, or_false] at he
    subst he
    exact r_ifT rfl (r_some (PW_of (Rlweak (RlwX g0) (by decide +kernel) (by decide) (by decide))))
theorem w_isLiveByAudit {T : Nat → Nat} {S : AS} (hT : TI T S) {a0 : Option Nat} {a1 : Int32} {a2 : Option Nat} (h0 : Tx T 1 a0) (hk : Tx T 50 a2) : Ho (f_W_isLiveByAudit S a0 a1 a2) (fun q => PW T [] S 10 700 q.2) := by
  unfold f_W_isLiveByAudit
  refine r_rv hT h0 rfl ?_
  have g0 := Rlrf hT
  refine r_bhT (t_K_isLiveByAudit hT h0) (fun v _ => ?_) (fun e he => ?_)
  · refine r_if (fun _ => ?_) (fun _ => ?_)
    · unfold f_W_isLiveByAudit_B15
      exact r_bJ g0 hk (fun g2 => r_some ⟨_, Rlweak g2 (fun _ z => z) (by decide) (by decide)⟩)
    · unfold f_W_isLiveByAudit_B15
      exact r_bJ g0 hk (fun g2 => r_some ⟨_, Rlweak g2 (fun _ z => z) (by decide) (by decide)⟩)
  · simp only [List.mem_cons, List.not_mem_nil, or_false] at he
    subst he
    exact r_ifT rfl (r_some (PW_of (Rlweak (RlwX g0) (by decide +kernel) (by decide) (by decide))))
theorem w_level {T : Nat → Nat} {S : AS} (hT : TI T S) {a0 : Option Nat} {a1 : Int32} {a2 : Option Nat} (h0 : Tx T 1 a0) (hk : Tx T 50 a2) : Ho (f_W_level S a0 a1 a2) (fun q => PW T [] S 10 700 q.2) := by
  unfold f_W_level
  refine r_rv hT h0 rfl ?_
  have g0 := Rlrf hT
  refine r_bhT (t_K_level hT h0) (fun v _ => ?_) (fun e he => ?_)
  · exact r_bJ g0 hk (fun g2 => r_some ⟨_, Rlweak g2 (fun _ z => z) (by decide) (by decide)⟩)
  · simp only [List.mem_cons, List.not_mem_nil, or_false] at he
    subst he
    exact r_ifT rfl (r_some (PW_of (Rlweak (RlwX g0) (by decide +kernel) (by decide) (by decide))))
theorem w_stepUp {T : Nat → Nat} {S : AS} (hT : TI T S) {a0 : Option Nat} {a1 : Int32} {a2 : Int32} {a3 : Int32} {a4 : Int32} {a5 : Option Nat} (h0 : Tx T 1 a0) (hk : Tx T 50 a5) : Ho (f_W_stepUp S a0 a1 a2 a3 a4 a5) (fun q => PW T kw_K67 S 10 700 q.2) := by
  unfold f_W_stepUp
  refine r_rv hT h0 rfl ?_
  refine r_bhX (t_K_stepUp hT h0) (fun v S1 g _ => ?_) (fun e S1 g he => ?_)
  · exact r_bJ g hk (fun g2 => r_some ⟨_, Rlweak g2 (fun _ z => z) (by decide) (by decide)⟩)
  · simp only [List.mem_cons, List.not_mem_nil, or_false] at he
    rcases he with rfl | rfl | rfl
    · exact r_ifF (by decide +kernel) (r_ifT rfl (r_some (PW_of (Rlweak g (by decide +kernel) (by decide) (by decide)))))
    · exact r_ifF (by decide +kernel) (r_ifF (by decide +kernel) (r_ifT rfl (r_some (PW_of (Rlweak g (by decide +kernel) (by decide) (by decide))))))
    · exact r_ifT rfl (r_some (PW_of (Rlweak g (by decide +kernel) (by decide) (by decide))))
theorem w_signOut {T : Nat → Nat} {S : AS} (hT : TI T S) {a0 : Option Nat} {a1 : Int32} {a2 : Option Nat} (h0 : Tx T 1 a0) (hk : Tx T 50 a2) : Ho (f_W_signOut S a0 a1 a2) (fun q => PW T kw_K38 S 10 700 q.2) := by
  unfold f_W_signOut
  refine r_rv hT h0 rfl ?_
  refine r_bhX (t_K_signOut hT h0) (fun v S1 g _ => ?_) (fun e S1 g he => ?_)
  · exact r_bJ g hk (fun g2 => r_some ⟨_, Rlweak g2 (fun _ z => z) (by decide) (by decide)⟩)
  · simp only [List.mem_cons, List.not_mem_nil, or_false] at he
    rcases he with rfl | rfl
    · exact r_ifF (by decide +kernel) (r_ifT rfl (r_some (PW_of (Rlweak g (by decide +kernel) (by decide) (by decide)))))
    · exact r_ifT rfl (r_some (PW_of (Rlweak g (by decide +kernel) (by decide) (by decide))))
theorem w_helper {T : Nat → Nat} {S : AS} (hT : TI T S) {a0 : Option Nat} {a1 : Int32} {a2 : Option Nat} (h0 : Tx T 1 a0) (hk : Tx T 50 a2) : Ho (f_W_helper S a0 a1 a2) (fun q => PW T kw_K68 S 10 700 q.2) := by
  unfold f_W_helper
  refine r_rv hT h0 rfl ?_
  refine r_bhX (t_K_helper hT h0) (fun v S1 g _ => ?_) (fun e S1 g he => ?_)
  · refine r_if (fun _ => ?_) (fun _ => ?_)
    · unfold f_W_helper_B15
      exact r_bJ g hk (fun g2 => r_some ⟨_, Rlweak g2 (fun _ z => z) (by decide) (by decide)⟩)
    · unfold f_W_helper_B15
      exact r_bJ g hk (fun g2 => r_some ⟨_, Rlweak g2 (fun _ z => z) (by decide) (by decide)⟩)
  · simp only [List.mem_cons, List.not_mem_nil, or_false] at he
    subst he
    exact r_ifT rfl (r_some (PW_of (Rlweak g (by decide +kernel) (by decide) (by decide))))
theorem w_act {T : Nat → Nat} {S : AS} (hT : TI T S) {a0 : Option Nat} {a1 : Int32} {a2 : Int32} {a3 : Option Nat} (h0 : Tx T 1 a0) (hk : Tx T 50 a3) : Ho (f_W_act S a0 a1 a2 a3) (fun q => PW T kw_K50 S 10 700 q.2) := by
  unfold f_W_act
  refine r_rv hT h0 rfl ?_
  refine r_bhY (t_K_act hT h0) (fun v T1 S1 g _ => ?_) (fun e T1 S1 g he => ?_)
  · exact r_bJ g (Tx.up hk g.ty) (fun g2 => r_some ⟨_, Rlweak g2 (fun _ z => z) (by decide) (by decide)⟩)
  · simp only [List.mem_cons, List.not_mem_nil, or_false] at he
    rcases he with rfl | rfl
    · exact r_ifF (by decide +kernel) (r_ifT rfl (r_some (PW_of (Rlweak g (by decide +kernel) (by decide) (by decide)))))
    · exact r_ifT rfl (r_some (PW_of (Rlweak g (by decide +kernel) (by decide) (by decide))))
theorem w_consent {T : Nat → Nat} {S : AS} (hT : TI T S) {a0 : Option Nat} {a1 : Int32} {a2 : Int32} {a3 : Int32} {a4 : Option Nat} (h0 : Tx T 1 a0) (hk : Tx T 50 a4) : Ho (f_W_consent S a0 a1 a2 a3 a4) (fun q => PW T kw_K71 S 10 700 q.2) := by
  unfold f_W_consent
  refine r_rv hT h0 rfl ?_
  refine r_bhX (t_K_consent hT h0) (fun v S1 g _ => ?_) (fun e S1 g he => ?_)
  · exact r_bJ g hk (fun g2 => r_some ⟨_, Rlweak g2 (fun _ z => z) (by decide) (by decide)⟩)
  · simp only [List.mem_cons, List.not_mem_nil, or_false] at he
    rcases he with rfl | rfl
    · exact r_ifF (by decide +kernel) (r_ifT rfl (r_some (PW_of (Rlweak g (by decide +kernel) (by decide) (by decide)))))
    · exact r_ifT rfl (r_some (PW_of (Rlweak g (by decide +kernel) (by decide) (by decide))))
theorem w_withdraw {T : Nat → Nat} {S : AS} (hT : TI T S) {a0 : Option Nat} {a1 : Int32} {a2 : Int32} {a3 : Option Nat} (h0 : Tx T 1 a0) (hk : Tx T 50 a3) : Ho (f_W_withdraw S a0 a1 a2 a3) (fun q => PW T kw_K72 S 10 700 q.2) := by
  unfold f_W_withdraw
  refine r_rv hT h0 rfl ?_
  refine r_bhX (t_K_withdraw hT h0) (fun v S1 g _ => ?_) (fun e S1 g he => ?_)
  · exact r_bJ g hk (fun g2 => r_some ⟨_, Rlweak g2 (fun _ z => z) (by decide) (by decide)⟩)
  · simp only [List.mem_cons, List.not_mem_nil, or_false] at he
    subst he
    exact r_ifT rfl (r_some (PW_of (Rlweak g (by decide +kernel) (by decide) (by decide))))
theorem w_need {T : Nat → Nat} {S : AS} (hT : TI T S) {a0 : Option Nat} {a1 : Int32} {a2 : Int32} {a3 : Option Nat} (h0 : Tx T 1 a0) (hk : Tx T 50 a3) : Ho (f_W_need S a0 a1 a2 a3) (fun q => PW T kw_K73 S 10 700 q.2) := by
  unfold f_W_need
  refine r_rv hT h0 rfl ?_
  refine r_bhX (t_K_need hT h0) (fun v S1 g _ => ?_) (fun e S1 g he => ?_)
  · exact r_bJ g hk (fun g2 => r_some ⟨_, Rlweak g2 (fun _ z => z) (by decide) (by decide)⟩)
  · simp only [List.mem_cons, List.not_mem_nil, or_false] at he
    rcases he with rfl | rfl
    · exact r_ifF (by decide +kernel) (r_ifT rfl (r_some (PW_of (Rlweak g (by decide +kernel) (by decide) (by decide)))))
    · exact r_ifT rfl (r_some (PW_of (Rlweak g (by decide +kernel) (by decide) (by decide))))
theorem w_authorize {T : Nat → Nat} {S : AS} (hT : TI T S) {a0 : Option Nat} {a1 : Int32} {a2 : Int32} {a3 : Int32} {a4 : Int32} {a5 : Option Nat} (h0 : Tx T 1 a0) (hk : Tx T 50 a5) : Ho (f_W_authorize S a0 a1 a2 a3 a4 a5) (fun q => PW T kw_K74 S 10 700 q.2) := by
  unfold f_W_authorize
  refine r_rv hT h0 rfl ?_
  refine r_bhY (t_K_authorize hT h0) (fun v T1 S1 g _ => ?_) (fun e T1 S1 g he => ?_)
  · exact r_bJ g (Tx.up hk g.ty) (fun g2 => r_some ⟨_, Rlweak g2 (fun _ z => z) (by decide) (by decide)⟩)
  · simp only [List.mem_cons, List.not_mem_nil, or_false] at he
    rcases he with rfl | rfl | rfl
    · exact r_ifF (by decide +kernel) (r_ifT rfl (r_some (PW_of (Rlweak g (by decide +kernel) (by decide) (by decide)))))
    · exact r_ifF (by decide +kernel) (r_ifF (by decide +kernel) (r_ifT rfl (r_some (PW_of (Rlweak g (by decide +kernel) (by decide) (by decide))))))
    · exact r_ifT rfl (r_some (PW_of (Rlweak g (by decide +kernel) (by decide) (by decide))))
theorem w_redeem {T : Nat → Nat} {S : AS} (hT : TI T S) {a0 : Option Nat} {a1 : Int32} {a2 : Option Nat} (h0 : Tx T 1 a0) (hk : Tx T 50 a2) (hF : FT S) : Ho (f_W_redeem S a0 a1 a2) (fun q => PW T kw_K83 S 10 700 q.2 ∧ FT q.2) := by
  unfold f_W_redeem
  refine r_rv hT h0 rfl ?_
  refine r_bhR (tF_redeem hT h0 hF) (fun v T1 S1 g hf => ?_) (fun e T1 S1 g he hf => ?_)
  · exact r_bJ g (Tx.up hk g.ty) (fun g2 => r_some ⟨⟨_, Rlweak g2 (fun _ z => z) (by decide) (by decide)⟩, hf⟩)
  · simp only [List.mem_cons, List.not_mem_nil, or_false] at he
    rcases he with rfl | rfl
    · exact r_ifF (by decide +kernel) (r_ifT rfl (r_some ⟨(PW_of (Rlweak g (by decide +kernel) (by decide) (by decide))), hf⟩))
    · exact r_ifT rfl (r_some ⟨(PW_of (Rlweak g (by decide +kernel) (by decide) (by decide))), hf⟩)
theorem w_refresh {T : Nat → Nat} {S : AS} (hT : TI T S) {a0 : Option Nat} {a1 : Int32} {a2 : Int32} {a3 : Option Nat} (h0 : Tx T 1 a0) (hk : Tx T 50 a3) : Ho (f_W_refresh S a0 a1 a2 a3) (fun q => PW T kw_K88 S 10 700 q.2) := by
  unfold f_W_refresh
  refine r_rv hT h0 rfl ?_
  refine r_bhY (t_K_refresh hT h0) (fun v T1 S1 g _ => ?_) (fun e T1 S1 g he => ?_)
  · exact r_bJ g (Tx.up hk g.ty) (fun g2 => r_some ⟨_, Rlweak g2 (fun _ z => z) (by decide) (by decide)⟩)
  · simp only [List.mem_cons, List.not_mem_nil, or_false] at he
    rcases he with rfl | rfl | rfl
    · exact r_ifF (by decide +kernel) (r_ifT rfl (r_some (PW_of (Rlweak g (by decide +kernel) (by decide) (by decide)))))
    · exact r_ifF (by decide +kernel) (r_ifF (by decide +kernel) (r_ifT rfl (r_some (PW_of (Rlweak g (by decide +kernel) (by decide) (by decide))))))
    · exact r_ifT rfl (r_some (PW_of (Rlweak g (by decide +kernel) (by decide) (by decide))))
theorem w_isGood {T : Nat → Nat} {S : AS} (hT : TI T S) {a0 : Option Nat} {a1 : Int32} {a2 : Option Nat} (h0 : Tx T 1 a0) (hk : Tx T 50 a2) : Ho (f_W_isGood S a0 a1 a2) (fun q => PW T [] S 10 700 q.2) := by
  unfold f_W_isGood
  refine r_rv hT h0 rfl ?_
  have g0 := Rlrf hT
  refine r_bhT (t_K_isGood hT h0) (fun v _ => ?_) (fun e he => ?_)
  · refine r_if (fun _ => ?_) (fun _ => ?_)
    · unfold f_W_isGood_B15
      exact r_bJ g0 hk (fun g2 => r_some ⟨_, Rlweak g2 (fun _ z => z) (by decide) (by decide)⟩)
    · unfold f_W_isGood_B15
      exact r_bJ g0 hk (fun g2 => r_some ⟨_, Rlweak g2 (fun _ z => z) (by decide) (by decide)⟩)
  · simp only [List.mem_cons, List.not_mem_nil, or_false] at he
    subst he
    exact r_ifT rfl (r_some (PW_of (Rlweak (RlwX g0) (by decide +kernel) (by decide) (by decide))))
theorem w_tokenOf {T : Nat → Nat} {S : AS} (hT : TI T S) {a0 : Option Nat} {a1 : Int32} {a2 : Option Nat} (h0 : Tx T 1 a0) (hk : Tx T 50 a2) : Ho (f_W_tokenOf S a0 a1 a2) (fun q => PW T [] S 10 700 q.2) := by
  unfold f_W_tokenOf
  refine r_rv hT h0 rfl ?_
  have g0 := Rlrf hT
  refine r_bhT (t_K_tokenOf hT h0) (fun v _ => ?_) (fun e he => ?_)
  · exact r_bJ g0 hk (fun g2 => r_some ⟨_, Rlweak g2 (fun _ z => z) (by decide) (by decide)⟩)
  · simp only [List.mem_cons, List.not_mem_nil, or_false] at he
    subst he
    exact r_ifT rfl (r_some (PW_of (Rlweak (RlwX g0) (by decide +kernel) (by decide) (by decide))))
theorem w_exchange {T : Nat → Nat} {S : AS} (hT : TI T S) {a0 : Option Nat} {a1 : Int32} {a2 : Int32} {a3 : Int32} {a4 : Option Nat} (h0 : Tx T 1 a0) (hk : Tx T 50 a4) : Ho (f_W_exchange S a0 a1 a2 a3 a4) (fun q => PW T kw_K77 S 10 700 q.2) := by
  unfold f_W_exchange
  refine r_rv hT h0 rfl ?_
  refine r_bhY (t_K_exchange hT h0) (fun v T1 S1 g _ => ?_) (fun e T1 S1 g he => ?_)
  · exact r_bJ g (Tx.up hk g.ty) (fun g2 => r_some ⟨_, Rlweak g2 (fun _ z => z) (by decide) (by decide)⟩)
  · simp only [List.mem_cons, List.not_mem_nil, or_false] at he
    rcases he with rfl | rfl | rfl
    · exact r_ifF (by decide +kernel) (r_ifT rfl (r_some (PW_of (Rlweak g (by decide +kernel) (by decide) (by decide)))))
    · exact r_ifF (by decide +kernel) (r_ifF (by decide +kernel) (r_ifT rfl (r_some (PW_of (Rlweak g (by decide +kernel) (by decide) (by decide))))))
    · exact r_ifT rfl (r_some (PW_of (Rlweak g (by decide +kernel) (by decide) (by decide))))
theorem w_token {T : Nat → Nat} {S : AS} (hT : TI T S) {a0 : Option Nat} {a1 : Int32} {a2 : Option Nat} (h0 : Tx T 1 a0) (hk : Tx T 50 a2) : Ho (f_W_token S a0 a1 a2) (fun q => PW T [] S 10 700 q.2) := by
  unfold f_W_token
  refine r_rv hT h0 rfl ?_
  have g0 := Rlrf hT
  refine r_bhT (t_K_token hT h0) (fun v _ => ?_) (fun e he => ?_)
  · exact r_bJ g0 hk (fun g2 => r_some ⟨_, Rlweak g2 (fun _ z => z) (by decide) (by decide)⟩)
  · simp only [List.mem_cons, List.not_mem_nil, or_false] at he
    subst he
    exact r_ifT rfl (r_some (PW_of (Rlweak (RlwX g0) (by decide +kernel) (by decide) (by decide))))
theorem w_turn {T : Nat → Nat} {S : AS} (hT : TI T S) {a0 : Option Nat} {a1 : Option Nat} (h0 : Tx T 1 a0) (hk : Tx T 50 a1) : Ho (f_W_turn S a0 a1) (fun q => PW T kw_K27 S 10 700 q.2) := by
  unfold f_W_turn
  refine r_rv hT h0 rfl ?_
  refine r_bhX (t_K_turn hT h0) (fun v S1 g _ => ?_) (fun e S1 g he => ?_)
  · exact r_bJ g hk (fun g2 => r_some ⟨_, Rlweak g2 (fun _ z => z) (by decide) (by decide)⟩)
  · simp only [List.mem_cons, List.not_mem_nil, or_false] at he
    subst he
    exact r_ifT rfl (r_some (PW_of (Rlweak g (by decide +kernel) (by decide) (by decide))))
theorem w_emergency {T : Nat → Nat} {S : AS} (hT : TI T S) {a0 : Option Nat} {a1 : Option Nat} (h0 : Tx T 1 a0) (hk : Tx T 50 a1) : Ho (f_W_emergency S a0 a1) (fun q => PW T kw_K89 S 10 700 q.2) := by
  unfold f_W_emergency
  refine r_rv hT h0 rfl ?_
  refine r_bhX (t_K_emergency hT h0) (fun v S1 g _ => ?_) (fun e S1 g he => ?_)
  · exact r_bJ g hk (fun g2 => r_some ⟨_, Rlweak g2 (fun _ z => z) (by decide) (by decide)⟩)
  · simp only [List.mem_cons, List.not_mem_nil, or_false] at he
    subst he
    exact r_ifT rfl (r_some (PW_of (Rlweak g (by decide +kernel) (by decide) (by decide))))
theorem w_isPublished {T : Nat → Nat} {S : AS} (hT : TI T S) {a0 : Option Nat} {a1 : Int32} {a2 : Option Nat} (h0 : Tx T 1 a0) (hk : Tx T 50 a2) : Ho (f_W_isPublished S a0 a1 a2) (fun q => PW T [] S 10 700 q.2) := by
  unfold f_W_isPublished
  refine r_rv hT h0 rfl ?_
  have g0 := Rlrf hT
  refine r_bhT (t_K_isPublished hT h0) (fun v _ => ?_) (fun e he => ?_)
  · refine r_if (fun _ => ?_) (fun _ => ?_)
    · unfold f_W_isPublished_B15
      exact r_bJ g0 hk (fun g2 => r_some ⟨_, Rlweak g2 (fun _ z => z) (by decide) (by decide)⟩)
    · unfold f_W_isPublished_B15
      exact r_bJ g0 hk (fun g2 => r_some ⟨_, Rlweak g2 (fun _ z => z) (by decide) (by decide)⟩)
  · simp only [List.mem_cons, List.not_mem_nil, or_false] at he
    subst he
    exact r_ifT rfl (r_some (PW_of (Rlweak (RlwX g0) (by decide +kernel) (by decide) (by decide))))
theorem w_line {T : Nat → Nat} {S : AS} (hT : TI T S) {a0 : Option Nat} {a1 : Int32} {a2 : Option Nat} (h0 : Tx T 1 a0) (hk : Tx T 50 a2) : Ho (f_W_line S a0 a1 a2) (fun q => PW T kw_K91 S 10 700 q.2) := by
  unfold f_W_line
  refine r_rv hT h0 rfl ?_
  refine r_bhX (t_K_line hT h0) (fun v S1 g _ => ?_) (fun e S1 g he => ?_)
  · exact r_bJ g hk (fun g2 => r_some ⟨_, Rlweak g2 (fun _ z => z) (by decide) (by decide)⟩)
  · simp only [List.mem_cons, List.not_mem_nil, or_false] at he
    subst he
    exact r_ifT rfl (r_some (PW_of (Rlweak g (by decide +kernel) (by decide) (by decide))))
theorem w_check {T : Nat → Nat} {S : AS} (hT : TI T S) {a0 : Option Nat} {a1 : Int32} {a2 : Int32} {a3 : Int32} {a4 : Option Nat} (h0 : Tx T 1 a0) (hk : Tx T 50 a4) : Ho (f_W_check S a0 a1 a2 a3 a4) (fun q => PW T kw_K93 S 10 700 q.2) := by
  unfold f_W_check
  refine r_rv hT h0 rfl ?_
  refine r_bhX (t_K_check hT h0) (fun v S1 g _ => ?_) (fun e S1 g he => ?_)
  · exact r_bJ g hk (fun g2 => r_some ⟨_, Rlweak g2 (fun _ z => z) (by decide) (by decide)⟩)
  · simp only [List.mem_cons, List.not_mem_nil, or_false] at he
    rcases he with rfl | rfl
    · exact r_ifF (by decide +kernel) (r_ifT rfl (r_some (PW_of (Rlweak g (by decide +kernel) (by decide) (by decide)))))
    · exact r_ifT rfl (r_some (PW_of (Rlweak g (by decide +kernel) (by decide) (by decide))))
theorem w_lag {T : Nat → Nat} {S : AS} (hT : TI T S) {a0 : Option Nat} {a1 : Int32} {a2 : Option Nat} (h0 : Tx T 1 a0) (hk : Tx T 50 a2) : Ho (f_W_lag S a0 a1 a2) (fun q => PW T [] S 10 700 q.2) := by
  unfold f_W_lag
  refine r_rv hT h0 rfl ?_
  have g0 := Rlrf hT
  refine r_bhT (t_K_lag hT h0) (fun v _ => ?_) (fun e he => ?_)
  · exact r_bJ g0 hk (fun g2 => r_some ⟨_, Rlweak g2 (fun _ z => z) (by decide) (by decide)⟩)
  · simp only [List.mem_cons, List.not_mem_nil, or_false] at he
    subst he
    exact r_ifT rfl (r_some (PW_of (Rlweak (RlwX g0) (by decide +kernel) (by decide) (by decide))))
theorem w_recover {T : Nat → Nat} {S : AS} (hT : TI T S) {a0 : Option Nat} {a1 : Int32} {a2 : Option Nat} (h0 : Tx T 1 a0) (hk : Tx T 50 a2) : Ho (f_W_recover S a0 a1 a2) (fun q => PW T kw_K94 S 10 700 q.2) := by
  unfold f_W_recover
  refine r_rv hT h0 rfl ?_
  refine r_bhY (t_K_recover hT h0) (fun v T1 S1 g _ => ?_) (fun e T1 S1 g he => ?_)
  · exact r_bJ g (Tx.up hk g.ty) (fun g2 => r_some ⟨_, Rlweak g2 (fun _ z => z) (by decide) (by decide)⟩)
  · simp only [List.mem_cons, List.not_mem_nil, or_false] at he
    rcases he with rfl | rfl
    · exact r_ifF (by decide +kernel) (r_ifT rfl (r_some (PW_of (Rlweak g (by decide +kernel) (by decide) (by decide)))))
    · exact r_ifT rfl (r_some (PW_of (Rlweak g (by decide +kernel) (by decide) (by decide))))
theorem w_vouch {T : Nat → Nat} {S : AS} (hT : TI T S) {a0 : Option Nat} {a1 : Int32} {a2 : Int32} {a3 : Option Nat} (h0 : Tx T 1 a0) (hk : Tx T 50 a3) : Ho (f_W_vouch S a0 a1 a2 a3) (fun q => PW T kw_K96 S 10 700 q.2) := by
  unfold f_W_vouch
  refine r_rv hT h0 rfl ?_
  refine r_bhX (t_K_vouch hT h0) (fun v S1 g _ => ?_) (fun e S1 g he => ?_)
  · exact r_bJ g hk (fun g2 => r_some ⟨_, Rlweak g2 (fun _ z => z) (by decide) (by decide)⟩)
  · simp only [List.mem_cons, List.not_mem_nil, or_false] at he
    rcases he with rfl | rfl
    · exact r_ifF (by decide +kernel) (r_ifT rfl (r_some (PW_of (Rlweak g (by decide +kernel) (by decide) (by decide)))))
    · exact r_ifT rfl (r_some (PW_of (Rlweak g (by decide +kernel) (by decide) (by decide))))
theorem w_stop {T : Nat → Nat} {S : AS} (hT : TI T S) {a0 : Option Nat} {a1 : Int32} {a2 : Int32} {a3 : Option Nat} (h0 : Tx T 1 a0) (hk : Tx T 50 a3) : Ho (f_W_stop S a0 a1 a2 a3) (fun q => PW T kw_K97 S 10 700 q.2) := by
  unfold f_W_stop
  refine r_rv hT h0 rfl ?_
  refine r_bhX (t_K_stop hT h0) (fun v S1 g _ => ?_) (fun e S1 g he => ?_)
  · exact r_bJ g hk (fun g2 => r_some ⟨_, Rlweak g2 (fun _ z => z) (by decide) (by decide)⟩)
  · simp only [List.mem_cons, List.not_mem_nil, or_false] at he
    rcases he with rfl | rfl
    · exact r_ifF (by decide +kernel) (r_ifT rfl (r_some (PW_of (Rlweak g (by decide +kernel) (by decide) (by decide)))))
    · exact r_ifT rfl (r_some (PW_of (Rlweak g (by decide +kernel) (by decide) (by decide))))
theorem w_finish {T : Nat → Nat} {S : AS} (hT : TI T S) {a0 : Option Nat} {a1 : Int32} {a2 : Option Nat} (h0 : Tx T 1 a0) (hk : Tx T 50 a2) : Ho (f_W_finish S a0 a1 a2) (fun q => PW T kw_K101 S 10 700 q.2) := by
  unfold f_W_finish
  refine r_rv hT h0 rfl ?_
  refine r_bhX (t_K_finish hT h0) (fun v S1 g _ => ?_) (fun e S1 g he => ?_)
  · exact r_bJ g hk (fun g2 => r_some ⟨_, Rlweak g2 (fun _ z => z) (by decide) (by decide)⟩)
  · simp only [List.mem_cons, List.not_mem_nil, or_false] at he
    rcases he with rfl | rfl
    · exact r_ifF (by decide +kernel) (r_ifT rfl (r_some (PW_of (Rlweak g (by decide +kernel) (by decide) (by decide)))))
    · exact r_ifT rfl (r_some (PW_of (Rlweak g (by decide +kernel) (by decide) (by decide))))
theorem w_link {T : Nat → Nat} {S : AS} (hT : TI T S) {a0 : Option Nat} {a1 : Int32} {a2 : Int32} {a3 : Option Nat} (h0 : Tx T 1 a0) (hk : Tx T 50 a3) : Ho (f_W_link S a0 a1 a2 a3) (fun q => PW T kw_K102 S 10 700 q.2) := by
  unfold f_W_link
  refine r_rv hT h0 rfl ?_
  refine r_bhX (t_K_link hT h0) (fun v S1 g _ => ?_) (fun e S1 g he => ?_)
  · exact r_bJ g hk (fun g2 => r_some ⟨_, Rlweak g2 (fun _ z => z) (by decide) (by decide)⟩)
  · simp only [List.mem_cons, List.not_mem_nil, or_false] at he
    rcases he with rfl | rfl
    · exact r_ifF (by decide +kernel) (r_ifT rfl (r_some (PW_of (Rlweak g (by decide +kernel) (by decide) (by decide)))))
    · exact r_ifT rfl (r_some (PW_of (Rlweak g (by decide +kernel) (by decide) (by decide))))
theorem w_foreign {T : Nat → Nat} {S : AS} (hT : TI T S) {a0 : Option Nat} {a1 : Int32} {a2 : Option Nat} (h0 : Tx T 1 a0) (hk : Tx T 50 a2) : Ho (f_W_foreign S a0 a1 a2) (fun q => PW T kw_K50 S 10 700 q.2) := by
  unfold f_W_foreign
  refine r_rv hT h0 rfl ?_
  refine r_bhY (t_K_foreign hT h0) (fun v T1 S1 g _ => ?_) (fun e T1 S1 g he => ?_)
  · exact r_bJ g (Tx.up hk g.ty) (fun g2 => r_some ⟨_, Rlweak g2 (fun _ z => z) (by decide) (by decide)⟩)
  · simp only [List.mem_cons, List.not_mem_nil, or_false] at he
    rcases he with rfl | rfl
    · exact r_ifF (by decide +kernel) (r_ifT rfl (r_some (PW_of (Rlweak g (by decide +kernel) (by decide) (by decide)))))
    · exact r_ifT rfl (r_some (PW_of (Rlweak g (by decide +kernel) (by decide) (by decide))))
theorem w_leave {T : Nat → Nat} {S : AS} (hT : TI T S) {a0 : Option Nat} {a1 : Int32} {a2 : Option Nat} (h0 : Tx T 1 a0) (hk : Tx T 50 a2) : Ho (f_W_leave S a0 a1 a2) (fun q => PW T kw_K106 S 10 700 q.2) := by
  unfold f_W_leave
  refine r_rv hT h0 rfl ?_
  refine r_bhX (t_K_leave hT h0) (fun v S1 g _ => ?_) (fun e S1 g he => ?_)
  · exact r_bJ g hk (fun g2 => r_some ⟨_, Rlweak g2 (fun _ z => z) (by decide) (by decide)⟩)
  · simp only [List.mem_cons, List.not_mem_nil, or_false] at he
    subst he
    exact r_ifT rfl (r_some (PW_of (Rlweak g (by decide +kernel) (by decide) (by decide))))
theorem w_audit {T : Nat → Nat} {S : AS} (hT : TI T S) {a0 : Option Nat} {a1 : Int32} {a2 : Option Nat} (h0 : Tx T 1 a0) (hk : Tx T 50 a2) : Ho (f_W_audit S a0 a1 a2) (fun q => PW T [] S 10 700 q.2) := by
  unfold f_W_audit
  refine r_rv hT h0 rfl ?_
  have g0 := Rlrf hT
  refine r_bhT (t_K_audit hT h0) (fun v _ => ?_) (fun e he => ?_)
  · exact r_bJ g0 hk (fun g2 => r_some ⟨_, Rlweak g2 (fun _ z => z) (by decide) (by decide)⟩)
  · simp only [List.mem_cons, List.not_mem_nil, or_false] at he
    subst he
    exact r_ifT rfl (r_some (PW_of (Rlweak (RlwX g0) (by decide +kernel) (by decide) (by decide))))
theorem w_sumAnew {T : Nat → Nat} {S : AS} (hT : TI T S) {a0 : Option Nat} {a1 : Int32} {a2 : Option Nat} (h0 : Tx T 1 a0) (hk : Tx T 50 a2) : Ho (f_W_sumAnew S a0 a1 a2) (fun q => PW T [] S 10 700 q.2) := by
  unfold f_W_sumAnew
  refine r_rv hT h0 rfl ?_
  have g0 := Rlrf hT
  refine r_bhT (t_K_sumAnew hT h0) (fun v _ => ?_) (fun e he => ?_)
  · exact r_bJ g0 hk (fun g2 => r_some ⟨_, Rlweak g2 (fun _ z => z) (by decide) (by decide)⟩)
  · simp only [List.mem_cons, List.not_mem_nil, or_false] at he
    subst he
    exact r_ifT rfl (r_some (PW_of (Rlweak (RlwX g0) (by decide +kernel) (by decide) (by decide))))
