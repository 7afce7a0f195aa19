/-! ===== calls that end families leave the other codes alone ===== -/
section
variable {T Tm : Nat → Nat} {S0 S m : AS}
theorem FK_rS (h : FK T S0 S) (v : Int32) : Hp (f_K_requireState S v) (fun q => FK T S0 q.2) := by
  unfold f_K_requireState
  exact p_if (fun _ => p_ret (FK_X h)) (fun _ => p_ret h)
theorem FK_rA (h : FK T S0 S) (v : Int32) : Hp (f_K_requireArgument S v) (fun q => FK T S0 q.2) := by
  unfold f_K_requireArgument
  exact p_if (fun _ => p_ret (FK_X h)) (fun _ => p_ret h)
theorem FK_rI (h : FK T S0 S) (a n : Int32) : Hp (f_K_requireIndex S a n) (fun q => FK T S0 q.2) := by
  unfold f_K_requireIndex f_K_requireIndex_B9
  exact p_if (fun _ => p_ret (FK_X h)) (fun _ => p_if (fun _ => p_ret h) (fun _ => p_ret (FK_X h)))
theorem p_isW (a b c : Int32) : Hp (f_K_isWithin S a b c) (fun q => q.2 = S) := by
  intro q e
  rw [q_win] at e
  cases e
  rfl
theorem FK_retire (hb : BF T S0) : ∀ (fu : Nat) (i now : Int32) (S : AS), FK T S0 S → Hp (f_Keyring_retire_L2 fu S (some 25) now i) (fun S' => FK T S0 S')
  | 0, _, _, _, _ => p_0
  | fu + 1, i, now, S, h => by
    unfold f_Keyring_retire_L2 f_Keyring_retire_C2 f_Keyring_retire_B40
    refine p_of st_gI (p_if (fun _ => p_ret h) (fun _ => p_if (fun _ => p_ret h) (fun _ => p_of (st_gRe (v := some 26) (by rw [h.1]; exact hb.1.2.2.2)) (p_of st_aI (p_if (fun _ => ?_) (fun _ => p_of st_val (FK_retire hb fu _ _ S h)))))))
    exact p_of st_gI (p_of st_pI (p_of st_val (FK_retire hb fu _ _ _ (FK_t hb h (τ := 10) hb.2.1.2.2.2.2.2.2.1 (by decide) (by decide) (by decide)))))
theorem FK_turn (hb : BF T S0) (h : FK T S0 S) : Hp (f_K_turnKeys S (some 4)) (fun S' => FK T S0 S') := by
  have t25 := hb.2.1.2.2.2.2.2.2.1
  have t26 := hb.2.1.2.2.2.2.2.2.2
  have b44 : ∀ S', FK T S0 S' → Hp (f_K_turnKeys_B44 S' (some 4)) (fun S' => FK T S0 S') := fun S' h' => by
    unfold f_K_turnKeys_B44 f_Keyring_retire
    exact p_of (st_gRe (FK_r hb h' (j := 15) (p := 25) rfl)) (p_of st_gI (p_of st_rv (p_bd (FK_retire hb _ _ _ S' h') (fun S4 h4 => p_ret h4))))
  have b29 : ∀ S', FK T S0 S' → Hp (f_Keyring_putWaitingToSign_B29 S' (some 25)) (fun S' => FK T S0 S') := fun S' h' => by
    unfold f_Keyring_putWaitingToSign_B29
    exact p_of st_gI (p_of st_pI (p_of st_pI (p_ret (FK_t hb (FK_t hb h' (τ := 10) t25 (by decide) (by decide) (by decide)) (τ := 10) t25 (by decide) (by decide) (by decide)))))
  unfold f_K_turnKeys
  refine p_of (st_gRe (FK_r hb h (j := 15) (p := 25) rfl)) (p_of st_gI (p_of st_rv (p_b2 (P := fun q => q.2 = S) ?_ (fun v S' e => ?_))))
  · unfold f_Keyring_isDueToSign
    exact p_of st_gI (p_if (fun _ => p_ret rfl) (fun _ => p_of st_gI (p_if (fun _ => p_ret rfl) (fun _ => p_ret rfl))))
  · have e : S' = S := e
    rw [e]
    refine p_if (fun _ => b44 S h) (fun _ => p_of (st_gRe (FK_r hb h (j := 15) (p := 25) rfl)) (p_of st_gI (p_of st_rv (p_bd (P := fun S' => FK T S0 S') ?_ (fun S13 h13 => ?_)))))
    · unfold f_Keyring_putWaitingToSign
      refine p_of st_gI (p_if (fun _ => b29 S h) (fun _ => p_of st_gI (p_if (fun _ => b29 S h) (fun _ => ?_))))
      exact p_of (st_gRe (v := some 26) (by rw [h.1]; exact hb.1.2.2.2)) (p_of st_gI (p_of st_bI (b29 _ (FK_t hb h (τ := 11) t26 (by decide) (by decide) (by decide)))))
    · exact p_of (st_gRe (FK_r hb h13 (j := 1) (p := 5) rfl)) (p_of (st_gRe (FK_r hb h13 (j := 15) (p := 25) rfl)) (p_of st_gI (p_of st_gI (p_of st_rv (p_bd (FK_aw hb h13) (fun S19 h19 => b44 S19 h19))))))
theorem FK_pass_L (hb : BF T S0) {x b0 : Int32} : ∀ (fu : Nat) (i : Int32) (S : AS), FK T S0 S → Hp (f_K_pass_L38 fu S (some 4) x b0 i) (fun q => FK T S0 q.2)
  | 0, _, _, _ => p_0
  | fu + 1, i, S, h => by
    unfold f_K_pass_L38 f_K_pass_C38
    refine p_if (fun _ => p_of st_gI (p_ret h)) (fun _ => p_of st_gI (p_of st_pI (p_of st_rv ?_)))
    refine p_bd (FK_turn hb (FK_t hb h (τ := 1) hb.2.1.1 (by decide) (by decide) (by decide))) (fun S5 h5 => p_of st_rv (p_bx (FK_old hb h5) (fun v S7 h7 => p_of st_val (FK_pass_L hb fu _ S7 h7)) (fun e S7 h7 => h7)))
theorem f_pass (hb : BF T S) (a : Int32) : Hp (f_K_pass S (some 4) a) (fun q => FK T S q.2) := by
  unfold f_K_pass
  refine p_b2 (p_isW _ _ _) (fun v S' e => ?_)
  have e : S' = S := e
  rw [e]
  refine p_bx (FK_rA (FK_rf T S) v) (fun u S1 h1 => ?_) (fun e S1 h1 => h1)
  have b28 : ∀ y, Hp (f_K_pass_B28 S1 (some 4) a y) (fun q => FK T S q.2) := fun y => by
    unfold f_K_pass_B28
    exact p_bx (FK_rS h1 y) (fun u S2 h2 => p_of st_gI (FK_pass_L hb _ _ S2 h2)) (fun e S2 h2 => h2)
  exact p_of st_gI (p_if (fun _ => b28 0) (fun _ => b28 1))
theorem FK_findS (hb : BF T S0) (h : FK T S0 S) (a : Int32) : Hp (f_K_findSession S (some 4) a) (fun q => FK T S0 q.2 ∧ ∀ v, q.1 = .inl v → ∃ g, v = some g ∧ T g = 43) := by
  have r := FK_r hb h (j := 8) (p := 19) rfl
  unfold f_K_findSession
  refine p_of (st_gRe r) (p_of st_rv (p_of st_size (p_bx (FK_rI h _ _) (fun v S1 h1 => ?_) (fun e S1 h1 => ⟨h1, fun v z => nomatch z⟩))))
  have r1 := FK_r hb h1 (j := 8) (p := 19) rfl
  exact p_of (st_gRe r1) (p_of st_rv (FK_get19 hb h1 (fun g hg => p_of st_cc (p_ret ⟨h1, fun v z => ⟨g, by cases z; rfl, hg⟩⟩))))
theorem f_signOut (hb : BF T S) (a : Int32) : Hp (f_K_signOut S (some 4) a) (fun q => FK T S q.2) := by
  unfold f_K_signOut
  refine p_of st_rv (p_bx (FK_findS hb (FK_rf T S) a) (fun v S1 h1 => ?_) (fun e S1 h1 => h1.1))
  obtain ⟨g, rfl, hg⟩ := h1.2 v rfl
  have h1 : FK T S S1 := h1.1
  exact p_of st_gI (p_bx (FK_rS h1 _) (fun u S2 h2 => p_of st_gI (p_of st_rv (p_bx (FK_eS hb h2 hg) (fun u S3 h3 => p_of st_gI (p_ret h3)) (fun e S3 h3 => h3)))) (fun e S2 h2 => h2))
/-- a person is found -/
theorem FK_findP (b : BB T Tm S m) (a : Int32) : Hp (f_K_findPerson S (some 4) a) (fun q => FK T S q.2 ∧ ∀ v, q.1 = .inl v → ∃ i, i < 6 ∧ v = some (29 + 4 * i) ∧ q.2 = S) := p_mono (x_fp b a) (fun q e => by
  rcases e with ⟨i, i6, -, rfl⟩ | ⟨-, rfl⟩
  · exact ⟨FK_rf T S, fun v z => ⟨i, i6, by cases z; rfl, rfl⟩⟩
  · exact ⟨FK_X (FK_rf T S), fun v z => nomatch z⟩)
theorem FK_wd_L (hb : BF T S0) {c : Int32} {x : Option Nat} : ∀ (fu : Nat) (i a : Int32) (S : AS), FK T S0 S → Hp (f_K_withdraw_L28 fu S (some 4) c x a i) (fun q => FK T S0 q.2)
  | 0, _, _, _, _ => p_0
  | fu + 1, i, a, S, h => by
    unfold f_K_withdraw_L28 f_K_withdraw_C28 f_K_withdraw_B92
    have r := FK_r hb h (j := 13) (p := 23) rfl
    have nx : ∀ (a : Int32) (S' : AS), FK T S0 S' → Hp ((some (i + (1 : Int32))).bind fun i1 => f_K_withdraw_L28 fu S' (some 4) c x a i1) (fun q => FK T S0 q.2) := fun a S' h' => p_of st_val (FK_wd_L hb fu _ a S' h')
    refine p_of (st_gRe r) (p_of st_rv (p_of st_size (p_if (fun _ => p_ret h) (fun _ => p_of (st_gRe r) (p_of st_rv (FK_get23 hb h (fun g hg => ?_)))))))
    refine p_of st_cc (p_of st_gI (p_if (fun _ => nx a S h) (fun _ => p_of st_gR ?_)))
    cases sR S g 0 with
    | none => exact fun a ha => nomatch ha
    | some s =>
      refine p_of st_gR (p_of st_ac (p_of st_ac (p_if (fun _ => p_of st_gI (p_if (fun _ => ?_) (fun _ => nx a S h))) (fun _ => nx a S h))))
      exact p_of st_rv (p_bx (FK_eF hb h hg) (fun v S' h' => p_of st_val (nx _ S' h')) (fun e S' h' => h'))
theorem f_withdraw (hb : BF T S) (b : BB T Tm S m) (a c : Int32) : Hp (f_K_withdraw S (some 4) a c) (fun q => FK T S q.2) := by
  unfold f_K_withdraw
  refine p_of st_rv (p_bx (FK_findP b a) (fun v S1 h1 => ?_) (fun e S1 h1 => h1.1))
  obtain ⟨i, i6, rfl, e⟩ := h1.2 v rfl
  have e : S1 = S := e
  rw [e]
  have r9 := (b.2.1.1 i i6).2.2.2.1
  obtain ⟨-, -, -, t16⟩ := kt_P b.1.1 b.2.1 i6
  refine p_of (st_gRe r9) (p_of st_aN (p_bx (FK_rI (FK_rf T S) _ _) (fun v S2 h2 => ?_) (fun e S2 h2 => h2)))
  have h2 : FK T S S2 := h2
  exact p_of (st_gRe (v := some (32 + 4 * i)) (by rw [h2.1]; exact r9)) (p_of st_bI (FK_wd_L hb _ _ _ _ (FK_t hb h2 t16 (by decide) (by decide) (by decide))))
theorem FK_te_L (hb : BF T S0) {v : Int32} : ∀ (fu : Nat) (i a : Int32) (S : AS), FK T S0 S → Hp (f_K_tellOfEnded_L4 fu S (some 4) v a i) (fun q => FK T S0 q.2)
  | 0, _, _, _, _ => p_0
  | fu + 1, i, a, S, h => by
    unfold f_K_tellOfEnded_L4 f_K_tellOfEnded_C4 f_K_tellOfEnded_B48
    have r := FK_r hb h (j := 13) (p := 23) rfl
    refine p_of (st_gRe r) (p_of st_rv (p_of st_size (p_if (fun _ => p_ret h) (fun _ => p_of (st_gRe r) (p_of st_rv (FK_get23 hb h (fun g hg => ?_)))))))
    refine p_of st_cc (p_of st_gI (p_if (fun _ => p_of st_rv (p_b2 (FK_tell hb h hg v) (fun w S' h' => ?_))) (fun _ => p_of st_val (FK_te_L hb fu _ _ S h))))
    exact p_if (fun _ => p_of st_val (FK_te_L hb fu _ _ S' h')) (fun _ => p_of st_val (p_of st_val (FK_te_L hb fu _ _ S' h')))
theorem f_line (hb : BF T S) (b : BB T Tm S m) (a : Int32) : Hp (f_K_line S (some 4) a) (fun q => FK T S q.2) := by
  unfold f_K_line
  refine p_of st_rv (p_bx (P := fun q => (∃ i, i < 4 ∧ q = (.inl (some (53 + i)), S)) ∨ q = (.inr eX, wX S)) (p_mono (x_fV b a) (fun q e => by
    rcases e with ⟨i, i4, -, e⟩ | ⟨-, e⟩
    · exact Or.inl ⟨i, i4, e⟩
    · exact Or.inr e)) (fun v S1 h1 => ?_) (fun e S1 h1 => ?_))
  · rcases h1 with ⟨i, i4, e⟩ | e
    · cases e
      have t := kt_S b.1.1 b.2.1 i4
      have b19 : ∀ y, Hp (f_K_line_B19 S (some 4) a (some (53 + i)) (some (53 + i)) y) (fun q => FK T S q.2) := fun y => by
        unfold f_K_line_B19 f_K_tellOfEnded
        have h1 : FK T S (wI S (53 + i) 1 y) := FK_t hb (FK_rf T S) t (by decide) (by decide) (by decide)
        exact p_of st_pZ (p_of st_gI (p_if (fun _ => p_ret h1) (fun _ => p_of st_rv (p_b2 (FK_te_L hb _ _ _ _ h1) (fun w S' h' => p_ret h')))))
      exact p_of st_gI (p_if (fun _ => b19 1) (fun _ => b19 0))
    · cases e
  · rcases h1 with ⟨i, i4, e⟩ | e
    · cases e
    · cases e
      exact FK_X (FK_rf T S)
/-- a state that differs in cells of other kinds alone -/
theorem FK_o (h : FK T S0 S) {S' : AS} (r : sR S' = sR S) (o : ∀ k j, (T k = 44 ∨ T k = 22 ∨ T k = 24) → sI S' k j = sI S k j) (hb : BF T S0) : FK T S0 S' := ⟨r.trans h.1, (o 19 2 (Or.inr (Or.inl hb.2.1.2.2.2.2.1))).trans h.2.1, (o 23 2 (Or.inr (Or.inr hb.2.1.2.2.2.2.2.1))).trans h.2.2.1, fun k j hk hn => (o k j (Or.inl hk)).trans (h.2.2.2 k j hk hn)⟩
theorem f_leave (hb : BF T S) (b : BB T Tm S m) (hA : cAtt S m) (hRc : cRec S m) (a : Int32) : Hp (f_K_leave S (some 4) a) (fun q => FK T S q.2) := by
  unfold f_K_leave
  refine p_of st_rv (p_bx (FK_findP b a) (fun v S1 h1 => ?_) (fun e S1 h1 => h1.1))
  obtain ⟨i, i6, rfl, e⟩ := h1.2 v rfl
  have e : S1 = S := e
  rw [e]
  obtain ⟨t29, -⟩ := kt_P b.1.1 b.2.1 i6
  have t27 : T 27 = 26 := (b.1.1.t6 6 (by decide)).1
  have b19 : ∀ y, Hp (f_K_leave_B19 S (some 4) (some (29 + 4 * i)) (some (29 + 4 * i)) y) (fun q => FK T S q.2) := fun y => by
    unfold f_K_leave_B19
    have h1 : FK T S (wI S (29 + 4 * i) 11 y) := FK_t hb (FK_rf T S) t29 (by decide) (by decide) (by decide)
    refine p_of st_pZ (p_of st_gI (p_if (fun _ => p_ret h1) (fun _ => p_of st_rv ?_)))
    unfold f_K_denyAttemptsOf f_K_stopRecoveriesOf
    refine p_bd (p_deny_L b hA i6 (B := wI S (29 + 4 * i) 11 y) (ti_sI_ne (by omega)) (uA m) 0 kr_FU _ (Nat.zero_add _) rfl rfl (fun _ _ _ => rfl) (fun a ha => by rw [if_neg (fun q => absurd q.1 (Nat.not_lt_zero _))])) (fun S4 p => ?_)
    obtain ⟨a1, a2, a3, -⟩ := p
    have h4 : FK T S S4 := FK_o h1 a1 (fun k j hk => a3 k j (by omega)) hb
    refine p_of st_rv (p_bd (p_stopR_L b hRc i6 (B := S4) ((a3 27 2 (by omega)).trans (ti_sI_ne (by omega))) (nR m) 0 kr_FU S4 (Nat.zero_add _) a1 a2 (fun _ _ _ => rfl) (fun a ha => by rw [if_neg (fun q => absurd q.1 (Nat.not_lt_zero _))])) (fun S6 p => ?_))
    obtain ⟨b1, b2, b3, -⟩ := p
    have h6 : FK T S S6 := FK_o h4 (b1.trans a1.symm) (fun k j hk => b3 k j (by omega)) hb
    unfold f_K_endSessionsOf
    exact p_of st_rv (p_bx (p_of st_gI (FK_eA_L hb _ _ S6 h6)) (fun v S8 h8 => p_ret h8) (fun e S8 h8 => h8))
  exact p_of st_gI (p_if (fun _ => b19 1) (fun _ => b19 0))
end
