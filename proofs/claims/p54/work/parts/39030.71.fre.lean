/-! ===== the endings leave what is no family alone ===== -/
def BF (T : Nat → Nat) (S0 : AS) : Prop := K4F S0 ∧ (T 4 = 1 ∧ T 5 = 2 ∧ T 6 = 3 ∧ T 7 = 4 ∧ T 19 = 22 ∧ T 23 = 24 ∧ T 25 = 10 ∧ T 26 = 11) ∧ (∀ i : Nat, (i : Int) < (sI S0 19 2).toInt → T (lel S0 19 i) = 43 ∧ sR S0 ((sR S0 19 1).getD 0) i = some (lel S0 19 i)) ∧ (∀ i : Nat, (i : Int) < (sI S0 23 2).toInt → T (lel S0 23 i) = 44 ∧ sR S0 ((sR S0 23 1).getD 0) i = some (lel S0 23 i))
theorem BF_of {T : Nat → Nat} {S0 : AS} (hT : TI T S0) : BF T S0 := by
  obtain ⟨t4, t5, t6, t7, -, -, -, -, -, t25, t26, -⟩ := kt4 hT
  exact ⟨K4F_of hT, ⟨t4, t5, t6, t7, (hT.t6 2 (by decide)).1, (hT.t6 4 (by decide)).1, t25, t26⟩, fun i hi => lel_at hT (q := 2) (by decide) hi, fun i hi => lel_at hT (q := 4) (by decide) hi⟩
/-- a place that is a family's -/
def IF (S0 : AS) (k : Nat) : Prop := ∃ i : Nat, (i : Int) < (sI S0 23 2).toInt ∧ k = lel S0 23 i
def FK (T : Nat → Nat) (S0 S : AS) : Prop := sR S = sR S0 ∧ sI S 19 2 = sI S0 19 2 ∧ sI S 23 2 = sI S0 23 2 ∧ ∀ k j, T k = 44 → ¬ IF S0 k → sI S k j = sI S0 k j
theorem FK_rf (T : Nat → Nat) (S : AS) : FK T S S := ⟨rfl, rfl, rfl, fun _ _ _ _ => rfl⟩
section
variable {T : Nat → Nat} {S0 S : AS}
theorem FK_w (h : FK T S0 S) {k j : Nat} {v : Int32} (h19 : k ≠ 19) (h23 : k ≠ 23) (hk : T k ≠ 44 ∨ IF S0 k) : FK T S0 (wI S k j v) := by
  obtain ⟨h1, h2, h3, h4⟩ := h
  refine ⟨h1, (ti_sI_ne (by omega)).trans h2, (ti_sI_ne (by omega)).trans h3, fun a b ha hb => ?_⟩
  rw [ti_sI_ne (fun q => by
    rw [← q.1] at hk
    exact hk.elim (fun z => z ha) hb)]
  exact h4 a b ha hb
theorem FK_t (hb : BF T S0) (h : FK T S0 S) {k j τ : Nat} {v : Int32} (hk : T k = τ) (h1 : τ ≠ 22) (h2 : τ ≠ 24) (h3 : τ ≠ 44) : FK T S0 (wI S k j v) := FK_w h (fun q => h1 (by rw [← hk, q]; exact hb.2.1.2.2.2.2.1)) (fun q => h2 (by rw [← hk, q]; exact hb.2.1.2.2.2.2.2.1)) (Or.inl (by rw [hk]; exact h3))
theorem FK_i (hb : BF T S0) (h : FK T S0 S) {k j : Nat} {v : Int32} (hk : IF S0 k) : FK T S0 (wI S k j v) := by
  obtain ⟨i, h1, h2⟩ := hk
  have t := (hb.2.2.2 i h1).1
  rw [← h2] at t
  exact FK_w h (fun q => by rw [q, hb.2.1.2.2.2.2.1] at t; exact absurd t (by decide)) (fun q => by rw [q, hb.2.1.2.2.2.2.2.1] at t; exact absurd t (by decide)) (Or.inr ⟨i, h1, h2⟩)
theorem FK_a (hb : BF T S0) (h : FK T S0 S) {S' : AS} (a : sR S' = sR S ∧ sL S' = sL S ∧ ∀ p j, p ≠ 5 → p ≠ 6 → p ≠ 7 → sI S' p j = sI S p j) : FK T S0 S' := by
  obtain ⟨h1, h2, h3, h4⟩ := h
  obtain ⟨-, ⟨t4, t5, t6, t7, -⟩, -⟩ := hb
  refine ⟨a.1.trans h1, (a.2.2 19 2 (by omega) (by omega) (by omega)).trans h2, (a.2.2 23 2 (by omega) (by omega) (by omega)).trans h3, fun p j hp hq => ?_⟩
  rw [a.2.2 p j (fun q => by rw [q, t5] at hp; cases hp) (fun q => by rw [q, t6] at hp; cases hp) (fun q => by rw [q, t7] at hp; cases hp)]
  exact h4 p j hp hq
theorem FK_X (h : FK T S0 S) : FK T S0 (wX S) := h
theorem FK_aw (hb : BF T S0) (h : FK T S0 S) {a b c : Int32} : Hp (f_Audit_write S (some 5) a b c) (fun S' => FK T S0 S') := p_mono (p_awf (by rw [h.1]; exact hb.1.2.1) (by rw [h.1]; exact hb.1.2.2.1)) (fun _ q => FK_a hb h q)
theorem p_isIn (a b : Int32) : Hp (f_K_isIn S a b) (fun q => q.2 = S) := by
  unfold f_K_isIn
  exact p_if (fun _ => p_ret rfl) (fun _ => p_ret rfl)
theorem FK_tell (hb : BF T S0) (h : FK T S0 S) {g : Nat} (hg : IF S0 g) (v : Int32) : Hp (f_Grant_tell S (some g) v) (fun q => FK T S0 q.2) := by
  unfold f_Grant_tell
  refine p_of st_gI (p_b2 (p_isIn _ _) (fun w S' e => ?_))
  have e : S' = S := e
  rw [e]
  refine p_if (fun _ => p_ret h) (fun _ => p_of st_gI (p_b2 (p_isIn _ _) (fun w S' e => ?_)))
  have e : S' = S := e
  rw [e]
  exact p_if (fun _ => p_of st_gI (p_of st_pI (p_ret (FK_i hb h hg)))) (fun _ => p_ret h)
theorem FK_fs (h : FK T S0 S) (v : Int32) : Hp (f_K_findService S (some 4) v) (fun q => FK T S0 q.2) := by
  have b23 : ∀ y, Hp (f_K_findService_B23 S y) (fun q => FK T S0 q.2) := fun y => by
    unfold f_K_findService_B23
    exact p_if (fun _ => p_ret (FK_X h)) (fun _ => p_ret h)
  unfold f_K_findService f_K_findService_B22
  refine p_if (fun _ => b23 _) (fun _ => p_of st_gR ?_)
  cases sR S 4 11 with
  | none => exact fun a ha => nomatch ha
  | some d =>
    refine p_of st_aN (p_if (fun _ => b23 _) (fun _ => p_of st_gR ?_))
    cases sR S 4 11 with
    | none => exact fun a ha => nomatch ha
    | some d => exact p_of st_aR (b23 _)
theorem FK_eF_L (hb : BF T S0) {g : Nat} (hg : IF S0 g) : ∀ (fu : Nat) (i : Int32) (S : AS), FK T S0 S → Hp (f_K_endFamily_L31 fu S (some 4) (some g) i) (fun q => FK T S0 q.2)
  | 0, _, _, _ => p_0
  | fu + 1, i, S, h => by
    unfold f_K_endFamily_L31 f_K_endFamily_C31 f_K_endFamily_B53
    refine p_if (fun _ => p_ret h) (fun _ => p_of st_rv (p_bx (FK_fs h i) (fun v S3 h3 => ?_) (fun e S3 h3 => h3)))
    have h3 : FK T S0 S3 := h3
    cases v with
    | none => exact fun a ha => nomatch ha
    | some v =>
      exact p_of st_gI (p_if (fun _ => p_of st_val (FK_eF_L hb hg fu _ S3 h3)) (fun _ => p_of st_rv (p_b2 (FK_tell hb h3 hg i) (fun w S7 h7 => p_of st_val (FK_eF_L hb hg fu _ S7 h7)))))
theorem FK_eF (hb : BF T S0) (h : FK T S0 S) {g : Nat} (hg : IF S0 g) : Hp (f_K_endFamily S (some 4) (some g)) (fun q => FK T S0 q.2) := by
  unfold f_K_endFamily
  refine p_of st_gI (p_if (fun _ => p_ret h) (fun _ => p_of st_pZ ?_))
  have h10 : FK T S0 (wI S g 6 0) := FK_i hb h hg
  refine p_of (st_gRe (v := some 5) (by rw [h10.1]; exact hb.1.1 1 5 rfl)) (p_of st_gI (p_of st_gI (p_of st_rv (p_bd (FK_aw hb h10) (fun S15 h15 => FK_eF_L hb hg _ _ S15 h15)))))
/-- an element of the families' list, of the sessions' list -/
theorem FK_get23 (hb : BF T S0) (h : FK T S0 S) {α : Type} {F : Option Nat → AS → Option α} {Q : α → Prop} {i : Int32} (H : ∀ g, IF S0 g → Hp (F (some g) S) Q) : Hp (kr_b2 (f_AL_get S (some 23) i) F) Q := by
  refine p_b2 p_get (fun v S' e => ?_)
  obtain ⟨e, e1, e2⟩ := e
  obtain ⟨ev, eS⟩ := Prod.mk.inj e
  rw [eS, ev]
  rw [h.2.2.1] at e2
  have hi : ((i.toNatClampNeg : Nat) : Int) < (sI S0 23 2).toInt := by rw [natI e1]; exact e2
  rw [show sR S ((sR S 23 1).getD 0) i.toNatClampNeg = some (lel S0 23 i.toNatClampNeg) by rw [h.1]; exact (hb.2.2.2 _ hi).2]
  exact H _ ⟨_, hi, rfl⟩
theorem FK_get19 (hb : BF T S0) (h : FK T S0 S) {α : Type} {F : Option Nat → AS → Option α} {Q : α → Prop} {i : Int32} (H : ∀ g, T g = 43 → Hp (F (some g) S) Q) : Hp (kr_b2 (f_AL_get S (some 19) i) F) Q := by
  refine p_b2 p_get (fun v S' e => ?_)
  obtain ⟨e, e1, e2⟩ := e
  obtain ⟨ev, eS⟩ := Prod.mk.inj e
  rw [eS, ev]
  rw [h.2.1] at e2
  have hi : ((i.toNatClampNeg : Nat) : Int) < (sI S0 19 2).toInt := by rw [natI e1]; exact e2
  rw [show sR S ((sR S 19 1).getD 0) i.toNatClampNeg = some (lel S0 19 i.toNatClampNeg) by rw [h.1]; exact (hb.2.2.1 _ hi).2]
  exact H _ (hb.2.2.1 _ hi).1
theorem FK_r (hb : BF T S0) (h : FK T S0 S) {j p : Nat} (e : k4t j = some p) : sR S 4 j = some p := by
  rw [h.1]
  exact hb.1.1 j p e
theorem FK_eFs_L (hb : BF T S0) {x : Option Nat} : ∀ (fu : Nat) (i : Int32) (S : AS), FK T S0 S → Hp (f_K_endFamiliesOf_L2 fu S (some 4) x i) (fun q => FK T S0 q.2)
  | 0, _, _, _ => p_0
  | fu + 1, i, S, h => by
    unfold f_K_endFamiliesOf_L2 f_K_endFamiliesOf_C2 f_K_endFamiliesOf_B38
    have r := FK_r hb h (j := 13) (p := 23) rfl
    refine p_of (st_gRe r) (p_of st_rv (p_of st_size (p_if (fun _ => p_ret h) (fun _ => p_of (st_gRe r) (p_of st_rv (FK_get23 hb h (fun g hg => ?_)))))))
    refine p_of st_cc (p_of st_gR (p_of st_ac (p_of st_ac (p_if (fun _ => p_of st_rv (p_bx (FK_eF hb h hg) (fun v S' h' => p_of st_val (FK_eFs_L hb fu _ S' h')) (fun e S' h' => h'))) (fun _ => p_of st_val (FK_eFs_L hb fu _ S h))))))
theorem FK_mark (hb : BF T S0) (h : FK T S0 S) {s : Nat} (hs : T s = 43) : Hp (f_K_markEnded S (some 4) (some s)) (fun S' => FK T S0 S') := by
  unfold f_K_markEnded
  refine p_of st_pZ (p_of st_gI (p_of st_pI ?_))
  have h1 : FK T S0 (wI S s 6 0) := FK_t hb h hs (by decide) (by decide) (by decide)
  have h3 := fun (v : Int32) => FK_t hb h1 (k := 4) (j := 9) (v := v) hb.2.1.1 (by decide) (by decide) (by decide)
  exact p_of (st_gRe (v := some 5) (by rw [(h3 _).1]; exact hb.1.1 1 5 rfl)) (p_of st_gI (p_of st_gI (p_of st_rv (p_bd (FK_aw hb (h3 _)) (fun S8 h8 => p_ret h8)))))
theorem FK_eS_L (hb : BF T S0) {x : Option Nat} : ∀ (fu : Nat) (i : Int32) (S : AS), FK T S0 S → Hp (f_K_endSession_L7 fu S (some 4) x i) (fun q => FK T S0 q.2)
  | 0, _, _, _ => p_0
  | fu + 1, i, S, h => by
    unfold f_K_endSession_L7 f_K_endSession_C7 f_K_endSession_B55 f_K_endFamiliesOf
    have r := FK_r hb h (j := 8) (p := 19) rfl
    refine p_of (st_gRe r) (p_of st_rv (p_of st_size (p_if (fun _ => p_of st_rv (p_bx (FK_eFs_L hb _ _ S h) (fun v S' h' => p_ret h') (fun e S' h' => h'))) (fun _ => p_of (st_gRe r) (p_of st_rv (FK_get19 hb h (fun g hg => ?_)))))))
    refine p_of st_cc (p_of st_gR (p_of st_ac (p_of st_ac (p_if (fun _ => ?_) (fun _ => p_of st_val (FK_eS_L hb fu _ S h))))))
    refine p_of st_gI (p_if (fun _ => p_of st_val (FK_eS_L hb fu _ S h)) (fun _ => p_of st_rv (p_bd (FK_mark hb h hg) (fun S19 h19 => ?_))))
    exact p_of st_rv (p_bx (FK_eFs_L hb _ _ S19 h19) (fun v S' h' => p_of st_val (FK_eS_L hb fu _ S' h')) (fun e S' h' => h'))
theorem FK_eS (hb : BF T S0) (h : FK T S0 S) {s : Nat} (hs : T s = 43) : Hp (f_K_endSession S (some 4) (some s)) (fun q => FK T S0 q.2) := by
  unfold f_K_endSession
  exact p_of st_rv (p_bd (FK_mark hb h hs) (fun S24 h24 => FK_eS_L hb _ _ S24 h24))
theorem FK_eA_L (hb : BF T S0) {x : Option Nat} {n : Int32} : ∀ (fu : Nat) (i : Int32) (S : AS), FK T S0 S → Hp (f_K_endSessionsOf_L7 fu S (some 4) x n i) (fun q => FK T S0 q.2)
  | 0, _, _, _ => p_0
  | fu + 1, i, S, h => by
    unfold f_K_endSessionsOf_L7 f_K_endSessionsOf_C7 f_K_endSessionsOf_B54
    have r := FK_r hb h (j := 8) (p := 19) rfl
    refine p_of (st_gRe r) (p_of st_rv (p_of st_size (p_if (fun _ => p_of st_gI (p_ret h)) (fun _ => p_of (st_gRe r) (p_of st_rv (FK_get19 hb h (fun g hg => ?_)))))))
    exact p_of st_cc (p_of st_gR (p_of st_ac (p_of st_ac (p_if (fun _ => p_of st_gI (p_if (fun _ => p_of st_val (FK_eA_L hb fu _ S h)) (fun _ => p_of st_rv (p_bx (FK_eS hb h hg) (fun v S' h' => p_of st_val (FK_eA_L hb fu _ S' h')) (fun e S' h' => h'))))) (fun _ => p_of st_val (FK_eA_L hb fu _ S h))))))
theorem FK_old_L (hb : BF T S0) : ∀ (fu : Nat) (i : Int32) (S : AS), FK T S0 S → Hp (f_K_endOldSessions_L10 fu S (some 4) i) (fun q => FK T S0 q.2)
  | 0, _, _, _ => p_0
  | fu + 1, i, S, h => by
    unfold f_K_endOldSessions_L10 f_K_endOldSessions_C10 f_K_endOldSessions_B56
    have r := FK_r hb h (j := 8) (p := 19) rfl
    refine p_of (st_gRe r) (p_of st_rv (p_of st_size (p_if (fun _ => p_ret h) (fun _ => p_of (st_gRe r) (p_of st_rv (FK_get19 hb h (fun g hg => ?_)))))))
    refine p_of st_cc (p_of st_gI (p_if (fun _ => p_of st_val (FK_old_L hb fu _ S h)) (fun _ => p_of st_gI (p_of st_rv ?_))))
    refine p_b2 (P := fun q => q.2 = S) ?_ (fun v S' e => ?_)
    · unfold f_Session_isOldAt f_Session_isOldAt_B23
      exact p_of st_gI (p_if (fun _ => p_ret rfl) (fun _ => p_of st_gI (p_if (fun _ => p_ret rfl) (fun _ => p_ret rfl))))
    · have e : S' = S := e
      rw [e]
      exact p_if (fun _ => p_of st_val (FK_old_L hb fu _ S h)) (fun _ => p_of st_rv (p_bx (FK_eS hb h hg) (fun v S' h' => p_of st_val (FK_old_L hb fu _ S' h')) (fun e S' h' => h')))
theorem FK_old (hb : BF T S0) (h : FK T S0 S) : Hp (f_K_endOldSessions S (some 4)) (fun q => FK T S0 q.2) := by
  unfold f_K_endOldSessions
  exact p_of st_gI (p_if (fun _ => p_ret h) (fun _ => FK_old_L hb _ _ S h))
/-- codes that are no families stand as they stood -/
theorem Fre_of {Tm : Nat → Nat} {m m' S' : AS} (hT : TV T S0) (hm : TI Tm m) (h : FR S0 m) (k : FK T S0 S') (e1 : nC m' = nC m) (e2 : ∀ c, sI m' 98 c = sI m 98 c) : cFre S' m' := by
  have b := FR_BB hT hm h
  intro c hc h98
  rw [e1] at hc
  rw [e2] at h98
  have t := tyC b hc
  have el : lel S' 22 c = lel S0 22 c := by
    unfold lel
    rw [k.1]
  have no : ¬ IF S0 (lel S0 22 c) := fun ⟨i, i1, i2⟩ => by
    obtain ⟨z1, z2, z3⟩ := zF b
    rw [z3, z2, oi (by omega)] at i1
    have hf : i < nF m := by
      unfold nF
      omega
    obtain ⟨c', c1, c2, c3, c4, -⟩ := h.Fam.2 i hf
    have := (h.Cod.2 c hc).1 c' c1 (by rw [i2, c2])
    subst this
    rw [h98] at c4
    have : nF m ≤ 60 := z1
    exact ofNat_ne (by omega) c4
  rw [el, k.2.2.2 _ 6 t no, k.2.2.2 _ 7 t no, k.2.2.2 _ 10 t no, k.2.2.2 _ 11 t no]
  exact h.Fre c hc h98
end
