/-! ===== the wrapped calls: their answers (wip/gen/mktg.py) ===== -/
/-- what a wrapped call answers: the reference's value, or the number of an exception -/
def ANc (cs : List Int32) (c v t : Int32) : Prop := (c = v ∧ t = 0) ∨ ∃ i k, cs[i]? = some k ∧ c = k ∧ t = Int32.ofNat (i + 1)
theorem tg_k4 {T : Nat → Nat} {S : AS} (h : TI T S) : kr_rv S 22 (some 4) = some () := ti_rv ((Tx.K h h.t9.2.2.2.2.1 (by decide)).trans rfl)
def th_AS (E : String) (S : AS) : Option (Int32 × AS) := if E = "java/lang/IllegalArgumentException" then some ((-1002 : Int32), S) else if E = "java/lang/IllegalStateException" then some ((-1003 : Int32), S) else none
theorem th_AS_A (S : AS) : th_AS eA S = some ((-1002 : Int32), S) := by
  unfold th_AS eA
  rw [if_pos rfl]
theorem th_AS_S (S : AS) : th_AS eS S = some ((-1003 : Int32), S) := by
  unfold th_AS eS
  rw [if_neg (by decide), if_pos rfl]
def th_XS (E : String) (S : AS) : Option (Int32 × AS) := if E = "java/lang/IndexOutOfBoundsException" then some ((-1001 : Int32), S) else if E = "java/lang/IllegalStateException" then some ((-1003 : Int32), S) else none
theorem th_XS_X (S : AS) : th_XS eX S = some ((-1001 : Int32), S) := by
  unfold th_XS eX
  rw [if_pos rfl]
theorem th_XS_S (S : AS) : th_XS eS S = some ((-1003 : Int32), S) := by
  unfold th_XS eS
  rw [if_neg (by decide), if_pos rfl]
def th_XAS (E : String) (S : AS) : Option (Int32 × AS) := if E = "java/lang/IndexOutOfBoundsException" then some ((-1001 : Int32), S) else if E = "java/lang/IllegalArgumentException" then some ((-1002 : Int32), S) else if E = "java/lang/IllegalStateException" then some ((-1003 : Int32), S) else none
theorem th_XAS_X (S : AS) : th_XAS eX S = some ((-1001 : Int32), S) := by
  unfold th_XAS eX
  rw [if_pos rfl]
theorem th_XAS_A (S : AS) : th_XAS eA S = some ((-1002 : Int32), S) := by
  unfold th_XAS eA
  rw [if_neg (by decide), if_pos rfl]
theorem th_XAS_S (S : AS) : th_XAS eS S = some ((-1003 : Int32), S) := by
  unfold th_XAS eS
  rw [if_neg (by decide), if_neg (by decide), if_pos rfl]
def th_X (E : String) (S : AS) : Option (Int32 × AS) := if E = "java/lang/IndexOutOfBoundsException" then some ((-1001 : Int32), S) else none
theorem th_X_X (S : AS) : th_X eX S = some ((-1001 : Int32), S) := by
  unfold th_X eX
  rw [if_pos rfl]
theorem tg_pass {n : Nat} {T : Nat → Nat} {S : AS} {a0 : Int32} (hI : IV n T S) (hn : n ≤ 600) (hr : RPF T S) : ∃ c v S1 S2 T1, f_W_noneg S (some 4) (0 : Int32) a0 = some (c, S2) ∧ f_M_pass S1 (some 57) a0 = some (v, S2) ∧ PKg n T kw_K41 kw_M9 S S1 T1 S2 ∧ ANc [-1002, -1003] c v (sI S2 57 82) := by
  obtain ⟨r, S1, v, S2, T1, e1, e2, g, an⟩ := pk_pass (a0 := a0) hI hn hr
  have k4 := tg_k4 hI.1
  have eg : gm S1 S2 = S2 := g.2.2.1.symm
  have eM : gg_W_none S1 (0 : Int32) a0 = S2 := by
    unfold gg_W_none
    rw [if_pos rfl, e2]
    exact eg
  have eW : ∀ c, f_W_none S (some 4) (0 : Int32) a0 = some (c, S1) → f_W_noneg S (some 4) (0 : Int32) a0 = some (c, S2) := fun c h => by
    unfold f_W_noneg
    rw [h]
    exact congrArg (fun z => some (c, z)) eM
  have e0 : f_W_none S (some 4) (0 : Int32) a0 = kr_bh (f_K_pass S (some 4) a0) (fun E S2 => th_AS E S2) (fun v S2 => some (v, S2)) := by
    unfold f_W_none
    rw [if_pos rfl, k4]
    rfl
  rw [e1] at e0
  rcases an with ⟨w, rfl, t0, rfl⟩ | ⟨i, e, hi, rfl, ti⟩
  · exact ⟨_, _, S1, S2, T1, eW _ e0, e2, g, Or.inl ⟨rfl, t0⟩⟩
  · match i, hi, ti with
    | 0, hi, ti =>
      have hi : some eA = some e := hi
      cases hi
      exact ⟨_, _, S1, S2, T1, eW _ (e0.trans (th_AS_A S1)), e2, g, Or.inr ⟨0, _, rfl, rfl, ti⟩⟩
    | 1, hi, ti =>
      have hi : some eS = some e := hi
      cases hi
      exact ⟨_, _, S1, S2, T1, eW _ (e0.trans (th_AS_S S1)), e2, g, Or.inr ⟨1, _, rfl, rfl, ti⟩⟩
    | i + 2, hi, _ =>
      have hi : (none : Option String) = some e := hi
      cases hi
theorem tg_turn {n : Nat} {T : Nat → Nat} {S : AS} {a0 : Int32} (hI : IV n T S) (hn : n ≤ 600) (hr : RPF T S) : ∃ c v S1 S2 T1, f_W_noneg S (some 4) (1 : Int32) a0 = some (c, S2) ∧ f_M_turn S1 (some 57) = some (v, S2) ∧ PKg n T kw_K27 kw_M86 S S1 T1 S2 ∧ ANc [-1003] c v (sI S2 57 82) := by
  obtain ⟨r, S1, v, S2, T1, e1, e2, g, an⟩ := pk_turn hI hn hr
  have k4 := tg_k4 hI.1
  have eg : gm S1 S2 = S2 := g.2.2.1.symm
  have eM : gg_W_none S1 (1 : Int32) a0 = S2 := by
    unfold gg_W_none
    rw [if_neg (by decide), if_pos rfl, e2]
    exact eg
  have eW : ∀ c, f_W_none S (some 4) (1 : Int32) a0 = some (c, S1) → f_W_noneg S (some 4) (1 : Int32) a0 = some (c, S2) := fun c h => by
    unfold f_W_noneg
    rw [h]
    exact congrArg (fun z => some (c, z)) eM
  have e0 : f_W_none S (some 4) (1 : Int32) a0 = kr_bh (f_K_turn S (some 4)) (fun E S2 => th_AS E S2) (fun v S2 => some (v, S2)) := by
    unfold f_W_none
    rw [if_neg (by decide), if_pos rfl, k4]
    rfl
  rw [e1] at e0
  rcases an with ⟨w, rfl, t0, rfl⟩ | ⟨i, e, hi, rfl, ti⟩
  · exact ⟨_, _, S1, S2, T1, eW _ e0, e2, g, Or.inl ⟨rfl, t0⟩⟩
  · match i, hi, ti with
    | 0, hi, ti =>
      have hi : some eS = some e := hi
      cases hi
      exact ⟨_, _, S1, S2, T1, eW _ (e0.trans (th_AS_S S1)), e2, g, Or.inr ⟨0, _, rfl, rfl, ti⟩⟩
    | i + 1, hi, _ =>
      have hi : (none : Option String) = some e := hi
      cases hi
theorem tg_emergency {n : Nat} {T : Nat → Nat} {S : AS} {a0 : Int32} (hI : IV n T S) (hn : n ≤ 600) (hr : RPF T S) : ∃ c v S1 S2 T1, f_W_noneg S (some 4) (2 : Int32) a0 = some (c, S2) ∧ f_M_emergency S1 (some 57) = some (v, S2) ∧ PKg n T kw_K89 kw_M91 S S1 T1 S2 ∧ ANc [-1003] c v (sI S2 57 82) := by
  obtain ⟨r, S1, v, S2, T1, e1, e2, g, an⟩ := pk_emergency hI hn hr
  have k4 := tg_k4 hI.1
  have eg : gm S1 S2 = S2 := g.2.2.1.symm
  have eM : gg_W_none S1 (2 : Int32) a0 = S2 := by
    unfold gg_W_none
    rw [if_neg (by decide), if_neg (by decide), if_pos rfl, e2]
    exact eg
  have eW : ∀ c, f_W_none S (some 4) (2 : Int32) a0 = some (c, S1) → f_W_noneg S (some 4) (2 : Int32) a0 = some (c, S2) := fun c h => by
    unfold f_W_noneg
    rw [h]
    exact congrArg (fun z => some (c, z)) eM
  have e0 : f_W_none S (some 4) (2 : Int32) a0 = kr_bh (f_K_emergency S (some 4)) (fun E S2 => th_AS E S2) (fun v S2 => some (v, S2)) := by
    unfold f_W_none
    rw [if_neg (by decide), if_neg (by decide), if_pos rfl, k4]
    rfl
  rw [e1] at e0
  rcases an with ⟨w, rfl, t0, rfl⟩ | ⟨i, e, hi, rfl, ti⟩
  · exact ⟨_, _, S1, S2, T1, eW _ e0, e2, g, Or.inl ⟨rfl, t0⟩⟩
  · match i, hi, ti with
    | 0, hi, ti =>
      have hi : some eS = some e := hi
      cases hi
      exact ⟨_, _, S1, S2, T1, eW _ (e0.trans (th_AS_S S1)), e2, g, Or.inr ⟨0, _, rfl, rfl, ti⟩⟩
    | i + 1, hi, _ =>
      have hi : (none : Option String) = some e := hi
      cases hi
theorem tg_signing {n : Nat} {T : Nat → Nat} {S : AS} {a0 : Int32} (hI : IV n T S) (hn : n ≤ 600) (hr : RPF T S) : ∃ c v S1 S2 T1, f_W_noneg S (some 4) (3 : Int32) a0 = some (c, S2) ∧ f_M_signing S1 (some 57) = some (v, S2) ∧ PKg n T [] kw_M4 S S1 T1 S2 ∧ c = v := by
  obtain ⟨r, S1, v, S2, T1, e1, e2, g, an⟩ := pk_signing hI hn hr
  have k4 := tg_k4 hI.1
  have eg : gm S1 S2 = S2 := g.2.2.1.symm
  have eM : gg_W_none S1 (3 : Int32) a0 = S2 := by
    unfold gg_W_none
    rw [if_neg (by decide), if_neg (by decide), if_neg (by decide), if_pos rfl, e2]
    exact eg
  have eW : ∀ c, f_W_none S (some 4) (3 : Int32) a0 = some (c, S1) → f_W_noneg S (some 4) (3 : Int32) a0 = some (c, S2) := fun c h => by
    unfold f_W_noneg
    rw [h]
    exact congrArg (fun z => some (c, z)) eM
  have e0 : f_W_none S (some 4) (3 : Int32) a0 = some (r, S1) := by
    unfold f_W_none
    rw [if_neg (by decide), if_neg (by decide), if_neg (by decide), if_pos rfl, k4, Option.bind_some, e1]
    rfl
  exact ⟨r, v, S1, S2, T1, eW _ e0, e2, g, an⟩
theorem tg_audits {n : Nat} {T : Nat → Nat} {S : AS} {a0 : Int32} (hI : IV n T S) (hn : n ≤ 600) (hr : RPF T S) : ∃ c v S1 S2 T1, f_W_noneg S (some 4) (4 : Int32) a0 = some (c, S2) ∧ f_M_audits S1 (some 57) = some (v, S2) ∧ PKg n T [] kw_M4 S S1 T1 S2 ∧ c = v := by
  obtain ⟨r, S1, v, S2, T1, e1, e2, g, an⟩ := pk_audits hI hn hr
  have k4 := tg_k4 hI.1
  have eg : gm S1 S2 = S2 := g.2.2.1.symm
  have eM : gg_W_none S1 (4 : Int32) a0 = S2 := by
    unfold gg_W_none
    rw [if_neg (by decide), if_neg (by decide), if_neg (by decide), if_neg (by decide), if_pos rfl, e2]
    exact eg
  have eW : ∀ c, f_W_none S (some 4) (4 : Int32) a0 = some (c, S1) → f_W_noneg S (some 4) (4 : Int32) a0 = some (c, S2) := fun c h => by
    unfold f_W_noneg
    rw [h]
    exact congrArg (fun z => some (c, z)) eM
  have e0 : f_W_none S (some 4) (4 : Int32) a0 = some (r, S1) := by
    unfold f_W_none
    rw [if_neg (by decide), if_neg (by decide), if_neg (by decide), if_neg (by decide), if_pos rfl, k4, Option.bind_some, e1]
    rfl
  exact ⟨r, v, S1, S2, T1, eW _ e0, e2, g, an⟩
theorem tg_sessions {n : Nat} {T : Nat → Nat} {S : AS} {a0 : Int32} (hI : IV n T S) (hn : n ≤ 600) (hr : RPF T S) : ∃ c v S1 S2 T1, f_W_noneg S (some 4) (6 : Int32) a0 = some (c, S2) ∧ f_M_sessions S1 (some 57) = some (v, S2) ∧ PKg n T [] kw_M4 S S1 T1 S2 ∧ c = v := by
  obtain ⟨r, S1, v, S2, T1, e1, e2, g, an⟩ := pk_sessions hI hn hr
  have k4 := tg_k4 hI.1
  have eg : gm S1 S2 = S2 := g.2.2.1.symm
  have eM : gg_W_none S1 (6 : Int32) a0 = S2 := by
    unfold gg_W_none
    rw [if_neg (by decide), if_neg (by decide), if_neg (by decide), if_neg (by decide), if_neg (by decide), if_neg (by decide), if_pos rfl, e2]
    exact eg
  have eW : ∀ c, f_W_none S (some 4) (6 : Int32) a0 = some (c, S1) → f_W_noneg S (some 4) (6 : Int32) a0 = some (c, S2) := fun c h => by
    unfold f_W_noneg
    rw [h]
    exact congrArg (fun z => some (c, z)) eM
  have e0 : f_W_none S (some 4) (6 : Int32) a0 = some (r, S1) := by
    unfold f_W_none
    rw [if_neg (by decide), if_neg (by decide), if_neg (by decide), if_neg (by decide), if_neg (by decide), if_neg (by decide), if_pos rfl, k4, Option.bind_some, e1]
    rfl
  exact ⟨r, v, S1, S2, T1, eW _ e0, e2, g, an⟩
theorem tg_state {n : Nat} {T : Nat → Nat} {S : AS} {a0 : Int32} (hI : IV n T S) (hn : n ≤ 600) (hr : RPF T S) : ∃ c v S1 S2 T1, f_W_oneg S (some 4) (0 : Int32) a0 = some (c, S2) ∧ f_M_state S1 (some 57) a0 = some (v, S2) ∧ PKg n T [] kw_M4 S S1 T1 S2 ∧ ANc [-1001] c v (sI S2 57 82) := by
  obtain ⟨r, S1, v, S2, T1, e1, e2, g, an⟩ := pk_state (a0 := a0) hI hn hr
  have k4 := tg_k4 hI.1
  have eg : gm S1 S2 = S2 := g.2.2.1.symm
  have eM : gg_W_one S1 (0 : Int32) a0 = S2 := by
    unfold gg_W_one
    rw [if_pos rfl, e2]
    exact eg
  have eW : ∀ c, f_W_one S (some 4) (0 : Int32) a0 = some (c, S1) → f_W_oneg S (some 4) (0 : Int32) a0 = some (c, S2) := fun c h => by
    unfold f_W_oneg
    rw [h]
    exact congrArg (fun z => some (c, z)) eM
  have e0 : f_W_one S (some 4) (0 : Int32) a0 = kr_bh (f_K_state S (some 4) a0) (fun E S2 => th_XS E S2) (fun v S2 => some (v, S2)) := by
    unfold f_W_one
    rw [if_pos rfl, k4]
    rfl
  rw [e1] at e0
  rcases an with ⟨w, rfl, t0, rfl⟩ | ⟨i, e, hi, rfl, ti⟩
  · exact ⟨_, _, S1, S2, T1, eW _ e0, e2, g, Or.inl ⟨rfl, t0⟩⟩
  · match i, hi, ti with
    | 0, hi, ti =>
      have hi : some eX = some e := hi
      cases hi
      exact ⟨_, _, S1, S2, T1, eW _ (e0.trans (th_XS_X S1)), e2, g, Or.inr ⟨0, _, rfl, rfl, ti⟩⟩
    | i + 1, hi, _ =>
      have hi : (none : Option String) = some e := hi
      cases hi
theorem tg_asked {n : Nat} {T : Nat → Nat} {S : AS} {a0 : Int32} (hI : IV n T S) (hn : n ≤ 600) (hr : RPF T S) : ∃ c v S1 S2 T1, f_W_oneg S (some 4) (1 : Int32) a0 = some (c, S2) ∧ f_M_asked S1 (some 57) a0 = some (v, S2) ∧ PKg n T [] [10082] S S1 T1 S2 ∧ ANc [-1001] c v (sI S2 57 82) := by
  obtain ⟨r, S1, v, S2, T1, e1, e2, g, an⟩ := pk_asked (a0 := a0) hI hn hr
  have k4 := tg_k4 hI.1
  have eg : gm S1 S2 = S2 := g.2.2.1.symm
  have eM : gg_W_one S1 (1 : Int32) a0 = S2 := by
    unfold gg_W_one
    rw [if_neg (by decide), if_pos rfl, e2]
    exact eg
  have eW : ∀ c, f_W_one S (some 4) (1 : Int32) a0 = some (c, S1) → f_W_oneg S (some 4) (1 : Int32) a0 = some (c, S2) := fun c h => by
    unfold f_W_oneg
    rw [h]
    exact congrArg (fun z => some (c, z)) eM
  have e0 : f_W_one S (some 4) (1 : Int32) a0 = kr_bh (f_K_asked S (some 4) a0) (fun E S2 => th_XS E S2) (fun v S2 => some (v, S2)) := by
    unfold f_W_one
    rw [if_neg (by decide), if_pos rfl, k4]
    rfl
  rw [e1] at e0
  rcases an with ⟨w, rfl, t0, rfl⟩ | ⟨i, e, hi, rfl, ti⟩
  · exact ⟨_, _, S1, S2, T1, eW _ e0, e2, g, Or.inl ⟨rfl, t0⟩⟩
  · match i, hi, ti with
    | 0, hi, ti =>
      have hi : some eX = some e := hi
      cases hi
      exact ⟨_, _, S1, S2, T1, eW _ (e0.trans (th_XS_X S1)), e2, g, Or.inr ⟨0, _, rfl, rfl, ti⟩⟩
    | i + 1, hi, _ =>
      have hi : (none : Option String) = some e := hi
      cases hi
theorem tg_sessionOf {n : Nat} {T : Nat → Nat} {S : AS} {a0 : Int32} (hI : IV n T S) (hn : n ≤ 600) (hr : RPF T S) : ∃ c v S1 S2 T1, f_W_oneg S (some 4) (2 : Int32) a0 = some (c, S2) ∧ f_M_sessionOf S1 (some 57) a0 = some (v, S2) ∧ PKg n T [] kw_M4 S S1 T1 S2 ∧ ANc [-1001] c v (sI S2 57 82) := by
  obtain ⟨r, S1, v, S2, T1, e1, e2, g, an⟩ := pk_sessionOf (a0 := a0) hI hn hr
  have k4 := tg_k4 hI.1
  have eg : gm S1 S2 = S2 := g.2.2.1.symm
  have eM : gg_W_one S1 (2 : Int32) a0 = S2 := by
    unfold gg_W_one
    rw [if_neg (by decide), if_neg (by decide), if_pos rfl, e2]
    exact eg
  have eW : ∀ c, f_W_one S (some 4) (2 : Int32) a0 = some (c, S1) → f_W_oneg S (some 4) (2 : Int32) a0 = some (c, S2) := fun c h => by
    unfold f_W_oneg
    rw [h]
    exact congrArg (fun z => some (c, z)) eM
  have e0 : f_W_one S (some 4) (2 : Int32) a0 = kr_bh (f_K_sessionOf S (some 4) a0) (fun E S2 => th_XS E S2) (fun v S2 => some (v, S2)) := by
    unfold f_W_one
    rw [if_neg (by decide), if_neg (by decide), if_pos rfl, k4]
    rfl
  rw [e1] at e0
  rcases an with ⟨w, rfl, t0, rfl⟩ | ⟨i, e, hi, rfl, ti⟩
  · exact ⟨_, _, S1, S2, T1, eW _ e0, e2, g, Or.inl ⟨rfl, t0⟩⟩
  · match i, hi, ti with
    | 0, hi, ti =>
      have hi : some eX = some e := hi
      cases hi
      exact ⟨_, _, S1, S2, T1, eW _ (e0.trans (th_XS_X S1)), e2, g, Or.inr ⟨0, _, rfl, rfl, ti⟩⟩
    | i + 1, hi, _ =>
      have hi : (none : Option String) = some e := hi
      cases hi
theorem tg_risk {n : Nat} {T : Nat → Nat} {S : AS} {a0 : Int32} (hI : IV n T S) (hn : n ≤ 600) (hr : RPF T S) : ∃ c v S1 S2 T1, f_W_oneg S (some 4) (3 : Int32) a0 = some (c, S2) ∧ f_M_risk S1 (some 57) a0 = some (v, S2) ∧ PKg n T [] kw_M4 S S1 T1 S2 ∧ ANc [-1001] c v (sI S2 57 82) := by
  obtain ⟨r, S1, v, S2, T1, e1, e2, g, an⟩ := pk_risk (a0 := a0) hI hn hr
  have k4 := tg_k4 hI.1
  have eg : gm S1 S2 = S2 := g.2.2.1.symm
  have eM : gg_W_one S1 (3 : Int32) a0 = S2 := by
    unfold gg_W_one
    rw [if_neg (by decide), if_neg (by decide), if_neg (by decide), if_pos rfl, e2]
    exact eg
  have eW : ∀ c, f_W_one S (some 4) (3 : Int32) a0 = some (c, S1) → f_W_oneg S (some 4) (3 : Int32) a0 = some (c, S2) := fun c h => by
    unfold f_W_oneg
    rw [h]
    exact congrArg (fun z => some (c, z)) eM
  have e0 : f_W_one S (some 4) (3 : Int32) a0 = kr_bh (f_K_risk S (some 4) a0) (fun E S2 => th_XS E S2) (fun v S2 => some (v, S2)) := by
    unfold f_W_one
    rw [if_neg (by decide), if_neg (by decide), if_neg (by decide), if_pos rfl, k4]
    rfl
  rw [e1] at e0
  rcases an with ⟨w, rfl, t0, rfl⟩ | ⟨i, e, hi, rfl, ti⟩
  · exact ⟨_, _, S1, S2, T1, eW _ e0, e2, g, Or.inl ⟨rfl, t0⟩⟩
  · match i, hi, ti with
    | 0, hi, ti =>
      have hi : some eX = some e := hi
      cases hi
      exact ⟨_, _, S1, S2, T1, eW _ (e0.trans (th_XS_X S1)), e2, g, Or.inr ⟨0, _, rfl, rfl, ti⟩⟩
    | i + 1, hi, _ =>
      have hi : (none : Option String) = some e := hi
      cases hi
theorem tg_trialRisk {n : Nat} {T : Nat → Nat} {S : AS} {a0 : Int32} (hI : IV n T S) (hn : n ≤ 600) (hr : RPF T S) : ∃ c v S1 S2 T1, f_W_oneg S (some 4) (4 : Int32) a0 = some (c, S2) ∧ f_M_trialRisk S1 (some 57) a0 = some (v, S2) ∧ PKg n T [] kw_M4 S S1 T1 S2 ∧ ANc [-1001] c v (sI S2 57 82) := by
  obtain ⟨r, S1, v, S2, T1, e1, e2, g, an⟩ := pk_trialRisk (a0 := a0) hI hn hr
  have k4 := tg_k4 hI.1
  have eg : gm S1 S2 = S2 := g.2.2.1.symm
  have eM : gg_W_one S1 (4 : Int32) a0 = S2 := by
    unfold gg_W_one
    rw [if_neg (by decide), if_neg (by decide), if_neg (by decide), if_neg (by decide), if_pos rfl, e2]
    exact eg
  have eW : ∀ c, f_W_one S (some 4) (4 : Int32) a0 = some (c, S1) → f_W_oneg S (some 4) (4 : Int32) a0 = some (c, S2) := fun c h => by
    unfold f_W_oneg
    rw [h]
    exact congrArg (fun z => some (c, z)) eM
  have e0 : f_W_one S (some 4) (4 : Int32) a0 = kr_bh (f_K_trialRisk S (some 4) a0) (fun E S2 => th_XS E S2) (fun v S2 => some (v, S2)) := by
    unfold f_W_one
    rw [if_neg (by decide), if_neg (by decide), if_neg (by decide), if_neg (by decide), if_pos rfl, k4]
    rfl
  rw [e1] at e0
  rcases an with ⟨w, rfl, t0, rfl⟩ | ⟨i, e, hi, rfl, ti⟩
  · exact ⟨_, _, S1, S2, T1, eW _ e0, e2, g, Or.inl ⟨rfl, t0⟩⟩
  · match i, hi, ti with
    | 0, hi, ti =>
      have hi : some eX = some e := hi
      cases hi
      exact ⟨_, _, S1, S2, T1, eW _ (e0.trans (th_XS_X S1)), e2, g, Or.inr ⟨0, _, rfl, rfl, ti⟩⟩
    | i + 1, hi, _ =>
      have hi : (none : Option String) = some e := hi
      cases hi
theorem tg_level {n : Nat} {T : Nat → Nat} {S : AS} {a0 : Int32} (hI : IV n T S) (hn : n ≤ 600) (hr : RPF T S) : ∃ c v S1 S2 T1, f_W_oneg S (some 4) (5 : Int32) a0 = some (c, S2) ∧ f_M_level S1 (some 57) a0 = some (v, S2) ∧ PKg n T [] kw_M4 S S1 T1 S2 ∧ ANc [-1001] c v (sI S2 57 82) := by
  obtain ⟨r, S1, v, S2, T1, e1, e2, g, an⟩ := pk_level (a0 := a0) hI hn hr
  have k4 := tg_k4 hI.1
  have eg : gm S1 S2 = S2 := g.2.2.1.symm
  have eM : gg_W_one S1 (5 : Int32) a0 = S2 := by
    unfold gg_W_one
    rw [if_neg (by decide), if_neg (by decide), if_neg (by decide), if_neg (by decide), if_neg (by decide), if_pos rfl, e2]
    exact eg
  have eW : ∀ c, f_W_one S (some 4) (5 : Int32) a0 = some (c, S1) → f_W_oneg S (some 4) (5 : Int32) a0 = some (c, S2) := fun c h => by
    unfold f_W_oneg
    rw [h]
    exact congrArg (fun z => some (c, z)) eM
  have e0 : f_W_one S (some 4) (5 : Int32) a0 = kr_bh (f_K_level S (some 4) a0) (fun E S2 => th_XS E S2) (fun v S2 => some (v, S2)) := by
    unfold f_W_one
    rw [if_neg (by decide), if_neg (by decide), if_neg (by decide), if_neg (by decide), if_neg (by decide), if_pos rfl, k4]
    rfl
  rw [e1] at e0
  rcases an with ⟨w, rfl, t0, rfl⟩ | ⟨i, e, hi, rfl, ti⟩
  · exact ⟨_, _, S1, S2, T1, eW _ e0, e2, g, Or.inl ⟨rfl, t0⟩⟩
  · match i, hi, ti with
    | 0, hi, ti =>
      have hi : some eX = some e := hi
      cases hi
      exact ⟨_, _, S1, S2, T1, eW _ (e0.trans (th_XS_X S1)), e2, g, Or.inr ⟨0, _, rfl, rfl, ti⟩⟩
    | i + 1, hi, _ =>
      have hi : (none : Option String) = some e := hi
      cases hi
theorem tg_signOut {n : Nat} {T : Nat → Nat} {S : AS} {a0 : Int32} (hI : IV n T S) (hn : n ≤ 600) (hr : RPF T S) : ∃ c v S1 S2 T1, f_W_oneg S (some 4) (6 : Int32) a0 = some (c, S2) ∧ f_M_signOut S1 (some 57) a0 = some (v, S2) ∧ PKg n T kw_K38 kw_M48 S S1 T1 S2 ∧ ANc [-1001, -1003] c v (sI S2 57 82) := by
  obtain ⟨r, S1, v, S2, T1, e1, e2, g, an⟩ := pk_signOut (a0 := a0) hI hn hr
  have k4 := tg_k4 hI.1
  have eg : gm S1 S2 = S2 := g.2.2.1.symm
  have eM : gg_W_one S1 (6 : Int32) a0 = S2 := by
    unfold gg_W_one
    rw [if_neg (by decide), if_neg (by decide), if_neg (by decide), if_neg (by decide), if_neg (by decide), if_neg (by decide), if_pos rfl, e2]
    exact eg
  have eW : ∀ c, f_W_one S (some 4) (6 : Int32) a0 = some (c, S1) → f_W_oneg S (some 4) (6 : Int32) a0 = some (c, S2) := fun c h => by
    unfold f_W_oneg
    rw [h]
    exact congrArg (fun z => some (c, z)) eM
  have e0 : f_W_one S (some 4) (6 : Int32) a0 = kr_bh (f_K_signOut S (some 4) a0) (fun E S2 => th_XS E S2) (fun v S2 => some (v, S2)) := by
    unfold f_W_one
    rw [if_neg (by decide), if_neg (by decide), if_neg (by decide), if_neg (by decide), if_neg (by decide), if_neg (by decide), if_pos rfl, k4]
    rfl
  rw [e1] at e0
  rcases an with ⟨w, rfl, t0, rfl⟩ | ⟨i, e, hi, rfl, ti⟩
  · exact ⟨_, _, S1, S2, T1, eW _ e0, e2, g, Or.inl ⟨rfl, t0⟩⟩
  · match i, hi, ti with
    | 0, hi, ti =>
      have hi : some eX = some e := hi
      cases hi
      exact ⟨_, _, S1, S2, T1, eW _ (e0.trans (th_XS_X S1)), e2, g, Or.inr ⟨0, _, rfl, rfl, ti⟩⟩
    | 1, hi, ti =>
      have hi : some eS = some e := hi
      cases hi
      exact ⟨_, _, S1, S2, T1, eW _ (e0.trans (th_XS_S S1)), e2, g, Or.inr ⟨1, _, rfl, rfl, ti⟩⟩
    | i + 2, hi, _ =>
      have hi : (none : Option String) = some e := hi
      cases hi
theorem tg_redeem {n : Nat} {T : Nat → Nat} {S : AS} {a0 : Int32} (hI : IV n T S) (hn : n ≤ 600) (hr : RPF T S) : ∃ c v S1 S2 T1, f_W_oneg S (some 4) (7 : Int32) a0 = some (c, S2) ∧ f_M_redeem S1 (some 57) a0 = some (v, S2) ∧ PKg n T kw_K83 kw_M77 S S1 T1 S2 ∧ ANc [-1001, -1003] c v (sI S2 57 82) := by
  obtain ⟨r, S1, v, S2, T1, e1, e2, g, an⟩ := pk_redeem (a0 := a0) hI hn hr
  have k4 := tg_k4 hI.1
  have eg : gm S1 S2 = S2 := g.2.2.1.symm
  have eM : gg_W_one S1 (7 : Int32) a0 = S2 := by
    unfold gg_W_one
    rw [if_neg (by decide), if_neg (by decide), if_neg (by decide), if_neg (by decide), if_neg (by decide), if_neg (by decide), if_neg (by decide), if_pos rfl, e2]
    exact eg
  have eW : ∀ c, f_W_one S (some 4) (7 : Int32) a0 = some (c, S1) → f_W_oneg S (some 4) (7 : Int32) a0 = some (c, S2) := fun c h => by
    unfold f_W_oneg
    rw [h]
    exact congrArg (fun z => some (c, z)) eM
  have e0 : f_W_one S (some 4) (7 : Int32) a0 = kr_bh (f_K_redeem S (some 4) a0) (fun E S2 => th_XS E S2) (fun v S2 => some (v, S2)) := by
    unfold f_W_one
    rw [if_neg (by decide), if_neg (by decide), if_neg (by decide), if_neg (by decide), if_neg (by decide), if_neg (by decide), if_neg (by decide), if_pos rfl, k4]
    rfl
  rw [e1] at e0
  rcases an with ⟨w, rfl, t0, rfl⟩ | ⟨i, e, hi, rfl, ti⟩
  · exact ⟨_, _, S1, S2, T1, eW _ e0, e2, g, Or.inl ⟨rfl, t0⟩⟩
  · match i, hi, ti with
    | 0, hi, ti =>
      have hi : some eX = some e := hi
      cases hi
      exact ⟨_, _, S1, S2, T1, eW _ (e0.trans (th_XS_X S1)), e2, g, Or.inr ⟨0, _, rfl, rfl, ti⟩⟩
    | 1, hi, ti =>
      have hi : some eS = some e := hi
      cases hi
      exact ⟨_, _, S1, S2, T1, eW _ (e0.trans (th_XS_S S1)), e2, g, Or.inr ⟨1, _, rfl, rfl, ti⟩⟩
    | i + 2, hi, _ =>
      have hi : (none : Option String) = some e := hi
      cases hi
theorem tg_tokenOf {n : Nat} {T : Nat → Nat} {S : AS} {a0 : Int32} (hI : IV n T S) (hn : n ≤ 600) (hr : RPF T S) : ∃ c v S1 S2 T1, f_W_oneg S (some 4) (8 : Int32) a0 = some (c, S2) ∧ f_M_tokenOf S1 (some 57) a0 = some (v, S2) ∧ PKg n T [] kw_M4 S S1 T1 S2 ∧ ANc [-1001] c v (sI S2 57 82) := by
  obtain ⟨r, S1, v, S2, T1, e1, e2, g, an⟩ := pk_tokenOf (a0 := a0) hI hn hr
  have k4 := tg_k4 hI.1
  have eg : gm S1 S2 = S2 := g.2.2.1.symm
  have eM : gg_W_one S1 (8 : Int32) a0 = S2 := by
    unfold gg_W_one
    rw [if_neg (by decide), if_neg (by decide), if_neg (by decide), if_neg (by decide), if_neg (by decide), if_neg (by decide), if_neg (by decide), if_neg (by decide), if_pos rfl, e2]
    exact eg
  have eW : ∀ c, f_W_one S (some 4) (8 : Int32) a0 = some (c, S1) → f_W_oneg S (some 4) (8 : Int32) a0 = some (c, S2) := fun c h => by
    unfold f_W_oneg
    rw [h]
    exact congrArg (fun z => some (c, z)) eM
  have e0 : f_W_one S (some 4) (8 : Int32) a0 = kr_bh (f_K_tokenOf S (some 4) a0) (fun E S2 => th_XS E S2) (fun v S2 => some (v, S2)) := by
    unfold f_W_one
    rw [if_neg (by decide), if_neg (by decide), if_neg (by decide), if_neg (by decide), if_neg (by decide), if_neg (by decide), if_neg (by decide), if_neg (by decide), if_pos rfl, k4]
    rfl
  rw [e1] at e0
  rcases an with ⟨w, rfl, t0, rfl⟩ | ⟨i, e, hi, rfl, ti⟩
  · exact ⟨_, _, S1, S2, T1, eW _ e0, e2, g, Or.inl ⟨rfl, t0⟩⟩
  · match i, hi, ti with
    | 0, hi, ti =>
      have hi : some eX = some e := hi
      cases hi
      exact ⟨_, _, S1, S2, T1, eW _ (e0.trans (th_XS_X S1)), e2, g, Or.inr ⟨0, _, rfl, rfl, ti⟩⟩
    | i + 1, hi, _ =>
      have hi : (none : Option String) = some e := hi
      cases hi
theorem tg_token {n : Nat} {T : Nat → Nat} {S : AS} {a0 : Int32} (hI : IV n T S) (hn : n ≤ 600) (hr : RPF T S) : ∃ c v S1 S2 T1, f_W_oneg S (some 4) (9 : Int32) a0 = some (c, S2) ∧ f_M_token S1 (some 57) a0 = some (v, S2) ∧ PKg n T [] kw_M4 S S1 T1 S2 ∧ ANc [-1001] c v (sI S2 57 82) := by
  obtain ⟨r, S1, v, S2, T1, e1, e2, g, an⟩ := pk_token (a0 := a0) hI hn hr
  have k4 := tg_k4 hI.1
  have eg : gm S1 S2 = S2 := g.2.2.1.symm
  have eM : gg_W_one S1 (9 : Int32) a0 = S2 := by
    unfold gg_W_one
    rw [if_neg (by decide), if_neg (by decide), if_neg (by decide), if_neg (by decide), if_neg (by decide), if_neg (by decide), if_neg (by decide), if_neg (by decide), if_neg (by decide), if_pos rfl, e2]
    exact eg
  have eW : ∀ c, f_W_one S (some 4) (9 : Int32) a0 = some (c, S1) → f_W_oneg S (some 4) (9 : Int32) a0 = some (c, S2) := fun c h => by
    unfold f_W_oneg
    rw [h]
    exact congrArg (fun z => some (c, z)) eM
  have e0 : f_W_one S (some 4) (9 : Int32) a0 = kr_bh (f_K_token S (some 4) a0) (fun E S2 => th_XS E S2) (fun v S2 => some (v, S2)) := by
    unfold f_W_one
    rw [if_neg (by decide), if_neg (by decide), if_neg (by decide), if_neg (by decide), if_neg (by decide), if_neg (by decide), if_neg (by decide), if_neg (by decide), if_neg (by decide), if_pos rfl, k4]
    rfl
  rw [e1] at e0
  rcases an with ⟨w, rfl, t0, rfl⟩ | ⟨i, e, hi, rfl, ti⟩
  · exact ⟨_, _, S1, S2, T1, eW _ e0, e2, g, Or.inl ⟨rfl, t0⟩⟩
  · match i, hi, ti with
    | 0, hi, ti =>
      have hi : some eX = some e := hi
      cases hi
      exact ⟨_, _, S1, S2, T1, eW _ (e0.trans (th_XS_X S1)), e2, g, Or.inr ⟨0, _, rfl, rfl, ti⟩⟩
    | i + 1, hi, _ =>
      have hi : (none : Option String) = some e := hi
      cases hi
theorem tg_line {n : Nat} {T : Nat → Nat} {S : AS} {a0 : Int32} (hI : IV n T S) (hn : n ≤ 600) (hr : RPF T S) : ∃ c v S1 S2 T1, f_W_oneg S (some 4) (10 : Int32) a0 = some (c, S2) ∧ f_M_line S1 (some 57) a0 = some (v, S2) ∧ PKg n T kw_K91 kw_M93 S S1 T1 S2 ∧ ANc [-1001] c v (sI S2 57 82) := by
  obtain ⟨r, S1, v, S2, T1, e1, e2, g, an⟩ := pk_line (a0 := a0) hI hn hr
  have k4 := tg_k4 hI.1
  have eg : gm S1 S2 = S2 := g.2.2.1.symm
  have eM : gg_W_one S1 (10 : Int32) a0 = S2 := by
    unfold gg_W_one
    rw [if_neg (by decide), if_neg (by decide), if_neg (by decide), if_neg (by decide), if_neg (by decide), if_neg (by decide), if_neg (by decide), if_neg (by decide), if_neg (by decide), if_neg (by decide), if_pos rfl, e2]
    exact eg
  have eW : ∀ c, f_W_one S (some 4) (10 : Int32) a0 = some (c, S1) → f_W_oneg S (some 4) (10 : Int32) a0 = some (c, S2) := fun c h => by
    unfold f_W_oneg
    rw [h]
    exact congrArg (fun z => some (c, z)) eM
  have e0 : f_W_one S (some 4) (10 : Int32) a0 = kr_bh (f_K_line S (some 4) a0) (fun E S2 => th_XS E S2) (fun v S2 => some (v, S2)) := by
    unfold f_W_one
    rw [if_neg (by decide), if_neg (by decide), if_neg (by decide), if_neg (by decide), if_neg (by decide), if_neg (by decide), if_neg (by decide), if_neg (by decide), if_neg (by decide), if_neg (by decide), if_pos rfl, k4]
    rfl
  rw [e1] at e0
  rcases an with ⟨w, rfl, t0, rfl⟩ | ⟨i, e, hi, rfl, ti⟩
  · exact ⟨_, _, S1, S2, T1, eW _ e0, e2, g, Or.inl ⟨rfl, t0⟩⟩
  · match i, hi, ti with
    | 0, hi, ti =>
      have hi : some eX = some e := hi
      cases hi
      exact ⟨_, _, S1, S2, T1, eW _ (e0.trans (th_XS_X S1)), e2, g, Or.inr ⟨0, _, rfl, rfl, ti⟩⟩
    | i + 1, hi, _ =>
      have hi : (none : Option String) = some e := hi
      cases hi
theorem tg_lag {n : Nat} {T : Nat → Nat} {S : AS} {a0 : Int32} (hI : IV n T S) (hn : n ≤ 600) (hr : RPF T S) : ∃ c v S1 S2 T1, f_W_oneg S (some 4) (11 : Int32) a0 = some (c, S2) ∧ f_M_lag S1 (some 57) a0 = some (v, S2) ∧ PKg n T [] kw_M4 S S1 T1 S2 ∧ ANc [-1001] c v (sI S2 57 82) := by
  obtain ⟨r, S1, v, S2, T1, e1, e2, g, an⟩ := pk_lag (a0 := a0) hI hn hr
  have k4 := tg_k4 hI.1
  have eg : gm S1 S2 = S2 := g.2.2.1.symm
  have eM : gg_W_one S1 (11 : Int32) a0 = S2 := by
    unfold gg_W_one
    rw [if_neg (by decide), if_neg (by decide), if_neg (by decide), if_neg (by decide), if_neg (by decide), if_neg (by decide), if_neg (by decide), if_neg (by decide), if_neg (by decide), if_neg (by decide), if_neg (by decide), if_pos rfl, e2]
    exact eg
  have eW : ∀ c, f_W_one S (some 4) (11 : Int32) a0 = some (c, S1) → f_W_oneg S (some 4) (11 : Int32) a0 = some (c, S2) := fun c h => by
    unfold f_W_oneg
    rw [h]
    exact congrArg (fun z => some (c, z)) eM
  have e0 : f_W_one S (some 4) (11 : Int32) a0 = kr_bh (f_K_lag S (some 4) a0) (fun E S2 => th_XS E S2) (fun v S2 => some (v, S2)) := by
    unfold f_W_one
    rw [if_neg (by decide), if_neg (by decide), if_neg (by decide), if_neg (by decide), if_neg (by decide), if_neg (by decide), if_neg (by decide), if_neg (by decide), if_neg (by decide), if_neg (by decide), if_neg (by decide), if_pos rfl, k4]
    rfl
  rw [e1] at e0
  rcases an with ⟨w, rfl, t0, rfl⟩ | ⟨i, e, hi, rfl, ti⟩
  · exact ⟨_, _, S1, S2, T1, eW _ e0, e2, g, Or.inl ⟨rfl, t0⟩⟩
  · match i, hi, ti with
    | 0, hi, ti =>
      have hi : some eX = some e := hi
      cases hi
      exact ⟨_, _, S1, S2, T1, eW _ (e0.trans (th_XS_X S1)), e2, g, Or.inr ⟨0, _, rfl, rfl, ti⟩⟩
    | i + 1, hi, _ =>
      have hi : (none : Option String) = some e := hi
      cases hi
theorem tg_recover {n : Nat} {T : Nat → Nat} {S : AS} {a0 : Int32} (hI : IV n T S) (hn : n ≤ 600) (hr : RPF T S) : ∃ c v S1 S2 T1, f_W_oneg S (some 4) (12 : Int32) a0 = some (c, S2) ∧ f_M_recover S1 (some 57) a0 = some (v, S2) ∧ PKg n T kw_K94 kw_M99 S S1 T1 S2 ∧ ANc [-1001, -1003] c v (sI S2 57 82) := by
  obtain ⟨r, S1, v, S2, T1, e1, e2, g, an⟩ := pk_recover (a0 := a0) hI hn hr
  have k4 := tg_k4 hI.1
  have eg : gm S1 S2 = S2 := g.2.2.1.symm
  have eM : gg_W_one S1 (12 : Int32) a0 = S2 := by
    unfold gg_W_one
    rw [if_neg (by decide), if_neg (by decide), if_neg (by decide), if_neg (by decide), if_neg (by decide), if_neg (by decide), if_neg (by decide), if_neg (by decide), if_neg (by decide), if_neg (by decide), if_neg (by decide), if_neg (by decide), if_pos rfl, e2]
    exact eg
  have eW : ∀ c, f_W_one S (some 4) (12 : Int32) a0 = some (c, S1) → f_W_oneg S (some 4) (12 : Int32) a0 = some (c, S2) := fun c h => by
    unfold f_W_oneg
    rw [h]
    exact congrArg (fun z => some (c, z)) eM
  have e0 : f_W_one S (some 4) (12 : Int32) a0 = kr_bh (f_K_recover S (some 4) a0) (fun E S2 => th_XS E S2) (fun v S2 => some (v, S2)) := by
    unfold f_W_one
    rw [if_neg (by decide), if_neg (by decide), if_neg (by decide), if_neg (by decide), if_neg (by decide), if_neg (by decide), if_neg (by decide), if_neg (by decide), if_neg (by decide), if_neg (by decide), if_neg (by decide), if_neg (by decide), if_pos rfl, k4]
    rfl
  rw [e1] at e0
  rcases an with ⟨w, rfl, t0, rfl⟩ | ⟨i, e, hi, rfl, ti⟩
  · exact ⟨_, _, S1, S2, T1, eW _ e0, e2, g, Or.inl ⟨rfl, t0⟩⟩
  · match i, hi, ti with
    | 0, hi, ti =>
      have hi : some eX = some e := hi
      cases hi
      exact ⟨_, _, S1, S2, T1, eW _ (e0.trans (th_XS_X S1)), e2, g, Or.inr ⟨0, _, rfl, rfl, ti⟩⟩
    | 1, hi, ti =>
      have hi : some eS = some e := hi
      cases hi
      exact ⟨_, _, S1, S2, T1, eW _ (e0.trans (th_XS_S S1)), e2, g, Or.inr ⟨1, _, rfl, rfl, ti⟩⟩
    | i + 2, hi, _ =>
      have hi : (none : Option String) = some e := hi
      cases hi
theorem tg_foreign {n : Nat} {T : Nat → Nat} {S : AS} {a0 : Int32} (hI : IV n T S) (hn : n ≤ 600) (hr : RPF T S) : ∃ c v S1 S2 T1, f_W_oneg S (some 4) (14 : Int32) a0 = some (c, S2) ∧ f_M_foreign S1 (some 57) a0 = some (v, S2) ∧ PKg n T kw_K50 kw_M50 S S1 T1 S2 ∧ ANc [-1001, -1003] c v (sI S2 57 82) := by
  obtain ⟨r, S1, v, S2, T1, e1, e2, g, an⟩ := pk_foreign (a0 := a0) hI hn hr
  have k4 := tg_k4 hI.1
  have eg : gm S1 S2 = S2 := g.2.2.1.symm
  have eM : gg_W_one S1 (14 : Int32) a0 = S2 := by
    unfold gg_W_one
    rw [if_neg (by decide), if_neg (by decide), if_neg (by decide), if_neg (by decide), if_neg (by decide), if_neg (by decide), if_neg (by decide), if_neg (by decide), if_neg (by decide), if_neg (by decide), if_neg (by decide), if_neg (by decide), if_neg (by decide), if_neg (by decide), if_pos rfl, e2]
    exact eg
  have eW : ∀ c, f_W_one S (some 4) (14 : Int32) a0 = some (c, S1) → f_W_oneg S (some 4) (14 : Int32) a0 = some (c, S2) := fun c h => by
    unfold f_W_oneg
    rw [h]
    exact congrArg (fun z => some (c, z)) eM
  have e0 : f_W_one S (some 4) (14 : Int32) a0 = kr_bh (f_K_foreign S (some 4) a0) (fun E S2 => th_XS E S2) (fun v S2 => some (v, S2)) := by
    unfold f_W_one
    rw [if_neg (by decide), if_neg (by decide), if_neg (by decide), if_neg (by decide), if_neg (by decide), if_neg (by decide), if_neg (by decide), if_neg (by decide), if_neg (by decide), if_neg (by decide), if_neg (by decide), if_neg (by decide), if_neg (by decide), if_neg (by decide), if_pos rfl, k4]
    rfl
  rw [e1] at e0
  rcases an with ⟨w, rfl, t0, rfl⟩ | ⟨i, e, hi, rfl, ti⟩
  · exact ⟨_, _, S1, S2, T1, eW _ e0, e2, g, Or.inl ⟨rfl, t0⟩⟩
  · match i, hi, ti with
    | 0, hi, ti =>
      have hi : some eX = some e := hi
      cases hi
      exact ⟨_, _, S1, S2, T1, eW _ (e0.trans (th_XS_X S1)), e2, g, Or.inr ⟨0, _, rfl, rfl, ti⟩⟩
    | 1, hi, ti =>
      have hi : some eS = some e := hi
      cases hi
      exact ⟨_, _, S1, S2, T1, eW _ (e0.trans (th_XS_S S1)), e2, g, Or.inr ⟨1, _, rfl, rfl, ti⟩⟩
    | i + 2, hi, _ =>
      have hi : (none : Option String) = some e := hi
      cases hi
theorem tg_weakest {n : Nat} {T : Nat → Nat} {S : AS} {a0 : Int32} (hI : IV n T S) (hn : n ≤ 600) (hr : RPF T S) : ∃ c v S1 S2 T1, f_W_oneg S (some 4) (18 : Int32) a0 = some (c, S2) ∧ f_M_weakest S1 (some 57) a0 = some (v, S2) ∧ PKg n T kw_K14 kw_M22 S S1 T1 S2 ∧ ANc [-1001] c v (sI S2 57 82) := by
  obtain ⟨r, S1, v, S2, T1, e1, e2, g, an⟩ := pk_weakest (a0 := a0) hI hn hr
  have k4 := tg_k4 hI.1
  have eg : gm S1 S2 = S2 := g.2.2.1.symm
  have eM : gg_W_one S1 (18 : Int32) a0 = S2 := by
    unfold gg_W_one
    rw [if_neg (by decide), if_neg (by decide), if_neg (by decide), if_neg (by decide), if_neg (by decide), if_neg (by decide), if_neg (by decide), if_neg (by decide), if_neg (by decide), if_neg (by decide), if_neg (by decide), if_neg (by decide), if_neg (by decide), if_neg (by decide), if_neg (by decide), if_neg (by decide), if_neg (by decide), if_neg (by decide), e2]
    exact eg
  have eW : ∀ c, f_W_one S (some 4) (18 : Int32) a0 = some (c, S1) → f_W_oneg S (some 4) (18 : Int32) a0 = some (c, S2) := fun c h => by
    unfold f_W_oneg
    rw [h]
    exact congrArg (fun z => some (c, z)) eM
  have e0 : f_W_one S (some 4) (18 : Int32) a0 = kr_bh (f_K_weakest S (some 4) a0) (fun E S2 => th_XS E S2) (fun v S2 => some (v, S2)) := by
    unfold f_W_one
    rw [if_neg (by decide), if_neg (by decide), if_neg (by decide), if_neg (by decide), if_neg (by decide), if_neg (by decide), if_neg (by decide), if_neg (by decide), if_neg (by decide), if_neg (by decide), if_neg (by decide), if_neg (by decide), if_neg (by decide), if_neg (by decide), if_neg (by decide), if_neg (by decide), if_neg (by decide), if_neg (by decide), k4]
    rfl
  rw [e1] at e0
  rcases an with ⟨w, rfl, t0, rfl⟩ | ⟨i, e, hi, rfl, ti⟩
  · exact ⟨_, _, S1, S2, T1, eW _ e0, e2, g, Or.inl ⟨rfl, t0⟩⟩
  · match i, hi, ti with
    | 0, hi, ti =>
      have hi : some eX = some e := hi
      cases hi
      exact ⟨_, _, S1, S2, T1, eW _ (e0.trans (th_XS_X S1)), e2, g, Or.inr ⟨0, _, rfl, rfl, ti⟩⟩
    | i + 1, hi, _ =>
      have hi : (none : Option String) = some e := hi
      cases hi
theorem tg_enroll {n : Nat} {T : Nat → Nat} {S : AS} {a0 a1 : Int32} (hI : IV n T S) (hn : n ≤ 600) (hr : RPF T S) : ∃ c v S1 S2 T1, f_W_twog S (some 4) (0 : Int32) a0 a1 = some (c, S2) ∧ f_M_enroll S1 (some 57) a0 a1 = some (v, S2) ∧ PKg n T kw_K11 kw_M13 S S1 T1 S2 ∧ ANc [-1001, -1002] c v (sI S2 57 82) := by
  obtain ⟨r, S1, v, S2, T1, e1, e2, g, an⟩ := pk_enroll (a0 := a0) (a1 := a1) hI hn hr
  have k4 := tg_k4 hI.1
  have eg : gm S1 S2 = S2 := g.2.2.1.symm
  have eM : gg_W_two S1 (0 : Int32) a0 a1 = S2 := by
    unfold gg_W_two
    rw [if_pos rfl, e2]
    exact eg
  have eW : ∀ c, f_W_two S (some 4) (0 : Int32) a0 a1 = some (c, S1) → f_W_twog S (some 4) (0 : Int32) a0 a1 = some (c, S2) := fun c h => by
    unfold f_W_twog
    rw [h]
    exact congrArg (fun z => some (c, z)) eM
  have e0 : f_W_two S (some 4) (0 : Int32) a0 a1 = kr_bh (f_K_enroll S (some 4) a0 a1) (fun E S2 => th_XAS E S2) (fun v S2 => some (v, S2)) := by
    unfold f_W_two
    rw [if_pos rfl, k4]
    rfl
  rw [e1] at e0
  rcases an with ⟨w, rfl, t0, rfl⟩ | ⟨i, e, hi, rfl, ti⟩
  · exact ⟨_, _, S1, S2, T1, eW _ e0, e2, g, Or.inl ⟨rfl, t0⟩⟩
  · match i, hi, ti with
    | 0, hi, ti =>
      have hi : some eX = some e := hi
      cases hi
      exact ⟨_, _, S1, S2, T1, eW _ (e0.trans (th_XAS_X S1)), e2, g, Or.inr ⟨0, _, rfl, rfl, ti⟩⟩
    | 1, hi, ti =>
      have hi : some eA = some e := hi
      cases hi
      exact ⟨_, _, S1, S2, T1, eW _ (e0.trans (th_XAS_A S1)), e2, g, Or.inr ⟨1, _, rfl, rfl, ti⟩⟩
    | i + 2, hi, _ =>
      have hi : (none : Option String) = some e := hi
      cases hi
theorem tg_factor {n : Nat} {T : Nat → Nat} {S : AS} {a0 a1 : Int32} (hI : IV n T S) (hn : n ≤ 600) (hr : RPF T S) : ∃ c v S1 S2 T1, f_W_twog S (some 4) (1 : Int32) a0 a1 = some (c, S2) ∧ f_M_factor S1 (some 57) a0 a1 = some (v, S2) ∧ PKg n T [] kw_M4 S S1 T1 S2 ∧ ANc [-1001, -1002] c v (sI S2 57 82) := by
  obtain ⟨r, S1, v, S2, T1, e1, e2, g, an⟩ := pk_factor (a0 := a0) (a1 := a1) hI hn hr
  have k4 := tg_k4 hI.1
  have eg : gm S1 S2 = S2 := g.2.2.1.symm
  have eM : gg_W_two S1 (1 : Int32) a0 a1 = S2 := by
    unfold gg_W_two
    rw [if_neg (by decide), if_pos rfl, e2]
    exact eg
  have eW : ∀ c, f_W_two S (some 4) (1 : Int32) a0 a1 = some (c, S1) → f_W_twog S (some 4) (1 : Int32) a0 a1 = some (c, S2) := fun c h => by
    unfold f_W_twog
    rw [h]
    exact congrArg (fun z => some (c, z)) eM
  have e0 : f_W_two S (some 4) (1 : Int32) a0 a1 = kr_bh (f_K_factor S (some 4) a0 a1) (fun E S2 => th_XAS E S2) (fun v S2 => some (v, S2)) := by
    unfold f_W_two
    rw [if_neg (by decide), if_pos rfl, k4]
    rfl
  rw [e1] at e0
  rcases an with ⟨w, rfl, t0, rfl⟩ | ⟨i, e, hi, rfl, ti⟩
  · exact ⟨_, _, S1, S2, T1, eW _ e0, e2, g, Or.inl ⟨rfl, t0⟩⟩
  · match i, hi, ti with
    | 0, hi, ti =>
      have hi : some eX = some e := hi
      cases hi
      exact ⟨_, _, S1, S2, T1, eW _ (e0.trans (th_XAS_X S1)), e2, g, Or.inr ⟨0, _, rfl, rfl, ti⟩⟩
    | 1, hi, ti =>
      have hi : some eA = some e := hi
      cases hi
      exact ⟨_, _, S1, S2, T1, eW _ (e0.trans (th_XAS_A S1)), e2, g, Or.inr ⟨1, _, rfl, rfl, ti⟩⟩
    | i + 2, hi, _ =>
      have hi : (none : Option String) = some e := hi
      cases hi
theorem tg_act {n : Nat} {T : Nat → Nat} {S : AS} {a0 a1 : Int32} (hI : IV n T S) (hn : n ≤ 600) (hr : RPF T S) : ∃ c v S1 S2 T1, f_W_twog S (some 4) (2 : Int32) a0 a1 = some (c, S2) ∧ f_M_act S1 (some 57) a0 a1 = some (v, S2) ∧ PKg n T kw_K50 kw_M50 S S1 T1 S2 ∧ ANc [-1001, -1003] c v (sI S2 57 82) := by
  obtain ⟨r, S1, v, S2, T1, e1, e2, g, an⟩ := pk_act (a0 := a0) (a1 := a1) hI hn hr
  have k4 := tg_k4 hI.1
  have eg : gm S1 S2 = S2 := g.2.2.1.symm
  have eM : gg_W_two S1 (2 : Int32) a0 a1 = S2 := by
    unfold gg_W_two
    rw [if_neg (by decide), if_neg (by decide), if_pos rfl, e2]
    exact eg
  have eW : ∀ c, f_W_two S (some 4) (2 : Int32) a0 a1 = some (c, S1) → f_W_twog S (some 4) (2 : Int32) a0 a1 = some (c, S2) := fun c h => by
    unfold f_W_twog
    rw [h]
    exact congrArg (fun z => some (c, z)) eM
  have e0 : f_W_two S (some 4) (2 : Int32) a0 a1 = kr_bh (f_K_act S (some 4) a0 a1) (fun E S2 => th_XAS E S2) (fun v S2 => some (v, S2)) := by
    unfold f_W_two
    rw [if_neg (by decide), if_neg (by decide), if_pos rfl, k4]
    rfl
  rw [e1] at e0
  rcases an with ⟨w, rfl, t0, rfl⟩ | ⟨i, e, hi, rfl, ti⟩
  · exact ⟨_, _, S1, S2, T1, eW _ e0, e2, g, Or.inl ⟨rfl, t0⟩⟩
  · match i, hi, ti with
    | 0, hi, ti =>
      have hi : some eX = some e := hi
      cases hi
      exact ⟨_, _, S1, S2, T1, eW _ (e0.trans (th_XAS_X S1)), e2, g, Or.inr ⟨0, _, rfl, rfl, ti⟩⟩
    | 1, hi, ti =>
      have hi : some eS = some e := hi
      cases hi
      exact ⟨_, _, S1, S2, T1, eW _ (e0.trans (th_XAS_S S1)), e2, g, Or.inr ⟨1, _, rfl, rfl, ti⟩⟩
    | i + 2, hi, _ =>
      have hi : (none : Option String) = some e := hi
      cases hi
theorem tg_withdraw {n : Nat} {T : Nat → Nat} {S : AS} {a0 a1 : Int32} (hI : IV n T S) (hn : n ≤ 600) (hr : RPF T S) : ∃ c v S1 S2 T1, f_W_twog S (some 4) (3 : Int32) a0 a1 = some (c, S2) ∧ f_M_withdraw S1 (some 57) a0 a1 = some (v, S2) ∧ PKg n T kw_K72 kw_M52 S S1 T1 S2 ∧ ANc [-1001] c v (sI S2 57 82) := by
  obtain ⟨r, S1, v, S2, T1, e1, e2, g, an⟩ := pk_withdraw (a0 := a0) (a1 := a1) hI hn hr
  have k4 := tg_k4 hI.1
  have eg : gm S1 S2 = S2 := g.2.2.1.symm
  have eM : gg_W_two S1 (3 : Int32) a0 a1 = S2 := by
    unfold gg_W_two
    rw [if_neg (by decide), if_neg (by decide), if_neg (by decide), if_pos rfl, e2]
    exact eg
  have eW : ∀ c, f_W_two S (some 4) (3 : Int32) a0 a1 = some (c, S1) → f_W_twog S (some 4) (3 : Int32) a0 a1 = some (c, S2) := fun c h => by
    unfold f_W_twog
    rw [h]
    exact congrArg (fun z => some (c, z)) eM
  have e0 : f_W_two S (some 4) (3 : Int32) a0 a1 = kr_bh (f_K_withdraw S (some 4) a0 a1) (fun E S2 => th_XAS E S2) (fun v S2 => some (v, S2)) := by
    unfold f_W_two
    rw [if_neg (by decide), if_neg (by decide), if_neg (by decide), if_pos rfl, k4]
    rfl
  rw [e1] at e0
  rcases an with ⟨w, rfl, t0, rfl⟩ | ⟨i, e, hi, rfl, ti⟩
  · exact ⟨_, _, S1, S2, T1, eW _ e0, e2, g, Or.inl ⟨rfl, t0⟩⟩
  · match i, hi, ti with
    | 0, hi, ti =>
      have hi : some eX = some e := hi
      cases hi
      exact ⟨_, _, S1, S2, T1, eW _ (e0.trans (th_XAS_X S1)), e2, g, Or.inr ⟨0, _, rfl, rfl, ti⟩⟩
    | i + 1, hi, _ =>
      have hi : (none : Option String) = some e := hi
      cases hi
theorem tg_need {n : Nat} {T : Nat → Nat} {S : AS} {a0 a1 : Int32} (hI : IV n T S) (hn : n ≤ 600) (hr : RPF T S) : ∃ c v S1 S2 T1, f_W_twog S (some 4) (4 : Int32) a0 a1 = some (c, S2) ∧ f_M_need S1 (some 57) a0 a1 = some (v, S2) ∧ PKg n T kw_K73 kw_M53 S S1 T1 S2 ∧ ANc [-1001, -1002] c v (sI S2 57 82) := by
  obtain ⟨r, S1, v, S2, T1, e1, e2, g, an⟩ := pk_need (a0 := a0) (a1 := a1) hI hn hr
  have k4 := tg_k4 hI.1
  have eg : gm S1 S2 = S2 := g.2.2.1.symm
  have eM : gg_W_two S1 (4 : Int32) a0 a1 = S2 := by
    unfold gg_W_two
    rw [if_neg (by decide), if_neg (by decide), if_neg (by decide), if_neg (by decide), if_pos rfl, e2]
    exact eg
  have eW : ∀ c, f_W_two S (some 4) (4 : Int32) a0 a1 = some (c, S1) → f_W_twog S (some 4) (4 : Int32) a0 a1 = some (c, S2) := fun c h => by
    unfold f_W_twog
    rw [h]
    exact congrArg (fun z => some (c, z)) eM
  have e0 : f_W_two S (some 4) (4 : Int32) a0 a1 = kr_bh (f_K_need S (some 4) a0 a1) (fun E S2 => th_XAS E S2) (fun v S2 => some (v, S2)) := by
    unfold f_W_two
    rw [if_neg (by decide), if_neg (by decide), if_neg (by decide), if_neg (by decide), if_pos rfl, k4]
    rfl
  rw [e1] at e0
  rcases an with ⟨w, rfl, t0, rfl⟩ | ⟨i, e, hi, rfl, ti⟩
  · exact ⟨_, _, S1, S2, T1, eW _ e0, e2, g, Or.inl ⟨rfl, t0⟩⟩
  · match i, hi, ti with
    | 0, hi, ti =>
      have hi : some eX = some e := hi
      cases hi
      exact ⟨_, _, S1, S2, T1, eW _ (e0.trans (th_XAS_X S1)), e2, g, Or.inr ⟨0, _, rfl, rfl, ti⟩⟩
    | 1, hi, ti =>
      have hi : some eA = some e := hi
      cases hi
      exact ⟨_, _, S1, S2, T1, eW _ (e0.trans (th_XAS_A S1)), e2, g, Or.inr ⟨1, _, rfl, rfl, ti⟩⟩
    | i + 2, hi, _ =>
      have hi : (none : Option String) = some e := hi
      cases hi
theorem tg_refresh {n : Nat} {T : Nat → Nat} {S : AS} {a0 a1 : Int32} (hI : IV n T S) (hn : n ≤ 600) (hr : RPF T S) : ∃ c v S1 S2 T1, f_W_twog S (some 4) (5 : Int32) a0 a1 = some (c, S2) ∧ f_M_refresh S1 (some 57) a0 a1 = some (v, S2) ∧ PKg n T kw_K88 kw_M82 S S1 T1 S2 ∧ ANc [-1001, -1002, -1003] c v (sI S2 57 82) := by
  obtain ⟨r, S1, v, S2, T1, e1, e2, g, an⟩ := pk_refresh (a0 := a0) (a1 := a1) hI hn hr
  have k4 := tg_k4 hI.1
  have eg : gm S1 S2 = S2 := g.2.2.1.symm
  have eM : gg_W_two S1 (5 : Int32) a0 a1 = S2 := by
    unfold gg_W_two
    rw [if_neg (by decide), if_neg (by decide), if_neg (by decide), if_neg (by decide), if_neg (by decide), if_pos rfl, e2]
    exact eg
  have eW : ∀ c, f_W_two S (some 4) (5 : Int32) a0 a1 = some (c, S1) → f_W_twog S (some 4) (5 : Int32) a0 a1 = some (c, S2) := fun c h => by
    unfold f_W_twog
    rw [h]
    exact congrArg (fun z => some (c, z)) eM
  have e0 : f_W_two S (some 4) (5 : Int32) a0 a1 = kr_bh (f_K_refresh S (some 4) a0 a1) (fun E S2 => th_XAS E S2) (fun v S2 => some (v, S2)) := by
    unfold f_W_two
    rw [if_neg (by decide), if_neg (by decide), if_neg (by decide), if_neg (by decide), if_neg (by decide), if_pos rfl, k4]
    rfl
  rw [e1] at e0
  rcases an with ⟨w, rfl, t0, rfl⟩ | ⟨i, e, hi, rfl, ti⟩
  · exact ⟨_, _, S1, S2, T1, eW _ e0, e2, g, Or.inl ⟨rfl, t0⟩⟩
  · match i, hi, ti with
    | 0, hi, ti =>
      have hi : some eX = some e := hi
      cases hi
      exact ⟨_, _, S1, S2, T1, eW _ (e0.trans (th_XAS_X S1)), e2, g, Or.inr ⟨0, _, rfl, rfl, ti⟩⟩
    | 1, hi, ti =>
      have hi : some eA = some e := hi
      cases hi
      exact ⟨_, _, S1, S2, T1, eW _ (e0.trans (th_XAS_A S1)), e2, g, Or.inr ⟨1, _, rfl, rfl, ti⟩⟩
    | 2, hi, ti =>
      have hi : some eS = some e := hi
      cases hi
      exact ⟨_, _, S1, S2, T1, eW _ (e0.trans (th_XAS_S S1)), e2, g, Or.inr ⟨2, _, rfl, rfl, ti⟩⟩
    | i + 3, hi, _ =>
      have hi : (none : Option String) = some e := hi
      cases hi
theorem tg_vouch {n : Nat} {T : Nat → Nat} {S : AS} {a0 a1 : Int32} (hI : IV n T S) (hn : n ≤ 600) (hr : RPF T S) : ∃ c v S1 S2 T1, f_W_twog S (some 4) (6 : Int32) a0 a1 = some (c, S2) ∧ f_M_vouch S1 (some 57) a0 a1 = some (v, S2) ∧ PKg n T kw_K96 kw_M101 S S1 T1 S2 ∧ ANc [-1001, -1003] c v (sI S2 57 82) := by
  obtain ⟨r, S1, v, S2, T1, e1, e2, g, an⟩ := pk_vouch (a0 := a0) (a1 := a1) hI hn hr
  have k4 := tg_k4 hI.1
  have eg : gm S1 S2 = S2 := g.2.2.1.symm
  have eM : gg_W_two S1 (6 : Int32) a0 a1 = S2 := by
    unfold gg_W_two
    rw [if_neg (by decide), if_neg (by decide), if_neg (by decide), if_neg (by decide), if_neg (by decide), if_neg (by decide), if_pos rfl, e2]
    exact eg
  have eW : ∀ c, f_W_two S (some 4) (6 : Int32) a0 a1 = some (c, S1) → f_W_twog S (some 4) (6 : Int32) a0 a1 = some (c, S2) := fun c h => by
    unfold f_W_twog
    rw [h]
    exact congrArg (fun z => some (c, z)) eM
  have e0 : f_W_two S (some 4) (6 : Int32) a0 a1 = kr_bh (f_K_vouch S (some 4) a0 a1) (fun E S2 => th_XAS E S2) (fun v S2 => some (v, S2)) := by
    unfold f_W_two
    rw [if_neg (by decide), if_neg (by decide), if_neg (by decide), if_neg (by decide), if_neg (by decide), if_neg (by decide), if_pos rfl, k4]
    rfl
  rw [e1] at e0
  rcases an with ⟨w, rfl, t0, rfl⟩ | ⟨i, e, hi, rfl, ti⟩
  · exact ⟨_, _, S1, S2, T1, eW _ e0, e2, g, Or.inl ⟨rfl, t0⟩⟩
  · match i, hi, ti with
    | 0, hi, ti =>
      have hi : some eX = some e := hi
      cases hi
      exact ⟨_, _, S1, S2, T1, eW _ (e0.trans (th_XAS_X S1)), e2, g, Or.inr ⟨0, _, rfl, rfl, ti⟩⟩
    | 1, hi, ti =>
      have hi : some eS = some e := hi
      cases hi
      exact ⟨_, _, S1, S2, T1, eW _ (e0.trans (th_XAS_S S1)), e2, g, Or.inr ⟨1, _, rfl, rfl, ti⟩⟩
    | i + 2, hi, _ =>
      have hi : (none : Option String) = some e := hi
      cases hi
theorem tg_stop {n : Nat} {T : Nat → Nat} {S : AS} {a0 a1 : Int32} (hI : IV n T S) (hn : n ≤ 600) (hr : RPF T S) : ∃ c v S1 S2 T1, f_W_twog S (some 4) (7 : Int32) a0 a1 = some (c, S2) ∧ f_M_stop S1 (some 57) a0 a1 = some (v, S2) ∧ PKg n T kw_K97 kw_M102 S S1 T1 S2 ∧ ANc [-1001, -1003] c v (sI S2 57 82) := by
  obtain ⟨r, S1, v, S2, T1, e1, e2, g, an⟩ := pk_stop (a0 := a0) (a1 := a1) hI hn hr
  have k4 := tg_k4 hI.1
  have eg : gm S1 S2 = S2 := g.2.2.1.symm
  have eM : gg_W_two S1 (7 : Int32) a0 a1 = S2 := by
    unfold gg_W_two
    rw [if_neg (by decide), if_neg (by decide), if_neg (by decide), if_neg (by decide), if_neg (by decide), if_neg (by decide), if_neg (by decide), if_pos rfl, e2]
    exact eg
  have eW : ∀ c, f_W_two S (some 4) (7 : Int32) a0 a1 = some (c, S1) → f_W_twog S (some 4) (7 : Int32) a0 a1 = some (c, S2) := fun c h => by
    unfold f_W_twog
    rw [h]
    exact congrArg (fun z => some (c, z)) eM
  have e0 : f_W_two S (some 4) (7 : Int32) a0 a1 = kr_bh (f_K_stop S (some 4) a0 a1) (fun E S2 => th_XAS E S2) (fun v S2 => some (v, S2)) := by
    unfold f_W_two
    rw [if_neg (by decide), if_neg (by decide), if_neg (by decide), if_neg (by decide), if_neg (by decide), if_neg (by decide), if_neg (by decide), if_pos rfl, k4]
    rfl
  rw [e1] at e0
  rcases an with ⟨w, rfl, t0, rfl⟩ | ⟨i, e, hi, rfl, ti⟩
  · exact ⟨_, _, S1, S2, T1, eW _ e0, e2, g, Or.inl ⟨rfl, t0⟩⟩
  · match i, hi, ti with
    | 0, hi, ti =>
      have hi : some eX = some e := hi
      cases hi
      exact ⟨_, _, S1, S2, T1, eW _ (e0.trans (th_XAS_X S1)), e2, g, Or.inr ⟨0, _, rfl, rfl, ti⟩⟩
    | 1, hi, ti =>
      have hi : some eS = some e := hi
      cases hi
      exact ⟨_, _, S1, S2, T1, eW _ (e0.trans (th_XAS_S S1)), e2, g, Or.inr ⟨1, _, rfl, rfl, ti⟩⟩
    | i + 2, hi, _ =>
      have hi : (none : Option String) = some e := hi
      cases hi
theorem tg_link {n : Nat} {T : Nat → Nat} {S : AS} {a0 a1 : Int32} (hI : IV n T S) (hn : n ≤ 600) (hr : RPF T S) : ∃ c v S1 S2 T1, f_W_twog S (some 4) (8 : Int32) a0 a1 = some (c, S2) ∧ f_M_link S1 (some 57) a0 a1 = some (v, S2) ∧ PKg n T kw_K102 kw_M106 S S1 T1 S2 ∧ ANc [-1001, -1003] c v (sI S2 57 82) := by
  obtain ⟨r, S1, v, S2, T1, e1, e2, g, an⟩ := pk_link (a0 := a0) (a1 := a1) hI hn hr
  have k4 := tg_k4 hI.1
  have eg : gm S1 S2 = S2 := g.2.2.1.symm
  have eM : gg_W_two S1 (8 : Int32) a0 a1 = S2 := by
    unfold gg_W_two
    rw [if_neg (by decide), if_neg (by decide), if_neg (by decide), if_neg (by decide), if_neg (by decide), if_neg (by decide), if_neg (by decide), if_neg (by decide), e2]
    exact eg
  have eW : ∀ c, f_W_two S (some 4) (8 : Int32) a0 a1 = some (c, S1) → f_W_twog S (some 4) (8 : Int32) a0 a1 = some (c, S2) := fun c h => by
    unfold f_W_twog
    rw [h]
    exact congrArg (fun z => some (c, z)) eM
  have e0 : f_W_two S (some 4) (8 : Int32) a0 a1 = kr_bh (f_K_link S (some 4) a0 a1) (fun E S2 => th_XAS E S2) (fun v S2 => some (v, S2)) := by
    unfold f_W_two
    rw [if_neg (by decide), if_neg (by decide), if_neg (by decide), if_neg (by decide), if_neg (by decide), if_neg (by decide), if_neg (by decide), if_neg (by decide), k4]
    rfl
  rw [e1] at e0
  rcases an with ⟨w, rfl, t0, rfl⟩ | ⟨i, e, hi, rfl, ti⟩
  · exact ⟨_, _, S1, S2, T1, eW _ e0, e2, g, Or.inl ⟨rfl, t0⟩⟩
  · match i, hi, ti with
    | 0, hi, ti =>
      have hi : some eX = some e := hi
      cases hi
      exact ⟨_, _, S1, S2, T1, eW _ (e0.trans (th_XAS_X S1)), e2, g, Or.inr ⟨0, _, rfl, rfl, ti⟩⟩
    | 1, hi, ti =>
      have hi : some eS = some e := hi
      cases hi
      exact ⟨_, _, S1, S2, T1, eW _ (e0.trans (th_XAS_S S1)), e2, g, Or.inr ⟨1, _, rfl, rfl, ti⟩⟩
    | i + 2, hi, _ =>
      have hi : (none : Option String) = some e := hi
      cases hi
theorem tg_begin {n : Nat} {T : Nat → Nat} {S : AS} {a0 a1 a2 : Int32} (hI : IV n T S) (hn : n ≤ 600) (hr : RPF T S) : ∃ c v S1 S2 T1, f_W_threeg S (some 4) (0 : Int32) a0 a1 a2 = some (c, S2) ∧ f_M_begin S1 (some 57) a0 a1 a2 = some (v, S2) ∧ PKg n T kw_K57 kw_bg S S1 T1 S2 ∧ ANc [-1001, -1003] c v (sI S2 57 82) := by
  obtain ⟨r, S1, v, S2, T1, e1, e2, g, an⟩ := pk_begin (a0 := a0) (a1 := a1) (a2 := a2) hI hn hr
  have k4 := tg_k4 hI.1
  have eg : gm S1 S2 = S2 := g.2.2.1.symm
  have eM : gg_W_three S1 (0 : Int32) a0 a1 a2 = S2 := by
    unfold gg_W_three
    rw [if_pos rfl, e2]
    exact eg
  have eW : ∀ c, f_W_three S (some 4) (0 : Int32) a0 a1 a2 = some (c, S1) → f_W_threeg S (some 4) (0 : Int32) a0 a1 a2 = some (c, S2) := fun c h => by
    unfold f_W_threeg
    rw [h]
    exact congrArg (fun z => some (c, z)) eM
  have e0 : f_W_three S (some 4) (0 : Int32) a0 a1 a2 = kr_bh (f_K_begin S (some 4) a0 a1 a2) (fun E S2 => th_XAS E S2) (fun v S2 => some (v, S2)) := by
    unfold f_W_three
    rw [if_pos rfl, k4]
    rfl
  rw [e1] at e0
  rcases an with ⟨w, rfl, t0, rfl⟩ | ⟨i, e, hi, rfl, ti⟩
  · exact ⟨_, _, S1, S2, T1, eW _ e0, e2, g, Or.inl ⟨rfl, t0⟩⟩
  · match i, hi, ti with
    | 0, hi, ti =>
      have hi : some eX = some e := hi
      cases hi
      exact ⟨_, _, S1, S2, T1, eW _ (e0.trans (th_XAS_X S1)), e2, g, Or.inr ⟨0, _, rfl, rfl, ti⟩⟩
    | 1, hi, ti =>
      have hi : some eS = some e := hi
      cases hi
      exact ⟨_, _, S1, S2, T1, eW _ (e0.trans (th_XAS_S S1)), e2, g, Or.inr ⟨1, _, rfl, rfl, ti⟩⟩
    | i + 2, hi, _ =>
      have hi : (none : Option String) = some e := hi
      cases hi
theorem tg_consent {n : Nat} {T : Nat → Nat} {S : AS} {a0 a1 a2 : Int32} (hI : IV n T S) (hn : n ≤ 600) (hr : RPF T S) : ∃ c v S1 S2 T1, f_W_threeg S (some 4) (1 : Int32) a0 a1 a2 = some (c, S2) ∧ f_M_consent S1 (some 57) a0 a1 a2 = some (v, S2) ∧ PKg n T kw_K71 kw_M51 S S1 T1 S2 ∧ ANc [-1001, -1002] c v (sI S2 57 82) := by
  obtain ⟨r, S1, v, S2, T1, e1, e2, g, an⟩ := pk_consent (a0 := a0) (a1 := a1) (a2 := a2) hI hn hr
  have k4 := tg_k4 hI.1
  have eg : gm S1 S2 = S2 := g.2.2.1.symm
  have eM : gg_W_three S1 (1 : Int32) a0 a1 a2 = S2 := by
    unfold gg_W_three
    rw [if_neg (by decide), if_pos rfl, e2]
    exact eg
  have eW : ∀ c, f_W_three S (some 4) (1 : Int32) a0 a1 a2 = some (c, S1) → f_W_threeg S (some 4) (1 : Int32) a0 a1 a2 = some (c, S2) := fun c h => by
    unfold f_W_threeg
    rw [h]
    exact congrArg (fun z => some (c, z)) eM
  have e0 : f_W_three S (some 4) (1 : Int32) a0 a1 a2 = kr_bh (f_K_consent S (some 4) a0 a1 a2) (fun E S2 => th_XAS E S2) (fun v S2 => some (v, S2)) := by
    unfold f_W_three
    rw [if_neg (by decide), if_pos rfl, k4]
    rfl
  rw [e1] at e0
  rcases an with ⟨w, rfl, t0, rfl⟩ | ⟨i, e, hi, rfl, ti⟩
  · exact ⟨_, _, S1, S2, T1, eW _ e0, e2, g, Or.inl ⟨rfl, t0⟩⟩
  · match i, hi, ti with
    | 0, hi, ti =>
      have hi : some eX = some e := hi
      cases hi
      exact ⟨_, _, S1, S2, T1, eW _ (e0.trans (th_XAS_X S1)), e2, g, Or.inr ⟨0, _, rfl, rfl, ti⟩⟩
    | 1, hi, ti =>
      have hi : some eA = some e := hi
      cases hi
      exact ⟨_, _, S1, S2, T1, eW _ (e0.trans (th_XAS_A S1)), e2, g, Or.inr ⟨1, _, rfl, rfl, ti⟩⟩
    | i + 2, hi, _ =>
      have hi : (none : Option String) = some e := hi
      cases hi
theorem tg_exchange {n : Nat} {T : Nat → Nat} {S : AS} {a0 a1 a2 : Int32} (hI : IV n T S) (hn : n ≤ 600) (hr : RPF T S) : ∃ c v S1 S2 T1, f_W_threeg S (some 4) (2 : Int32) a0 a1 a2 = some (c, S2) ∧ f_M_exchange S1 (some 57) a0 a1 a2 = some (v, S2) ∧ PKg n T kw_K77 kw_M83 S S1 T1 S2 ∧ ANc [-1001, -1002, -1003] c v (sI S2 57 82) := by
  obtain ⟨r, S1, v, S2, T1, e1, e2, g, an⟩ := pk_exchange (a0 := a0) (a1 := a1) (a2 := a2) hI hn hr
  have k4 := tg_k4 hI.1
  have eg : gm S1 S2 = S2 := g.2.2.1.symm
  have eM : gg_W_three S1 (2 : Int32) a0 a1 a2 = S2 := by
    unfold gg_W_three
    rw [if_neg (by decide), if_neg (by decide), if_pos rfl, e2]
    exact eg
  have eW : ∀ c, f_W_three S (some 4) (2 : Int32) a0 a1 a2 = some (c, S1) → f_W_threeg S (some 4) (2 : Int32) a0 a1 a2 = some (c, S2) := fun c h => by
    unfold f_W_threeg
    rw [h]
    exact congrArg (fun z => some (c, z)) eM
  have e0 : f_W_three S (some 4) (2 : Int32) a0 a1 a2 = kr_bh (f_K_exchange S (some 4) a0 a1 a2) (fun E S2 => th_XAS E S2) (fun v S2 => some (v, S2)) := by
    unfold f_W_three
    rw [if_neg (by decide), if_neg (by decide), if_pos rfl, k4]
    rfl
  rw [e1] at e0
  rcases an with ⟨w, rfl, t0, rfl⟩ | ⟨i, e, hi, rfl, ti⟩
  · exact ⟨_, _, S1, S2, T1, eW _ e0, e2, g, Or.inl ⟨rfl, t0⟩⟩
  · match i, hi, ti with
    | 0, hi, ti =>
      have hi : some eX = some e := hi
      cases hi
      exact ⟨_, _, S1, S2, T1, eW _ (e0.trans (th_XAS_X S1)), e2, g, Or.inr ⟨0, _, rfl, rfl, ti⟩⟩
    | 1, hi, ti =>
      have hi : some eA = some e := hi
      cases hi
      exact ⟨_, _, S1, S2, T1, eW _ (e0.trans (th_XAS_A S1)), e2, g, Or.inr ⟨1, _, rfl, rfl, ti⟩⟩
    | 2, hi, ti =>
      have hi : some eS = some e := hi
      cases hi
      exact ⟨_, _, S1, S2, T1, eW _ (e0.trans (th_XAS_S S1)), e2, g, Or.inr ⟨2, _, rfl, rfl, ti⟩⟩
    | i + 3, hi, _ =>
      have hi : (none : Option String) = some e := hi
      cases hi
theorem tg_check {n : Nat} {T : Nat → Nat} {S : AS} {a0 a1 a2 : Int32} (hI : IV n T S) (hn : n ≤ 600) (hr : RPF T S) : ∃ c v S1 S2 T1, f_W_threeg S (some 4) (3 : Int32) a0 a1 a2 = some (c, S2) ∧ f_M_check S1 (some 57) a0 a1 a2 = some (v, S2) ∧ PKg n T kw_K93 kw_M95 S S1 T1 S2 ∧ ANc [-1001, -1002] c v (sI S2 57 82) := by
  obtain ⟨r, S1, v, S2, T1, e1, e2, g, an⟩ := pk_check (a0 := a0) (a1 := a1) (a2 := a2) hI hn hr
  have k4 := tg_k4 hI.1
  have eg : gm S1 S2 = S2 := g.2.2.1.symm
  have eM : gg_W_three S1 (3 : Int32) a0 a1 a2 = S2 := by
    unfold gg_W_three
    rw [if_neg (by decide), if_neg (by decide), if_neg (by decide), if_pos rfl, e2]
    exact eg
  have eW : ∀ c, f_W_three S (some 4) (3 : Int32) a0 a1 a2 = some (c, S1) → f_W_threeg S (some 4) (3 : Int32) a0 a1 a2 = some (c, S2) := fun c h => by
    unfold f_W_threeg
    rw [h]
    exact congrArg (fun z => some (c, z)) eM
  have e0 : f_W_three S (some 4) (3 : Int32) a0 a1 a2 = kr_bh (f_K_check S (some 4) a0 a1 a2) (fun E S2 => th_XAS E S2) (fun v S2 => some (v, S2)) := by
    unfold f_W_three
    rw [if_neg (by decide), if_neg (by decide), if_neg (by decide), if_pos rfl, k4]
    rfl
  rw [e1] at e0
  rcases an with ⟨w, rfl, t0, rfl⟩ | ⟨i, e, hi, rfl, ti⟩
  · exact ⟨_, _, S1, S2, T1, eW _ e0, e2, g, Or.inl ⟨rfl, t0⟩⟩
  · match i, hi, ti with
    | 0, hi, ti =>
      have hi : some eX = some e := hi
      cases hi
      exact ⟨_, _, S1, S2, T1, eW _ (e0.trans (th_XAS_X S1)), e2, g, Or.inr ⟨0, _, rfl, rfl, ti⟩⟩
    | 1, hi, ti =>
      have hi : some eA = some e := hi
      cases hi
      exact ⟨_, _, S1, S2, T1, eW _ (e0.trans (th_XAS_A S1)), e2, g, Or.inr ⟨1, _, rfl, rfl, ti⟩⟩
    | i + 2, hi, _ =>
      have hi : (none : Option String) = some e := hi
      cases hi
theorem tg_answer0 {n : Nat} {T : Nat → Nat} {S : AS} {a0 a1 a2 : Int32} (hv : ¬ 0 < a1) (hI : IV n T S) (hn : n ≤ 600) (hr : RPF T S) : ∃ c v S1 S2 T1, f_W_threeg S (some 4) (4 : Int32) a0 a1 a2 = some (c, S2) ∧ f_M_answer S1 (some 57) a0 (0 : Int32) a2 = some (v, S2) ∧ PKg n T kw_K63 kw_an S S1 T1 S2 ∧ ANc [-1001, -1002, -1003] c v (sI S2 57 82) := by
  obtain ⟨r, S1, v, S2, T1, e1, e2, g, an⟩ := pk_answer (a0 := a0) (a1 := 0) (a2 := a2) hI hn hr
  have k4 := tg_k4 hI.1
  have eg : gm S1 S2 = S2 := g.2.2.1.symm
  have eM : gg_W_three S1 (4 : Int32) a0 a1 a2 = S2 := by
    unfold gg_W_three
    rw [if_neg (by decide), if_neg (by decide), if_neg (by decide), if_neg (by decide), if_pos rfl, if_neg hv, e2]
    exact eg
  have eW : ∀ c, f_W_three S (some 4) (4 : Int32) a0 a1 a2 = some (c, S1) → f_W_threeg S (some 4) (4 : Int32) a0 a1 a2 = some (c, S2) := fun c h => by
    unfold f_W_threeg
    rw [h]
    exact congrArg (fun z => some (c, z)) eM
  have e0 : f_W_three S (some 4) (4 : Int32) a0 a1 a2 = kr_bh (f_K_answer S (some 4) a0 (0 : Int32) a2) (fun E S2 => th_XAS E S2) (fun v S2 => some (v, S2)) := by
    unfold f_W_three f_W_three_B79
    rw [if_neg (by decide), if_neg (by decide), if_neg (by decide), if_neg (by decide), if_pos rfl, if_pos (Int32.not_lt.mp hv), k4]
    rfl
  rw [e1] at e0
  rcases an with ⟨w, rfl, t0, rfl⟩ | ⟨i, e, hi, rfl, ti⟩
  · exact ⟨_, _, S1, S2, T1, eW _ e0, e2, g, Or.inl ⟨rfl, t0⟩⟩
  · match i, hi, ti with
    | 0, hi, ti =>
      have hi : some eX = some e := hi
      cases hi
      exact ⟨_, _, S1, S2, T1, eW _ (e0.trans (th_XAS_X S1)), e2, g, Or.inr ⟨0, _, rfl, rfl, ti⟩⟩
    | 1, hi, ti =>
      have hi : some eA = some e := hi
      cases hi
      exact ⟨_, _, S1, S2, T1, eW _ (e0.trans (th_XAS_A S1)), e2, g, Or.inr ⟨1, _, rfl, rfl, ti⟩⟩
    | 2, hi, ti =>
      have hi : some eS = some e := hi
      cases hi
      exact ⟨_, _, S1, S2, T1, eW _ (e0.trans (th_XAS_S S1)), e2, g, Or.inr ⟨2, _, rfl, rfl, ti⟩⟩
    | i + 3, hi, _ =>
      have hi : (none : Option String) = some e := hi
      cases hi
theorem tg_answer1 {n : Nat} {T : Nat → Nat} {S : AS} {a0 a1 a2 : Int32} (hv : 0 < a1) (hI : IV n T S) (hn : n ≤ 600) (hr : RPF T S) : ∃ c v S1 S2 T1, f_W_threeg S (some 4) (4 : Int32) a0 a1 a2 = some (c, S2) ∧ f_M_answer S1 (some 57) a0 (1 : Int32) a2 = some (v, S2) ∧ PKg n T kw_K63 kw_an S S1 T1 S2 ∧ ANc [-1001, -1002, -1003] c v (sI S2 57 82) := by
  obtain ⟨r, S1, v, S2, T1, e1, e2, g, an⟩ := pk_answer (a0 := a0) (a1 := 1) (a2 := a2) hI hn hr
  have k4 := tg_k4 hI.1
  have eg : gm S1 S2 = S2 := g.2.2.1.symm
  have eM : gg_W_three S1 (4 : Int32) a0 a1 a2 = S2 := by
    unfold gg_W_three
    rw [if_neg (by decide), if_neg (by decide), if_neg (by decide), if_neg (by decide), if_pos rfl, if_pos hv, e2]
    exact eg
  have eW : ∀ c, f_W_three S (some 4) (4 : Int32) a0 a1 a2 = some (c, S1) → f_W_threeg S (some 4) (4 : Int32) a0 a1 a2 = some (c, S2) := fun c h => by
    unfold f_W_threeg
    rw [h]
    exact congrArg (fun z => some (c, z)) eM
  have e0 : f_W_three S (some 4) (4 : Int32) a0 a1 a2 = kr_bh (f_K_answer S (some 4) a0 (1 : Int32) a2) (fun E S2 => th_XAS E S2) (fun v S2 => some (v, S2)) := by
    unfold f_W_three f_W_three_B79
    rw [if_neg (by decide), if_neg (by decide), if_neg (by decide), if_neg (by decide), if_pos rfl, if_neg (Int32.not_le.mpr hv), k4]
    rfl
  rw [e1] at e0
  rcases an with ⟨w, rfl, t0, rfl⟩ | ⟨i, e, hi, rfl, ti⟩
  · exact ⟨_, _, S1, S2, T1, eW _ e0, e2, g, Or.inl ⟨rfl, t0⟩⟩
  · match i, hi, ti with
    | 0, hi, ti =>
      have hi : some eX = some e := hi
      cases hi
      exact ⟨_, _, S1, S2, T1, eW _ (e0.trans (th_XAS_X S1)), e2, g, Or.inr ⟨0, _, rfl, rfl, ti⟩⟩
    | 1, hi, ti =>
      have hi : some eA = some e := hi
      cases hi
      exact ⟨_, _, S1, S2, T1, eW _ (e0.trans (th_XAS_A S1)), e2, g, Or.inr ⟨1, _, rfl, rfl, ti⟩⟩
    | 2, hi, ti =>
      have hi : some eS = some e := hi
      cases hi
      exact ⟨_, _, S1, S2, T1, eW _ (e0.trans (th_XAS_S S1)), e2, g, Or.inr ⟨2, _, rfl, rfl, ti⟩⟩
    | i + 3, hi, _ =>
      have hi : (none : Option String) = some e := hi
      cases hi
theorem tg_points0 {n : Nat} {T : Nat → Nat} {S : AS} {a0 a1 a2 : Int32} (hI : IV n T S) (hn : n ≤ 600) (hr : RPF T S) : ∃ c v S1 S2 T1, f_W_threeg S (some 4) (5 : Int32) a0 a1 a2 = some (c, S2) ∧ f_M_points S1 (some 57) a0 a1 (0 : Int32) = some (v, S2) ∧ PKg n T kw_K47 kw_M25 S S1 T1 S2 ∧ ANc [-1002] c v (sI S2 57 82) := by
  obtain ⟨r, S1, v, S2, T1, e1, e2, g, an⟩ := pk_points (a0 := a0) (a1 := a1) (a2 := 0) hI hn hr
  have k4 := tg_k4 hI.1
  have eg : gm S1 S2 = S2 := g.2.2.1.symm
  have eM : gg_W_three S1 (5 : Int32) a0 a1 a2 = S2 := by
    unfold gg_W_three
    rw [if_neg (by decide), if_neg (by decide), if_neg (by decide), if_neg (by decide), if_neg (by decide), if_neg (by decide), e2]
    exact eg
  have eW : ∀ c, f_W_three S (some 4) (5 : Int32) a0 a1 a2 = some (c, S1) → f_W_threeg S (some 4) (5 : Int32) a0 a1 a2 = some (c, S2) := fun c h => by
    unfold f_W_threeg
    rw [h]
    exact congrArg (fun z => some (c, z)) eM
  have e0 : f_W_three S (some 4) (5 : Int32) a0 a1 a2 = kr_bh (f_K_points S (some 4) a0 a1 (0 : Int32)) (fun E S2 => th_XAS E S2) (fun v S2 => some (v, S2)) := by
    unfold f_W_three f_W_three_B101
    rw [if_neg (by decide), if_neg (by decide), if_neg (by decide), if_neg (by decide), if_neg (by decide), if_neg (by decide), k4]
    rfl
  rw [e1] at e0
  rcases an with ⟨w, rfl, t0, rfl⟩ | ⟨i, e, hi, rfl, ti⟩
  · exact ⟨_, _, S1, S2, T1, eW _ e0, e2, g, Or.inl ⟨rfl, t0⟩⟩
  · match i, hi, ti with
    | 0, hi, ti =>
      have hi : some eA = some e := hi
      cases hi
      exact ⟨_, _, S1, S2, T1, eW _ (e0.trans (th_XAS_A S1)), e2, g, Or.inr ⟨0, _, rfl, rfl, ti⟩⟩
    | i + 1, hi, _ =>
      have hi : (none : Option String) = some e := hi
      cases hi
theorem tg_points1 {n : Nat} {T : Nat → Nat} {S : AS} {a0 a1 a2 : Int32} (hI : IV n T S) (hn : n ≤ 600) (hr : RPF T S) : ∃ c v S1 S2 T1, f_W_threeg S (some 4) (6 : Int32) a0 a1 a2 = some (c, S2) ∧ f_M_points S1 (some 57) a0 a1 (1 : Int32) = some (v, S2) ∧ PKg n T kw_K47 kw_M25 S S1 T1 S2 ∧ ANc [-1002] c v (sI S2 57 82) := by
  obtain ⟨r, S1, v, S2, T1, e1, e2, g, an⟩ := pk_points (a0 := a0) (a1 := a1) (a2 := 1) hI hn hr
  have k4 := tg_k4 hI.1
  have eg : gm S1 S2 = S2 := g.2.2.1.symm
  have eM : gg_W_three S1 (6 : Int32) a0 a1 a2 = S2 := by
    unfold gg_W_three
    rw [if_neg (by decide), if_neg (by decide), if_neg (by decide), if_neg (by decide), if_neg (by decide), if_pos rfl, e2]
    exact eg
  have eW : ∀ c, f_W_three S (some 4) (6 : Int32) a0 a1 a2 = some (c, S1) → f_W_threeg S (some 4) (6 : Int32) a0 a1 a2 = some (c, S2) := fun c h => by
    unfold f_W_threeg
    rw [h]
    exact congrArg (fun z => some (c, z)) eM
  have e0 : f_W_three S (some 4) (6 : Int32) a0 a1 a2 = kr_bh (f_K_points S (some 4) a0 a1 (1 : Int32)) (fun E S2 => th_XAS E S2) (fun v S2 => some (v, S2)) := by
    unfold f_W_three f_W_three_B101
    rw [if_neg (by decide), if_neg (by decide), if_neg (by decide), if_neg (by decide), if_neg (by decide), if_pos rfl, k4]
    rfl
  rw [e1] at e0
  rcases an with ⟨w, rfl, t0, rfl⟩ | ⟨i, e, hi, rfl, ti⟩
  · exact ⟨_, _, S1, S2, T1, eW _ e0, e2, g, Or.inl ⟨rfl, t0⟩⟩
  · match i, hi, ti with
    | 0, hi, ti =>
      have hi : some eA = some e := hi
      cases hi
      exact ⟨_, _, S1, S2, T1, eW _ (e0.trans (th_XAS_A S1)), e2, g, Or.inr ⟨0, _, rfl, rfl, ti⟩⟩
    | i + 1, hi, _ =>
      have hi : (none : Option String) = some e := hi
      cases hi
theorem tg_authorize {n : Nat} {T : Nat → Nat} {S : AS} {a0 a1 a2 a3 : Int32} (hI : IV n T S) (hn : n ≤ 600) (hr : RPF T S) : ∃ c v S1 S2 T1, f_W_fourg S (some 4) (0 : Int32) a0 a1 a2 a3 = some (c, S2) ∧ f_M_authorize S1 (some 57) a0 a1 a2 a3 = some (v, S2) ∧ PKg n T kw_K74 kw_M60 S S1 T1 S2 ∧ ANc [-1001, -1002, -1003] c v (sI S2 57 82) := by
  obtain ⟨r, S1, v, S2, T1, e1, e2, g, an⟩ := pk_authorize (a0 := a0) (a1 := a1) (a2 := a2) (a3 := a3) hI hn hr
  have k4 := tg_k4 hI.1
  have eg : gm S1 S2 = S2 := g.2.2.1.symm
  have eM : gg_W_four S1 (0 : Int32) a0 a1 a2 a3 = S2 := by
    unfold gg_W_four
    rw [if_pos rfl, e2]
    exact eg
  have eW : ∀ c, f_W_four S (some 4) (0 : Int32) a0 a1 a2 a3 = some (c, S1) → f_W_fourg S (some 4) (0 : Int32) a0 a1 a2 a3 = some (c, S2) := fun c h => by
    unfold f_W_fourg
    rw [h]
    exact congrArg (fun z => some (c, z)) eM
  have e0 : f_W_four S (some 4) (0 : Int32) a0 a1 a2 a3 = kr_bh (f_K_authorize S (some 4) a0 a1 a2 a3) (fun E S2 => th_XAS E S2) (fun v S2 => some (v, S2)) := by
    unfold f_W_four
    rw [if_pos rfl, k4]
    rfl
  rw [e1] at e0
  rcases an with ⟨w, rfl, t0, rfl⟩ | ⟨i, e, hi, rfl, ti⟩
  · exact ⟨_, _, S1, S2, T1, eW _ e0, e2, g, Or.inl ⟨rfl, t0⟩⟩
  · match i, hi, ti with
    | 0, hi, ti =>
      have hi : some eX = some e := hi
      cases hi
      exact ⟨_, _, S1, S2, T1, eW _ (e0.trans (th_XAS_X S1)), e2, g, Or.inr ⟨0, _, rfl, rfl, ti⟩⟩
    | 1, hi, ti =>
      have hi : some eA = some e := hi
      cases hi
      exact ⟨_, _, S1, S2, T1, eW _ (e0.trans (th_XAS_A S1)), e2, g, Or.inr ⟨1, _, rfl, rfl, ti⟩⟩
    | 2, hi, ti =>
      have hi : some eS = some e := hi
      cases hi
      exact ⟨_, _, S1, S2, T1, eW _ (e0.trans (th_XAS_S S1)), e2, g, Or.inr ⟨2, _, rfl, rfl, ti⟩⟩
    | i + 3, hi, _ =>
      have hi : (none : Option String) = some e := hi
      cases hi
theorem tg_stepUp0 {n : Nat} {T : Nat → Nat} {S : AS} {a0 a1 a2 a3 : Int32} (hv : ¬ 0 < a2) (hI : IV n T S) (hn : n ≤ 600) (hr : RPF T S) : ∃ c v S1 S2 T1, f_W_fourg S (some 4) (1 : Int32) a0 a1 a2 a3 = some (c, S2) ∧ f_M_stepUp S1 (some 57) a0 a1 (0 : Int32) a3 = some (v, S2) ∧ PKg n T kw_K67 kw_M47 S S1 T1 S2 ∧ ANc [-1001, -1002, -1003] c v (sI S2 57 82) := by
  obtain ⟨r, S1, v, S2, T1, e1, e2, g, an⟩ := pk_stepUp (a0 := a0) (a1 := a1) (a2 := 0) (a3 := a3) hI hn hr
  have k4 := tg_k4 hI.1
  have eg : gm S1 S2 = S2 := g.2.2.1.symm
  have eM : gg_W_four S1 (1 : Int32) a0 a1 a2 a3 = S2 := by
    unfold gg_W_four
    rw [if_neg (by decide), if_neg hv, e2]
    exact eg
  have eW : ∀ c, f_W_four S (some 4) (1 : Int32) a0 a1 a2 a3 = some (c, S1) → f_W_fourg S (some 4) (1 : Int32) a0 a1 a2 a3 = some (c, S2) := fun c h => by
    unfold f_W_fourg
    rw [h]
    exact congrArg (fun z => some (c, z)) eM
  have e0 : f_W_four S (some 4) (1 : Int32) a0 a1 a2 a3 = kr_bh (f_K_stepUp S (some 4) a0 a1 (0 : Int32) a3) (fun E S2 => th_XAS E S2) (fun v S2 => some (v, S2)) := by
    unfold f_W_four f_W_four_B30
    rw [if_neg (by decide), if_pos (Int32.not_lt.mp hv), k4]
    rfl
  rw [e1] at e0
  rcases an with ⟨w, rfl, t0, rfl⟩ | ⟨i, e, hi, rfl, ti⟩
  · exact ⟨_, _, S1, S2, T1, eW _ e0, e2, g, Or.inl ⟨rfl, t0⟩⟩
  · match i, hi, ti with
    | 0, hi, ti =>
      have hi : some eX = some e := hi
      cases hi
      exact ⟨_, _, S1, S2, T1, eW _ (e0.trans (th_XAS_X S1)), e2, g, Or.inr ⟨0, _, rfl, rfl, ti⟩⟩
    | 1, hi, ti =>
      have hi : some eA = some e := hi
      cases hi
      exact ⟨_, _, S1, S2, T1, eW _ (e0.trans (th_XAS_A S1)), e2, g, Or.inr ⟨1, _, rfl, rfl, ti⟩⟩
    | 2, hi, ti =>
      have hi : some eS = some e := hi
      cases hi
      exact ⟨_, _, S1, S2, T1, eW _ (e0.trans (th_XAS_S S1)), e2, g, Or.inr ⟨2, _, rfl, rfl, ti⟩⟩
    | i + 3, hi, _ =>
      have hi : (none : Option String) = some e := hi
      cases hi
theorem tg_stepUp1 {n : Nat} {T : Nat → Nat} {S : AS} {a0 a1 a2 a3 : Int32} (hv : 0 < a2) (hI : IV n T S) (hn : n ≤ 600) (hr : RPF T S) : ∃ c v S1 S2 T1, f_W_fourg S (some 4) (1 : Int32) a0 a1 a2 a3 = some (c, S2) ∧ f_M_stepUp S1 (some 57) a0 a1 (1 : Int32) a3 = some (v, S2) ∧ PKg n T kw_K67 kw_M47 S S1 T1 S2 ∧ ANc [-1001, -1002, -1003] c v (sI S2 57 82) := by
  obtain ⟨r, S1, v, S2, T1, e1, e2, g, an⟩ := pk_stepUp (a0 := a0) (a1 := a1) (a2 := 1) (a3 := a3) hI hn hr
  have k4 := tg_k4 hI.1
  have eg : gm S1 S2 = S2 := g.2.2.1.symm
  have eM : gg_W_four S1 (1 : Int32) a0 a1 a2 a3 = S2 := by
    unfold gg_W_four
    rw [if_neg (by decide), if_pos hv, e2]
    exact eg
  have eW : ∀ c, f_W_four S (some 4) (1 : Int32) a0 a1 a2 a3 = some (c, S1) → f_W_fourg S (some 4) (1 : Int32) a0 a1 a2 a3 = some (c, S2) := fun c h => by
    unfold f_W_fourg
    rw [h]
    exact congrArg (fun z => some (c, z)) eM
  have e0 : f_W_four S (some 4) (1 : Int32) a0 a1 a2 a3 = kr_bh (f_K_stepUp S (some 4) a0 a1 (1 : Int32) a3) (fun E S2 => th_XAS E S2) (fun v S2 => some (v, S2)) := by
    unfold f_W_four f_W_four_B30
    rw [if_neg (by decide), if_neg (Int32.not_le.mpr hv), k4]
    rfl
  rw [e1] at e0
  rcases an with ⟨w, rfl, t0, rfl⟩ | ⟨i, e, hi, rfl, ti⟩
  · exact ⟨_, _, S1, S2, T1, eW _ e0, e2, g, Or.inl ⟨rfl, t0⟩⟩
  · match i, hi, ti with
    | 0, hi, ti =>
      have hi : some eX = some e := hi
      cases hi
      exact ⟨_, _, S1, S2, T1, eW _ (e0.trans (th_XAS_X S1)), e2, g, Or.inr ⟨0, _, rfl, rfl, ti⟩⟩
    | 1, hi, ti =>
      have hi : some eA = some e := hi
      cases hi
      exact ⟨_, _, S1, S2, T1, eW _ (e0.trans (th_XAS_A S1)), e2, g, Or.inr ⟨1, _, rfl, rfl, ti⟩⟩
    | 2, hi, ti =>
      have hi : some eS = some e := hi
      cases hi
      exact ⟨_, _, S1, S2, T1, eW _ (e0.trans (th_XAS_S S1)), e2, g, Or.inr ⟨2, _, rfl, rfl, ti⟩⟩
    | i + 3, hi, _ =>
      have hi : (none : Option String) = some e := hi
      cases hi
theorem tg_isLive {n : Nat} {T : Nat → Nat} {S : AS} {a0 : Int32} (hI : IV n T S) (hn : n ≤ 600) (hr : RPF T S) : ∃ c v S1 S2 T1, f_W_isg S (some 4) (0 : Int32) a0 = some (c, S2) ∧ f_M_isLive S1 (some 57) a0 = some (v, S2) ∧ PKg n T [] kw_M4 S S1 T1 S2 ∧ ANc [-1001] c (if v = 0 then 0 else 1) (sI S2 57 82) := by
  obtain ⟨r, S1, v, S2, T1, e1, e2, g, an⟩ := pk_isLive (a0 := a0) hI hn hr
  have k4 := tg_k4 hI.1
  have eg : gm S1 S2 = S2 := g.2.2.1.symm
  have eM : gg_W_is S1 (0 : Int32) a0 = S2 := by
    unfold gg_W_is
    rw [if_pos rfl, e2]
    exact eg
  have eW : ∀ c, f_W_is S (some 4) (0 : Int32) a0 = some (c, S1) → f_W_isg S (some 4) (0 : Int32) a0 = some (c, S2) := fun c h => by
    unfold f_W_isg
    rw [h]
    exact congrArg (fun z => some (c, z)) eM
  have e0 : f_W_is S (some 4) (0 : Int32) a0 = kr_bh (f_K_isLive S (some 4) a0) (fun E S2 => th_X E S2) (fun v S2 => if v = 0 then some ((0 : Int32), S2) else some ((1 : Int32), S2)) := by
    unfold f_W_is f_W_is_B71
    rw [if_pos rfl, k4]
    rfl
  rw [e1] at e0
  rcases an with ⟨w, rfl, t0, rfl⟩ | ⟨i, e, hi, rfl, ti⟩
  · refine ⟨_, _, S1, S2, T1, eW (if w = 0 then 0 else 1) (e0.trans ?_), e2, g, Or.inl ⟨rfl, t0⟩⟩
    show (if w = 0 then some ((0 : Int32), S1) else some ((1 : Int32), S1)) = _
    split <;> rfl
  · match i, hi, ti with
    | 0, hi, ti =>
      have hi : some eX = some e := hi
      cases hi
      exact ⟨_, _, S1, S2, T1, eW _ (e0.trans (th_X_X S1)), e2, g, Or.inr ⟨0, _, rfl, rfl, ti⟩⟩
    | i + 1, hi, _ =>
      have hi : (none : Option String) = some e := hi
      cases hi
theorem tg_isLiveByAudit {n : Nat} {T : Nat → Nat} {S : AS} {a0 : Int32} (hI : IV n T S) (hn : n ≤ 600) (hr : RPF T S) : ∃ c v S1 S2 T1, f_W_isg S (some 4) (1 : Int32) a0 = some (c, S2) ∧ f_M_isLiveByAudit S1 (some 57) a0 = some (v, S2) ∧ PKg n T [] kw_M4 S S1 T1 S2 ∧ ANc [-1001] c (if v = 0 then 0 else 1) (sI S2 57 82) := by
  obtain ⟨r, S1, v, S2, T1, e1, e2, g, an⟩ := pk_isLiveByAudit (a0 := a0) hI hn hr
  have k4 := tg_k4 hI.1
  have eg : gm S1 S2 = S2 := g.2.2.1.symm
  have eM : gg_W_is S1 (1 : Int32) a0 = S2 := by
    unfold gg_W_is
    rw [if_neg (by decide), if_pos rfl, e2]
    exact eg
  have eW : ∀ c, f_W_is S (some 4) (1 : Int32) a0 = some (c, S1) → f_W_isg S (some 4) (1 : Int32) a0 = some (c, S2) := fun c h => by
    unfold f_W_isg
    rw [h]
    exact congrArg (fun z => some (c, z)) eM
  have e0 : f_W_is S (some 4) (1 : Int32) a0 = kr_bh (f_K_isLiveByAudit S (some 4) a0) (fun E S2 => th_X E S2) (fun v S2 => if v = 0 then some ((0 : Int32), S2) else some ((1 : Int32), S2)) := by
    unfold f_W_is f_W_is_B71
    rw [if_neg (by decide), if_pos rfl, k4]
    rfl
  rw [e1] at e0
  rcases an with ⟨w, rfl, t0, rfl⟩ | ⟨i, e, hi, rfl, ti⟩
  · refine ⟨_, _, S1, S2, T1, eW (if w = 0 then 0 else 1) (e0.trans ?_), e2, g, Or.inl ⟨rfl, t0⟩⟩
    show (if w = 0 then some ((0 : Int32), S1) else some ((1 : Int32), S1)) = _
    split <;> rfl
  · match i, hi, ti with
    | 0, hi, ti =>
      have hi : some eX = some e := hi
      cases hi
      exact ⟨_, _, S1, S2, T1, eW _ (e0.trans (th_X_X S1)), e2, g, Or.inr ⟨0, _, rfl, rfl, ti⟩⟩
    | i + 1, hi, _ =>
      have hi : (none : Option String) = some e := hi
      cases hi
theorem tg_isGood {n : Nat} {T : Nat → Nat} {S : AS} {a0 : Int32} (hI : IV n T S) (hn : n ≤ 600) (hr : RPF T S) : ∃ c v S1 S2 T1, f_W_isg S (some 4) (2 : Int32) a0 = some (c, S2) ∧ f_M_isGood S1 (some 57) a0 = some (v, S2) ∧ PKg n T [] kw_M4 S S1 T1 S2 ∧ ANc [-1001] c (if v = 0 then 0 else 1) (sI S2 57 82) := by
  obtain ⟨r, S1, v, S2, T1, e1, e2, g, an⟩ := pk_isGood (a0 := a0) hI hn hr
  have k4 := tg_k4 hI.1
  have eg : gm S1 S2 = S2 := g.2.2.1.symm
  have eM : gg_W_is S1 (2 : Int32) a0 = S2 := by
    unfold gg_W_is
    rw [if_neg (by decide), if_neg (by decide), if_pos rfl, e2]
    exact eg
  have eW : ∀ c, f_W_is S (some 4) (2 : Int32) a0 = some (c, S1) → f_W_isg S (some 4) (2 : Int32) a0 = some (c, S2) := fun c h => by
    unfold f_W_isg
    rw [h]
    exact congrArg (fun z => some (c, z)) eM
  have e0 : f_W_is S (some 4) (2 : Int32) a0 = kr_bh (f_K_isGood S (some 4) a0) (fun E S2 => th_X E S2) (fun v S2 => if v = 0 then some ((0 : Int32), S2) else some ((1 : Int32), S2)) := by
    unfold f_W_is f_W_is_B71
    rw [if_neg (by decide), if_neg (by decide), if_pos rfl, k4]
    rfl
  rw [e1] at e0
  rcases an with ⟨w, rfl, t0, rfl⟩ | ⟨i, e, hi, rfl, ti⟩
  · refine ⟨_, _, S1, S2, T1, eW (if w = 0 then 0 else 1) (e0.trans ?_), e2, g, Or.inl ⟨rfl, t0⟩⟩
    show (if w = 0 then some ((0 : Int32), S1) else some ((1 : Int32), S1)) = _
    split <;> rfl
  · match i, hi, ti with
    | 0, hi, ti =>
      have hi : some eX = some e := hi
      cases hi
      exact ⟨_, _, S1, S2, T1, eW _ (e0.trans (th_X_X S1)), e2, g, Or.inr ⟨0, _, rfl, rfl, ti⟩⟩
    | i + 1, hi, _ =>
      have hi : (none : Option String) = some e := hi
      cases hi
theorem tg_isPublished {n : Nat} {T : Nat → Nat} {S : AS} {a0 : Int32} (hI : IV n T S) (hn : n ≤ 600) (hr : RPF T S) : ∃ c v S1 S2 T1, f_W_isg S (some 4) (3 : Int32) a0 = some (c, S2) ∧ f_M_isPublished S1 (some 57) a0 = some (v, S2) ∧ PKg n T [] kw_M4 S S1 T1 S2 ∧ ANc [-1001] c (if v = 0 then 0 else 1) (sI S2 57 82) := by
  obtain ⟨r, S1, v, S2, T1, e1, e2, g, an⟩ := pk_isPublished (a0 := a0) hI hn hr
  have k4 := tg_k4 hI.1
  have eg : gm S1 S2 = S2 := g.2.2.1.symm
  have eM : gg_W_is S1 (3 : Int32) a0 = S2 := by
    unfold gg_W_is
    rw [if_neg (by decide), if_neg (by decide), if_neg (by decide), if_pos rfl, e2]
    exact eg
  have eW : ∀ c, f_W_is S (some 4) (3 : Int32) a0 = some (c, S1) → f_W_isg S (some 4) (3 : Int32) a0 = some (c, S2) := fun c h => by
    unfold f_W_isg
    rw [h]
    exact congrArg (fun z => some (c, z)) eM
  have e0 : f_W_is S (some 4) (3 : Int32) a0 = kr_bh (f_K_isPublished S (some 4) a0) (fun E S2 => th_X E S2) (fun v S2 => if v = 0 then some ((0 : Int32), S2) else some ((1 : Int32), S2)) := by
    unfold f_W_is f_W_is_B71
    rw [if_neg (by decide), if_neg (by decide), if_neg (by decide), if_pos rfl, k4]
    rfl
  rw [e1] at e0
  rcases an with ⟨w, rfl, t0, rfl⟩ | ⟨i, e, hi, rfl, ti⟩
  · refine ⟨_, _, S1, S2, T1, eW (if w = 0 then 0 else 1) (e0.trans ?_), e2, g, Or.inl ⟨rfl, t0⟩⟩
    show (if w = 0 then some ((0 : Int32), S1) else some ((1 : Int32), S1)) = _
    split <;> rfl
  · match i, hi, ti with
    | 0, hi, ti =>
      have hi : some eX = some e := hi
      cases hi
      exact ⟨_, _, S1, S2, T1, eW _ (e0.trans (th_X_X S1)), e2, g, Or.inr ⟨0, _, rfl, rfl, ti⟩⟩
    | i + 1, hi, _ =>
      have hi : (none : Option String) = some e := hi
      cases hi
theorem tg_helper {n : Nat} {T : Nat → Nat} {S : AS} {a0 : Int32} (hI : IV n T S) (hn : n ≤ 600) (hr : RPF T S) : ∃ c v S1 S2 T1, f_W_isg S (some 4) (4 : Int32) a0 = some (c, S2) ∧ f_M_helper S1 (some 57) a0 = some (v, S2) ∧ PKg n T kw_K68 kw_M49 S S1 T1 S2 ∧ ANc [-1001] c (if v = 0 then 0 else 1) (sI S2 57 82) := by
  obtain ⟨r, S1, v, S2, T1, e1, e2, g, an⟩ := pk_helper (a0 := a0) hI hn hr
  have k4 := tg_k4 hI.1
  have eg : gm S1 S2 = S2 := g.2.2.1.symm
  have eM : gg_W_is S1 (4 : Int32) a0 = S2 := by
    unfold gg_W_is
    rw [if_neg (by decide), if_neg (by decide), if_neg (by decide), if_neg (by decide), e2]
    exact eg
  have eW : ∀ c, f_W_is S (some 4) (4 : Int32) a0 = some (c, S1) → f_W_isg S (some 4) (4 : Int32) a0 = some (c, S2) := fun c h => by
    unfold f_W_isg
    rw [h]
    exact congrArg (fun z => some (c, z)) eM
  have e0 : f_W_is S (some 4) (4 : Int32) a0 = kr_bh (f_K_helper S (some 4) a0) (fun E S2 => th_X E S2) (fun v S2 => if v = 0 then some ((0 : Int32), S2) else some ((1 : Int32), S2)) := by
    unfold f_W_is f_W_is_B71
    rw [if_neg (by decide), if_neg (by decide), if_neg (by decide), if_neg (by decide), k4]
    rfl
  rw [e1] at e0
  rcases an with ⟨w, rfl, t0, rfl⟩ | ⟨i, e, hi, rfl, ti⟩
  · refine ⟨_, _, S1, S2, T1, eW (if w = 0 then 0 else 1) (e0.trans ?_), e2, g, Or.inl ⟨rfl, t0⟩⟩
    show (if w = 0 then some ((0 : Int32), S1) else some ((1 : Int32), S1)) = _
    split <;> rfl
  · match i, hi, ti with
    | 0, hi, ti =>
      have hi : some eX = some e := hi
      cases hi
      exact ⟨_, _, S1, S2, T1, eW _ (e0.trans (th_X_X S1)), e2, g, Or.inr ⟨0, _, rfl, rfl, ti⟩⟩
    | i + 1, hi, _ =>
      have hi : (none : Option String) = some e := hi
      cases hi
