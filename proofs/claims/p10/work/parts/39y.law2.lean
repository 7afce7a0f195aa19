/-! ===== between two calls ===== -/
def kr_cM : Nat := 601024
def kr_sM : Nat := 7293034
def LW (n : Nat) (S : AS) : Prop := ∃ T, IV n T S ∧ Tx T 1 (some 4) ∧ Tx T 100 (some 57) ∧ Tx T 50 (some 126) ∧ RP T S
theorem LW_M {n : Nat} {T T1 : Nat → Nat} {w w2 : List Nat} {S S1 S2 : AS} (h : IV n T S) (t1 : Tx T 1 (some 4)) (t2 : Tx T 100 (some 57)) (t3 : Tx T 50 (some 126)) (hR : Rl T (99999 :: w) S 10 700 T1 S1) (hP : Ph S1 ≤ 241 + (n : Int)) (hF : FT S1) (g : Rl T1 w2 S1 1 0 T1 S2) (hM : MI S2) (hr : RP T1 S2) (hw : ¬ 2402 ∈ w2) : LW (n + 1) S2 :=
  ⟨T1, IV_M h hR hP hF g hM hw, t1.up hR.ty, t2.up hR.ty, t3.up hR.ty, hr⟩
theorem LW_up {n : Nat} {S : AS} (h : LW n S) : LW (n + 1) S := by
  obtain ⟨T, ⟨a, b, c, d, e, f⟩, t⟩ := h
  exact ⟨T, ⟨a, b, by omega, d, by omega, by omega⟩, t⟩
theorem z_LW : LW 0 kr_Z := ⟨kr_T0, z_IV, ⟨4, rfl, rfl, by decide⟩, ⟨57, rfl, rfl, by decide⟩, ⟨126, rfl, rfl, by decide⟩, z_RP⟩
