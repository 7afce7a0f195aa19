/-! ===== the relation: points, persons' helpers, what services need, links ===== -/
def RP (T : Nat → Nat) (S : AS) : Prop := RP9 S ∧ RP23 T S ∧ RP27 T S ∧ RP46 S
def kr_rc : List Nat := kr_rc9 ++ (kr_rc23 ++ (kr_rc27 ++ kr_rc46))
theorem RP_fr {T T' : Nat → Nat} {w : List Nat} {S S' : AS} {c s : Nat} (h : RP T S) (hR : Rl T w S c s T' S') (hw : kr_rc.all (fun z => !w.contains z) = true) : RP T' S' := by
  unfold kr_rc at hw
  rw [List.all_append, List.all_append, List.all_append, Bool.and_eq_true, Bool.and_eq_true, Bool.and_eq_true] at hw
  exact ⟨RP9_fr h.1 hR hw.1, RP23_fr h.2.1 hR hw.2.1, RP27_fr h.2.2.1 hR hw.2.2.1, RP46_fr h.2.2.2 hR hw.2.2.2⟩
theorem z_RP : RP kr_T0 kr_Z := ⟨z_RP9, z_RP23, z_RP27, z_RP46⟩
