/-! ===== the relation of the part: the full one ===== -/
def RP (T : Nat → Nat) (S : AS) : Prop := RPF T S
theorem z_RP : RP kr_T0 kr_Z := z_RPF
def kr_rc : List Nat := kr_rcF
theorem RP_fr {T T' : Nat → Nat} {w : List Nat} {S S' : AS} {c s : Nat} (h : RP T S) (hT : TI T S) (hR : Rl T w S c s T' S') (hw : kr_rc.all (fun z => !w.contains z) = true) : RP T' S' := RPF_fr h hT hR hw
