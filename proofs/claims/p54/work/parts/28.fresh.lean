/-! ===== the fresh object; the reference's one beside it, as a ghost; the law's rows ===== -/
def kr_Y1 : Option AS := f_K_init (nO kr_S0 22) (some 4)
theorem kr_ya : kr_Y1.isSome = true := by decide +kernel
def kr_Z1 : AS := kr_Y1.get kr_ya
def kr_Y2 : Option AS := f_M_init (nO kr_Z1 39) (some 57)
theorem kr_yb : kr_Y2.isSome = true := by decide +kernel
def kr_Z2 : AS := kr_Y2.get kr_yb
def kr_Y3 : Option AS := nA kr_Z2 48 (1 : Int32)
theorem kr_yc : kr_Y3.isSome = true := by decide +kernel
/-- the class's cells are the run's, the others stand beside: none of the room is theirs -/
def kr_gh (S S2 : AS) : AS := (sN S2, sK S2, sL S2, sI S2, sR S2, sJ S2, sC S, sS S)
def kr_Z3 : AS := kr_gh kr_Z1 (kr_Y3.get kr_yc)
def kr_rows (S : AS) : List Int32 → Option AS
  | [] => some S
  | n :: l => (nA S 40 n).bind fun S1 => kr_rows S1 l
def kr_Y4 : Option AS := kr_rows kr_Z3 [14, 35, 36, 60, 20, 30, 60, 45, 60, 50, 60, 20, 16, 20]
theorem kr_yd : kr_Y4.isSome = true := by decide +kernel
def kr_Z : AS := kr_Y4.get kr_yd
theorem kr_n1 : sN kr_Z1 = 57 := by decide +kernel
theorem kr_n2 : sN kr_Z3 = 127 := by decide +kernel
theorem kr_n3 : sN kr_Z = 141 := by decide +kernel
theorem kr_zc : sC kr_Z ≤ 123 ∧ sS kr_Z ≤ 10526 := by decide +kernel
