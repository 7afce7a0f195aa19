/-! ===== the two fresh objects ===== -/
def kr_Y1 : Option AS := f_K_init (nO kr_S0 22) (some 4)
theorem kr_ya : kr_Y1.isSome = true := by decide +kernel
def kr_Z1 : AS := kr_Y1.get kr_ya
def kr_Y2 : Option AS := f_M_init (nO kr_Z1 23) (some 57)
theorem kr_yb : kr_Y2.isSome = true := by decide +kernel
def kr_Z2 : AS := kr_Y2.get kr_yb
def kr_Y3 : Option AS := nA kr_Z2 42 (1 : Int32)
theorem kr_yc : kr_Y3.isSome = true := by decide +kernel
def kr_Z : AS := kr_Y3.get kr_yc
theorem kr_n1 : sN kr_Z1 = 57 := by decide +kernel
theorem kr_n2 : sN kr_Z2 = 126 := by decide +kernel
theorem kr_zc : sC kr_Z = 123 ∧ sS kr_Z = 10526 := by decide +kernel
theorem kr_start (X : Nat → Int32) (L : Nat) : f_W_law X L kr_S0 = f_W_law_L23 X L kr_FU kr_Z (some 4) (some 57) (some 126) (0 : Int32) := by
  have e1 : f_K_init (nO kr_S0 22) (some (sN kr_S0)) = some kr_Z1 := (Option.some_get kr_ya).symm
  have e2 : f_M_init (nO kr_Z1 23) (some (sN kr_Z1)) = some kr_Z2 := by rw [kr_n1]; exact (Option.some_get kr_yb).symm
  have e3 : nA kr_Z2 42 (1 : Int32) = some kr_Z := (Option.some_get kr_yc).symm
  unfold f_W_law
  rw [Option.bind_some, e1, Option.bind_some, Option.bind_some, e2, Option.bind_some, e3, Option.bind_some, kr_n1, kr_n2]
  rfl
