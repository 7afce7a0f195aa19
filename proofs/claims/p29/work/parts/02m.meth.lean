/-! ===== a method: its class, code, locals, answer's type, handlers, name ===== -/
abbrev MM : Type := String × ByteArray × Nat × Option FieldType × List (Nat × Nat × Nat × Nat) × String × String × Option ((Nat → Int32) × Nat)
def mO (M : MM) : String := M.1
abbrev mC (M : MM) : ByteArray := M.2.1
def mL (M : MM) : Nat := M.2.2.1
def mR (M : MM) : Option FieldType := M.2.2.2.1
def mH (M : MM) : List (Nat × Nat × Nat × Nat) := M.2.2.2.2.1
def mN (M : MM) : String := M.2.2.2.2.2.1
def mD (M : MM) : String := M.2.2.2.2.2.2.1
/-- the script, where the method reads it -/
def mX (M : MM) : Option ((Nat → Int32) × Nat) := M.2.2.2.2.2.2.2
def mY (M : MM) : MethodName := ⟨mO M, mN M, mD M⟩
