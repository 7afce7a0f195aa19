/-! ===== the classes: name, fields, types, in this order ===== -/
def kr_cC : Nat → String := fun c => match c with
  | 0 => "java/util/ArrayList"
  | 1 => "KeyringCourt$Attempt"
  | 2 => "KeyringCourt$Audit"
  | 3 => "KeyringCourt$Flow"
  | 4 => "KeyringCourt$Grant"
  | 5 => "KeyringCourt$Keyring"
  | 6 => "KeyringCourt$Person"
  | 7 => "KeyringCourt$Recovery"
  | 8 => "KeyringCourt$Service"
  | 9 => "KeyringCourt$Session"
  | 10 => "KeyringCourt$Shown"
  | 11 => "KeyringCourt$Token"
  | 12 => "KeyringCourt"
  | _ => "KeyringCourtModel"
def kr_f0 : u_T := fun k => match k with
  | 0 => ("java/util/AbstractList", "modCount", "I", false)
  | 1 => ("java/util/ArrayList", "elementData", "[Ljava/lang/Object;", false)
  | _ => ("java/util/ArrayList", "size", "I", false)
def kr_y0 : Nat → FieldType := fun k => match k with
  | 0 => .int
  | 1 => .array (.object "java/lang/Object")
  | _ => .int
def kr_f1 : u_T := fun k => match k with
  | 0 => ("KeyringCourt$Attempt", "person", "LKeyringCourt$Person;", true)
  | 1 => ("KeyringCourt$Attempt", "device", "I", true)
  | 2 => ("KeyringCourt$Attempt", "place", "I", true)
  | 3 => ("KeyringCourt$Attempt", "flow", "LKeyringCourt$Flow;", true)
  | 4 => ("KeyringCourt$Attempt", "shown", "LKeyringCourt$Shown;", true)
  | 5 => ("KeyringCourt$Attempt", "state", "I", false)
  | 6 => ("KeyringCourt$Attempt", "step", "I", false)
  | 7 => ("KeyringCourt$Attempt", "wrongs", "I", false)
  | 8 => ("KeyringCourt$Attempt", "answers", "I", false)
  | _ => ("KeyringCourt$Attempt", "session", "I", false)
def kr_y1 : Nat → FieldType := fun k => match k with
  | 0 => .object "KeyringCourt$Person"
  | 1 => .int
  | 2 => .int
  | 3 => .object "KeyringCourt$Flow"
  | 4 => .object "KeyringCourt$Shown"
  | 5 => .int
  | 6 => .int
  | 7 => .int
  | 8 => .int
  | _ => .int
def kr_f2 : u_T := fun k => match k with
  | 0 => ("KeyringCourt$Audit", "entries", "[I", true)
  | 1 => ("KeyringCourt$Audit", "minutes", "[I", true)
  | 2 => ("KeyringCourt$Audit", "count", "I", false)
  | _ => ("KeyringCourt$Audit", "total", "I", false)
def kr_y2 : Nat → FieldType := fun k => match k with
  | 0 => .array .int
  | 1 => .array .int
  | 2 => .int
  | _ => .int
def kr_f3 : u_T := fun k => match k with
  | 0 => ("KeyringCourt$Flow", "kinds", "[I", true)
  | 1 => ("KeyringCourt$Flow", "firsts", "[I", true)
  | 2 => ("KeyringCourt$Flow", "seconds", "[I", true)
  | 3 => ("KeyringCourt$Flow", "yeses", "[I", true)
  | 4 => ("KeyringCourt$Flow", "noes", "[I", true)
  | _ => ("KeyringCourt$Flow", "count", "I", false)
def kr_y3 : Nat → FieldType := fun k => match k with
  | 0 => .array .int
  | 1 => .array .int
  | 2 => .array .int
  | 3 => .array .int
  | 4 => .array .int
  | _ => .int
def kr_f4 : u_T := fun k => match k with
  | 0 => ("KeyringCourt$Grant", "session", "LKeyringCourt$Session;", true)
  | 1 => ("KeyringCourt$Grant", "client", "I", true)
  | 2 => ("KeyringCourt$Grant", "audience", "I", true)
  | 3 => ("KeyringCourt$Grant", "scopes", "I", true)
  | 4 => ("KeyringCourt$Grant", "made", "I", true)
  | 5 => ("KeyringCourt$Grant", "family", "I", false)
  | 6 => ("KeyringCourt$Grant", "isGood", "Z", false)
  | 7 => ("KeyringCourt$Grant", "number", "I", false)
  | 8 => ("KeyringCourt$Grant", "rotated", "I", false)
  | 9 => ("KeyringCourt$Grant", "latestToken", "I", false)
  | 10 => ("KeyringCourt$Grant", "audiences", "I", false)
  | _ => ("KeyringCourt$Grant", "toldServices", "I", false)
def kr_y4 : Nat → FieldType := fun k => match k with
  | 0 => .object "KeyringCourt$Session"
  | 1 => .int
  | 2 => .int
  | 3 => .int
  | 4 => .int
  | 5 => .int
  | 6 => .boolean
  | 7 => .int
  | 8 => .int
  | 9 => .int
  | 10 => .int
  | _ => .int
def kr_f5 : u_T := fun k => match k with
  | 0 => ("KeyringCourt$Keyring", "count", "I", false)
  | 1 => ("KeyringCourt$Keyring", "signer", "I", false)
  | 2 => ("KeyringCourt$Keyring", "waiting", "I", false)
  | 3 => ("KeyringCourt$Keyring", "signsFrom", "I", false)
  | 4 => ("KeyringCourt$Keyring", "published", "I", false)
  | _ => ("KeyringCourt$Keyring", "retiredFrom", "[I", true)
def kr_y5 : Nat → FieldType := fun k => match k with
  | 0 => .int
  | 1 => .int
  | 2 => .int
  | 3 => .int
  | 4 => .int
  | _ => .array .int
def kr_f6 : u_T := fun k => match k with
  | 0 => ("KeyringCourt$Person", "number", "I", true)
  | 1 => ("KeyringCourt$Person", "states", "[I", true)
  | 2 => ("KeyringCourt$Person", "wrongsInRow", "[I", true)
  | 3 => ("KeyringCourt$Person", "stickCounter", "I", false)
  | 4 => ("KeyringCourt$Person", "lastWrong", "I", false)
  | 5 => ("KeyringCourt$Person", "secondLastWrong", "I", false)
  | 6 => ("KeyringCourt$Person", "thirdLastWrong", "I", false)
  | 7 => ("KeyringCourt$Person", "knownDevices", "I", false)
  | 8 => ("KeyringCourt$Person", "knownPlaces", "I", false)
  | 9 => ("KeyringCourt$Person", "consents", "[I", true)
  | 10 => ("KeyringCourt$Person", "isHelper", "Z", false)
  | _ => ("KeyringCourt$Person", "isAway", "Z", false)
def kr_y6 : Nat → FieldType := fun k => match k with
  | 0 => .int
  | 1 => .array .int
  | 2 => .array .int
  | 3 => .int
  | 4 => .int
  | 5 => .int
  | 6 => .int
  | 7 => .int
  | 8 => .int
  | 9 => .array .int
  | 10 => .boolean
  | _ => .boolean
def kr_f7 : u_T := fun k => match k with
  | 0 => ("KeyringCourt$Recovery", "person", "LKeyringCourt$Person;", true)
  | 1 => ("KeyringCourt$Recovery", "began", "I", true)
  | 2 => ("KeyringCourt$Recovery", "isOpen", "Z", false)
  | 3 => ("KeyringCourt$Recovery", "vouchers", "I", false)
  | _ => ("KeyringCourt$Recovery", "levels", "I", false)
def kr_y7 : Nat → FieldType := fun k => match k with
  | 0 => .object "KeyringCourt$Person"
  | 1 => .int
  | 2 => .boolean
  | 3 => .int
  | _ => .int
def kr_f8 : u_T := fun k => match k with
  | 0 => ("KeyringCourt$Service", "neededLevel", "I", false)
  | 1 => ("KeyringCourt$Service", "isUp", "Z", false)
  | 2 => ("KeyringCourt$Service", "cachedKeys", "I", false)
  | _ => ("KeyringCourt$Service", "fetched", "I", false)
def kr_y8 : Nat → FieldType := fun k => match k with
  | 0 => .int
  | 1 => .boolean
  | 2 => .int
  | _ => .int
def kr_f9 : u_T := fun k => match k with
  | 0 => ("KeyringCourt$Session", "number", "I", true)
  | 1 => ("KeyringCourt$Session", "person", "LKeyringCourt$Person;", true)
  | 2 => ("KeyringCourt$Session", "owner", "LKeyringCourt$Session;", true)
  | 3 => ("KeyringCourt$Session", "shown", "LKeyringCourt$Shown;", true)
  | 4 => ("KeyringCourt$Session", "began", "I", true)
  | 5 => ("KeyringCourt$Session", "used", "I", false)
  | _ => ("KeyringCourt$Session", "isLive", "Z", false)
def kr_y9 : Nat → FieldType := fun k => match k with
  | 0 => .int
  | 1 => .object "KeyringCourt$Person"
  | 2 => .object "KeyringCourt$Session"
  | 3 => .object "KeyringCourt$Shown"
  | 4 => .int
  | 5 => .int
  | _ => .boolean
def kr_f10 : u_T := fun k => match k with
  | _ => ("KeyringCourt$Shown", "minutes", "[I", true)
def kr_y10 : Nat → FieldType := fun k => match k with
  | _ => .array .int
def kr_f11 : u_T := fun k => match k with
  | 0 => ("KeyringCourt$Token", "family", "LKeyringCourt$Grant;", true)
  | 1 => ("KeyringCourt$Token", "client", "I", true)
  | 2 => ("KeyringCourt$Token", "audience", "I", true)
  | 3 => ("KeyringCourt$Token", "scopes", "I", true)
  | 4 => ("KeyringCourt$Token", "acted", "I", true)
  | 5 => ("KeyringCourt$Token", "key", "I", true)
  | _ => ("KeyringCourt$Token", "lastMinute", "I", true)
def kr_y11 : Nat → FieldType := fun k => match k with
  | 0 => .object "KeyringCourt$Grant"
  | 1 => .int
  | 2 => .int
  | 3 => .int
  | 4 => .int
  | 5 => .int
  | _ => .int
def kr_f12 : u_T := fun k => match k with
  | 0 => ("KeyringCourt", "now", "I", false)
  | 1 => ("KeyringCourt", "audit", "LKeyringCourt$Audit;", true)
  | 2 => ("KeyringCourt", "people", "[LKeyringCourt$Person;", true)
  | 3 => ("KeyringCourt", "heldPoints", "[I", true)
  | 4 => ("KeyringCourt", "trialPoints", "[I", true)
  | 5 => ("KeyringCourt", "draft", "LKeyringCourt$Flow;", false)
  | 6 => ("KeyringCourt", "versions", "Ljava/util/ArrayList;", true)
  | 7 => ("KeyringCourt", "attempts", "Ljava/util/ArrayList;", true)
  | 8 => ("KeyringCourt", "sessions", "Ljava/util/ArrayList;", true)
  | 9 => ("KeyringCourt", "liveSessions", "I", false)
  | 10 => ("KeyringCourt", "consentsOfAll", "[I", true)
  | 11 => ("KeyringCourt", "services", "[LKeyringCourt$Service;", true)
  | 12 => ("KeyringCourt", "codes", "Ljava/util/ArrayList;", true)
  | 13 => ("KeyringCourt", "families", "Ljava/util/ArrayList;", true)
  | 14 => ("KeyringCourt", "tokens", "Ljava/util/ArrayList;", true)
  | 15 => ("KeyringCourt", "keyring", "LKeyringCourt$Keyring;", true)
  | 16 => ("KeyringCourt", "recoveries", "Ljava/util/ArrayList;", true)
  | _ => ("KeyringCourt", "links", "[I", true)
def kr_y12 : Nat → FieldType := fun k => match k with
  | 0 => .int
  | 1 => .object "KeyringCourt$Audit"
  | 2 => .array (.object "KeyringCourt$Person")
  | 3 => .array .int
  | 4 => .array .int
  | 5 => .object "KeyringCourt$Flow"
  | 6 => .object "java/util/ArrayList"
  | 7 => .object "java/util/ArrayList"
  | 8 => .object "java/util/ArrayList"
  | 9 => .int
  | 10 => .array .int
  | 11 => .array (.object "KeyringCourt$Service")
  | 12 => .object "java/util/ArrayList"
  | 13 => .object "java/util/ArrayList"
  | 14 => .object "java/util/ArrayList"
  | 15 => .object "KeyringCourt$Keyring"
  | 16 => .object "java/util/ArrayList"
  | _ => .array .int
def kr_f13 : u_T := fun k => match k with
  | 0 => ("KeyringCourtModel", "clock", "I", false)
  | 1 => ("KeyringCourtModel", "factors", "[I", true)
  | 2 => ("KeyringCourtModel", "inRow", "[I", true)
  | 3 => ("KeyringCourtModel", "counter", "[I", true)
  | 4 => ("KeyringCourtModel", "wrongAt", "[I", true)
  | 5 => ("KeyringCourtModel", "knowsDevice", "[Z", true)
  | 6 => ("KeyringCourtModel", "knowsPlace", "[Z", true)
  | 7 => ("KeyringCourtModel", "isAway", "[Z", true)
  | 8 => ("KeyringCourtModel", "isHelper", "[Z", true)
  | 9 => ("KeyringCourtModel", "versions", "I", false)
  | 10 => ("KeyringCourtModel", "steps", "[I", true)
  | 11 => ("KeyringCourtModel", "stepKind", "[I", true)
  | 12 => ("KeyringCourtModel", "stepA", "[I", true)
  | 13 => ("KeyringCourtModel", "stepB", "[I", true)
  | 14 => ("KeyringCourtModel", "stepYes", "[I", true)
  | 15 => ("KeyringCourtModel", "stepNo", "[I", true)
  | 16 => ("KeyringCourtModel", "met", "[Z", true)
  | 17 => ("KeyringCourtModel", "points", "[I", true)
  | 18 => ("KeyringCourtModel", "trial", "[I", true)
  | 19 => ("KeyringCourtModel", "attempts", "I", false)
  | 20 => ("KeyringCourtModel", "aPerson", "[I", true)
  | 21 => ("KeyringCourtModel", "aDevice", "[I", true)
  | 22 => ("KeyringCourtModel", "aPlace", "[I", true)
  | 23 => ("KeyringCourtModel", "aVersion", "[I", true)
  | 24 => ("KeyringCourtModel", "aStep", "[I", true)
  | 25 => ("KeyringCourtModel", "aState", "[I", true)
  | 26 => ("KeyringCourtModel", "aWrong", "[I", true)
  | 27 => ("KeyringCourtModel", "aAnswers", "[I", true)
  | 28 => ("KeyringCourtModel", "aSession", "[I", true)
  | 29 => ("KeyringCourtModel", "aShown", "[I", true)
  | 30 => ("KeyringCourtModel", "sessions", "I", false)
  | 31 => ("KeyringCourtModel", "sPerson", "[I", true)
  | 32 => ("KeyringCourtModel", "sBegan", "[I", true)
  | 33 => ("KeyringCourtModel", "sUsed", "[I", true)
  | 34 => ("KeyringCourtModel", "sOwner", "[I", true)
  | 35 => ("KeyringCourtModel", "sLive", "[Z", true)
  | 36 => ("KeyringCourtModel", "sShown", "[I", true)
  | 37 => ("KeyringCourtModel", "consents", "[I", true)
  | 38 => ("KeyringCourtModel", "needs", "[I", true)
  | 39 => ("KeyringCourtModel", "codes", "I", false)
  | 40 => ("KeyringCourtModel", "cSession", "[I", true)
  | 41 => ("KeyringCourtModel", "cClient", "[I", true)
  | 42 => ("KeyringCourtModel", "cAudience", "[I", true)
  | 43 => ("KeyringCourtModel", "cScopes", "[I", true)
  | 44 => ("KeyringCourtModel", "cMade", "[I", true)
  | 45 => ("KeyringCourtModel", "cFamily", "[I", true)
  | 46 => ("KeyringCourtModel", "families", "I", false)
  | 47 => ("KeyringCourtModel", "fCode", "[I", true)
  | 48 => ("KeyringCourtModel", "fNumber", "[I", true)
  | 49 => ("KeyringCourtModel", "fMinute", "[I", true)
  | 50 => ("KeyringCourtModel", "fToken", "[I", true)
  | 51 => ("KeyringCourtModel", "fGood", "[Z", true)
  | 52 => ("KeyringCourtModel", "tokens", "I", false)
  | 53 => ("KeyringCourtModel", "tClient", "[I", true)
  | 54 => ("KeyringCourtModel", "tAudience", "[I", true)
  | 55 => ("KeyringCourtModel", "tScopes", "[I", true)
  | 56 => ("KeyringCourtModel", "tActed", "[I", true)
  | 57 => ("KeyringCourtModel", "tFamily", "[I", true)
  | 58 => ("KeyringCourtModel", "tKey", "[I", true)
  | 59 => ("KeyringCourtModel", "tLast", "[I", true)
  | 60 => ("KeyringCourtModel", "keys", "I", false)
  | 61 => ("KeyringCourtModel", "signs", "I", false)
  | 62 => ("KeyringCourtModel", "waits", "I", false)
  | 63 => ("KeyringCourtModel", "signsAt", "I", false)
  | 64 => ("KeyringCourtModel", "isOut", "[Z", true)
  | 65 => ("KeyringCourtModel", "retires", "[I", true)
  | 66 => ("KeyringCourtModel", "isDown", "[Z", true)
  | 67 => ("KeyringCourtModel", "cache", "[I", true)
  | 68 => ("KeyringCourtModel", "fetched", "[I", true)
  | 69 => ("KeyringCourtModel", "isTold", "[Z", true)
  | 70 => ("KeyringCourtModel", "recoveries", "I", false)
  | 71 => ("KeyringCourtModel", "rPerson", "[I", true)
  | 72 => ("KeyringCourtModel", "rBegan", "[I", true)
  | 73 => ("KeyringCourtModel", "rOpen", "[Z", true)
  | 74 => ("KeyringCourtModel", "rVouched", "[I", true)
  | 75 => ("KeyringCourtModel", "rLevels", "[I", true)
  | 76 => ("KeyringCourtModel", "linked", "[I", true)
  | 77 => ("KeyringCourtModel", "entries", "I", false)
  | 78 => ("KeyringCourtModel", "eKind", "[I", true)
  | 79 => ("KeyringCourtModel", "eNumber", "[I", true)
  | 80 => ("KeyringCourtModel", "eMinute", "[I", true)
  | 81 => ("KeyringCourtModel", "sum", "I", false)
  | _ => ("KeyringCourtModel", "thrown", "I", false)
def kr_y13 : Nat → FieldType := fun k => match k with
  | 0 => .int
  | 1 => .array .int
  | 2 => .array .int
  | 3 => .array .int
  | 4 => .array .int
  | 5 => .array .boolean
  | 6 => .array .boolean
  | 7 => .array .boolean
  | 8 => .array .boolean
  | 9 => .int
  | 10 => .array .int
  | 11 => .array .int
  | 12 => .array .int
  | 13 => .array .int
  | 14 => .array .int
  | 15 => .array .int
  | 16 => .array .boolean
  | 17 => .array .int
  | 18 => .array .int
  | 19 => .int
  | 20 => .array .int
  | 21 => .array .int
  | 22 => .array .int
  | 23 => .array .int
  | 24 => .array .int
  | 25 => .array .int
  | 26 => .array .int
  | 27 => .array .int
  | 28 => .array .int
  | 29 => .array .int
  | 30 => .int
  | 31 => .array .int
  | 32 => .array .int
  | 33 => .array .int
  | 34 => .array .int
  | 35 => .array .boolean
  | 36 => .array .int
  | 37 => .array .int
  | 38 => .array .int
  | 39 => .int
  | 40 => .array .int
  | 41 => .array .int
  | 42 => .array .int
  | 43 => .array .int
  | 44 => .array .int
  | 45 => .array .int
  | 46 => .int
  | 47 => .array .int
  | 48 => .array .int
  | 49 => .array .int
  | 50 => .array .int
  | 51 => .array .boolean
  | 52 => .int
  | 53 => .array .int
  | 54 => .array .int
  | 55 => .array .int
  | 56 => .array .int
  | 57 => .array .int
  | 58 => .array .int
  | 59 => .array .int
  | 60 => .int
  | 61 => .int
  | 62 => .int
  | 63 => .int
  | 64 => .array .boolean
  | 65 => .array .int
  | 66 => .array .boolean
  | 67 => .array .int
  | 68 => .array .int
  | 69 => .array .boolean
  | 70 => .int
  | 71 => .array .int
  | 72 => .array .int
  | 73 => .array .boolean
  | 74 => .array .int
  | 75 => .array .int
  | 76 => .array .int
  | 77 => .int
  | 78 => .array .int
  | 79 => .array .int
  | 80 => .array .int
  | 81 => .int
  | _ => .int
def kr_cF : Nat → u_T := fun c => match c with
  | 0 => kr_f0
  | 1 => kr_f1
  | 2 => kr_f2
  | 3 => kr_f3
  | 4 => kr_f4
  | 5 => kr_f5
  | 6 => kr_f6
  | 7 => kr_f7
  | 8 => kr_f8
  | 9 => kr_f9
  | 10 => kr_f10
  | 11 => kr_f11
  | 12 => kr_f12
  | _ => kr_f13
def kr_cY : Nat → Nat → FieldType := fun c => match c with
  | 0 => kr_y0
  | 1 => kr_y1
  | 2 => kr_y2
  | 3 => kr_y3
  | 4 => kr_y4
  | 5 => kr_y5
  | 6 => kr_y6
  | 7 => kr_y7
  | 8 => kr_y8
  | 9 => kr_y9
  | 10 => kr_y10
  | 11 => kr_y11
  | 12 => kr_y12
  | _ => kr_y13
def kr_cN : Nat → Nat := fun c => match c with
  | 0 => 3
  | 1 => 10
  | 2 => 4
  | 3 => 6
  | 4 => 12
  | 5 => 6
  | 6 => 12
  | 7 => 5
  | 8 => 4
  | 9 => 7
  | 10 => 1
  | 11 => 7
  | 12 => 18
  | _ => 83
abbrev kr_nC : Nat := 14
def kr_cl : List vw_C := (List.range kr_nC).map (fun c => (kr_cC c, kr_cF c, kr_cN c))
theorem kr_cl_at {c : Nat} (h : c < kr_nC) : kr_cl[c]? = some (kr_cC c, kr_cF c, kr_cN c) := by simp [kr_cl, h]
/-- the tables' words that move with the machine -/
def kr_TB : List Cond := lw_tbl.filter goodWord
theorem kr_in0 : ∀ w ∈ u_ws (kr_cC 0) (kr_cF 0) (kr_cN 0), w ∈ kr_TB := by decide +kernel
theorem kr_nm0 : ∀ a, a < kr_cN 0 → ∀ b, b < kr_cN 0 → a ≠ b → (kr_cF 0 a).2.1 ≠ (kr_cF 0 b).2.1 := by decide +kernel
theorem kr_ty0 : ∀ k, k < kr_cN 0 → parseFieldDescriptor (kr_cF 0 k).2.2.1 = some (kr_cY 0 k) := by decide +kernel
theorem kr_in1 : ∀ w ∈ u_ws (kr_cC 1) (kr_cF 1) (kr_cN 1), w ∈ kr_TB := by decide +kernel
theorem kr_nm1 : ∀ a, a < kr_cN 1 → ∀ b, b < kr_cN 1 → a ≠ b → (kr_cF 1 a).2.1 ≠ (kr_cF 1 b).2.1 := by decide +kernel
theorem kr_ty1 : ∀ k, k < kr_cN 1 → parseFieldDescriptor (kr_cF 1 k).2.2.1 = some (kr_cY 1 k) := by decide +kernel
theorem kr_in2 : ∀ w ∈ u_ws (kr_cC 2) (kr_cF 2) (kr_cN 2), w ∈ kr_TB := by decide +kernel
theorem kr_nm2 : ∀ a, a < kr_cN 2 → ∀ b, b < kr_cN 2 → a ≠ b → (kr_cF 2 a).2.1 ≠ (kr_cF 2 b).2.1 := by decide +kernel
theorem kr_ty2 : ∀ k, k < kr_cN 2 → parseFieldDescriptor (kr_cF 2 k).2.2.1 = some (kr_cY 2 k) := by decide +kernel
theorem kr_in3 : ∀ w ∈ u_ws (kr_cC 3) (kr_cF 3) (kr_cN 3), w ∈ kr_TB := by decide +kernel
theorem kr_nm3 : ∀ a, a < kr_cN 3 → ∀ b, b < kr_cN 3 → a ≠ b → (kr_cF 3 a).2.1 ≠ (kr_cF 3 b).2.1 := by decide +kernel
theorem kr_ty3 : ∀ k, k < kr_cN 3 → parseFieldDescriptor (kr_cF 3 k).2.2.1 = some (kr_cY 3 k) := by decide +kernel
theorem kr_in4 : ∀ w ∈ u_ws (kr_cC 4) (kr_cF 4) (kr_cN 4), w ∈ kr_TB := by decide +kernel
theorem kr_nm4 : ∀ a, a < kr_cN 4 → ∀ b, b < kr_cN 4 → a ≠ b → (kr_cF 4 a).2.1 ≠ (kr_cF 4 b).2.1 := by decide +kernel
theorem kr_ty4 : ∀ k, k < kr_cN 4 → parseFieldDescriptor (kr_cF 4 k).2.2.1 = some (kr_cY 4 k) := by decide +kernel
theorem kr_in5 : ∀ w ∈ u_ws (kr_cC 5) (kr_cF 5) (kr_cN 5), w ∈ kr_TB := by decide +kernel
theorem kr_nm5 : ∀ a, a < kr_cN 5 → ∀ b, b < kr_cN 5 → a ≠ b → (kr_cF 5 a).2.1 ≠ (kr_cF 5 b).2.1 := by decide +kernel
theorem kr_ty5 : ∀ k, k < kr_cN 5 → parseFieldDescriptor (kr_cF 5 k).2.2.1 = some (kr_cY 5 k) := by decide +kernel
theorem kr_in6 : ∀ w ∈ u_ws (kr_cC 6) (kr_cF 6) (kr_cN 6), w ∈ kr_TB := by decide +kernel
theorem kr_nm6 : ∀ a, a < kr_cN 6 → ∀ b, b < kr_cN 6 → a ≠ b → (kr_cF 6 a).2.1 ≠ (kr_cF 6 b).2.1 := by decide +kernel
theorem kr_ty6 : ∀ k, k < kr_cN 6 → parseFieldDescriptor (kr_cF 6 k).2.2.1 = some (kr_cY 6 k) := by decide +kernel
theorem kr_in7 : ∀ w ∈ u_ws (kr_cC 7) (kr_cF 7) (kr_cN 7), w ∈ kr_TB := by decide +kernel
theorem kr_nm7 : ∀ a, a < kr_cN 7 → ∀ b, b < kr_cN 7 → a ≠ b → (kr_cF 7 a).2.1 ≠ (kr_cF 7 b).2.1 := by decide +kernel
theorem kr_ty7 : ∀ k, k < kr_cN 7 → parseFieldDescriptor (kr_cF 7 k).2.2.1 = some (kr_cY 7 k) := by decide +kernel
theorem kr_in8 : ∀ w ∈ u_ws (kr_cC 8) (kr_cF 8) (kr_cN 8), w ∈ kr_TB := by decide +kernel
theorem kr_nm8 : ∀ a, a < kr_cN 8 → ∀ b, b < kr_cN 8 → a ≠ b → (kr_cF 8 a).2.1 ≠ (kr_cF 8 b).2.1 := by decide +kernel
theorem kr_ty8 : ∀ k, k < kr_cN 8 → parseFieldDescriptor (kr_cF 8 k).2.2.1 = some (kr_cY 8 k) := by decide +kernel
theorem kr_in9 : ∀ w ∈ u_ws (kr_cC 9) (kr_cF 9) (kr_cN 9), w ∈ kr_TB := by decide +kernel
theorem kr_nm9 : ∀ a, a < kr_cN 9 → ∀ b, b < kr_cN 9 → a ≠ b → (kr_cF 9 a).2.1 ≠ (kr_cF 9 b).2.1 := by decide +kernel
theorem kr_ty9 : ∀ k, k < kr_cN 9 → parseFieldDescriptor (kr_cF 9 k).2.2.1 = some (kr_cY 9 k) := by decide +kernel
theorem kr_in10 : ∀ w ∈ u_ws (kr_cC 10) (kr_cF 10) (kr_cN 10), w ∈ kr_TB := by decide +kernel
theorem kr_nm10 : ∀ a, a < kr_cN 10 → ∀ b, b < kr_cN 10 → a ≠ b → (kr_cF 10 a).2.1 ≠ (kr_cF 10 b).2.1 := by decide +kernel
theorem kr_ty10 : ∀ k, k < kr_cN 10 → parseFieldDescriptor (kr_cF 10 k).2.2.1 = some (kr_cY 10 k) := by decide +kernel
theorem kr_in11 : ∀ w ∈ u_ws (kr_cC 11) (kr_cF 11) (kr_cN 11), w ∈ kr_TB := by decide +kernel
theorem kr_nm11 : ∀ a, a < kr_cN 11 → ∀ b, b < kr_cN 11 → a ≠ b → (kr_cF 11 a).2.1 ≠ (kr_cF 11 b).2.1 := by decide +kernel
theorem kr_ty11 : ∀ k, k < kr_cN 11 → parseFieldDescriptor (kr_cF 11 k).2.2.1 = some (kr_cY 11 k) := by decide +kernel
theorem kr_in12 : ∀ w ∈ u_ws (kr_cC 12) (kr_cF 12) (kr_cN 12), w ∈ kr_TB := by decide +kernel
theorem kr_nm12 : ∀ a, a < kr_cN 12 → ∀ b, b < kr_cN 12 → a ≠ b → (kr_cF 12 a).2.1 ≠ (kr_cF 12 b).2.1 := by decide +kernel
theorem kr_ty12 : ∀ k, k < kr_cN 12 → parseFieldDescriptor (kr_cF 12 k).2.2.1 = some (kr_cY 12 k) := by decide +kernel
theorem kr_in13 : ∀ w ∈ u_ws (kr_cC 13) (kr_cF 13) (kr_cN 13), w ∈ kr_TB := by decide +kernel
theorem kr_nm13 : ∀ a, a < kr_cN 13 → ∀ b, b < kr_cN 13 → a ≠ b → (kr_cF 13 a).2.1 ≠ (kr_cF 13 b).2.1 := by decide +kernel
theorem kr_ty13 : ∀ k, k < kr_cN 13 → parseFieldDescriptor (kr_cF 13 k).2.2.1 = some (kr_cY 13 k) := by decide +kernel
theorem kr_in : ∀ c, c < kr_nC → ∀ w ∈ u_ws (kr_cC c) (kr_cF c) (kr_cN c), w ∈ kr_TB := by
  intro c hc
  match c, hc with
  | 0, _ => exact kr_in0
  | 1, _ => exact kr_in1
  | 2, _ => exact kr_in2
  | 3, _ => exact kr_in3
  | 4, _ => exact kr_in4
  | 5, _ => exact kr_in5
  | 6, _ => exact kr_in6
  | 7, _ => exact kr_in7
  | 8, _ => exact kr_in8
  | 9, _ => exact kr_in9
  | 10, _ => exact kr_in10
  | 11, _ => exact kr_in11
  | 12, _ => exact kr_in12
  | 13, _ => exact kr_in13
  | n + 14, h => exact absurd (show n + 14 < 14 from h) (by omega)
theorem kr_nm : ∀ c, c < kr_nC → ∀ a, a < kr_cN c → ∀ b, b < kr_cN c → a ≠ b → (kr_cF c a).2.1 ≠ (kr_cF c b).2.1 := by
  intro c hc
  match c, hc with
  | 0, _ => exact kr_nm0
  | 1, _ => exact kr_nm1
  | 2, _ => exact kr_nm2
  | 3, _ => exact kr_nm3
  | 4, _ => exact kr_nm4
  | 5, _ => exact kr_nm5
  | 6, _ => exact kr_nm6
  | 7, _ => exact kr_nm7
  | 8, _ => exact kr_nm8
  | 9, _ => exact kr_nm9
  | 10, _ => exact kr_nm10
  | 11, _ => exact kr_nm11
  | 12, _ => exact kr_nm12
  | 13, _ => exact kr_nm13
  | n + 14, h => exact absurd (show n + 14 < 14 from h) (by omega)
theorem kr_ty : ∀ c, c < kr_nC → ∀ k, k < kr_cN c → parseFieldDescriptor (kr_cF c k).2.2.1 = some (kr_cY c k) := by
  intro c hc
  match c, hc with
  | 0, _ => exact kr_ty0
  | 1, _ => exact kr_ty1
  | 2, _ => exact kr_ty2
  | 3, _ => exact kr_ty3
  | 4, _ => exact kr_ty4
  | 5, _ => exact kr_ty5
  | 6, _ => exact kr_ty6
  | 7, _ => exact kr_ty7
  | 8, _ => exact kr_ty8
  | 9, _ => exact kr_ty9
  | 10, _ => exact kr_ty10
  | 11, _ => exact kr_ty11
  | 12, _ => exact kr_ty12
  | 13, _ => exact kr_ty13
  | n + 14, h => exact absurd (show n + 14 < 14 from h) (by omega)
/-- the words that move in their own way -/
def kr_nb : Cond → Bool
  | .fieldLinkNest .. => true
  | .methodLinkNest .. => true
  | .castable .. => true
  | .declares _ => true
  | _ => false
def kr_NB : List Cond := lw_tbl.filter kr_nb
