/-! KeyringCourtLaw.law([I)Z -/
def f_W_law_B406 (X : Nat → Int32) (L : Nat) (k342 : AS → Option Nat → Option Nat → Option Nat → Option Nat → Option Nat → Option Nat → Option Nat → Option Nat → Option Nat → Option Nat → Option Nat → Option Nat → Option Nat → Option Nat → Option Nat → Int32 → Int32 → Option (Int32 × AS)) (S : AS) (x1 : Option Nat) (x2 : Option Nat) (x3 : Option Nat) (x4 : Option Nat) (x5 : Option Nat) (x6 : Option Nat) (x7 : Option Nat) (x8 : Option Nat) (x9 : Option Nat) (x10 : Option Nat) (x11 : Option Nat) (x12 : Option Nat) (x13 : Option Nat) (x14 : Option Nat) (x15 : Option Nat) (x18 : Int32) (y0 : Int32) : Option (Int32 × AS) :=
  (some (x18 + (1 : Int32))).bind fun i1 =>
  k342 S x1 x2 x3 x4 x5 x6 x7 x8 x9 x10 x11 x12 x13 x14 x15 y0 i1
def f_W_law_B405 (X : Nat → Int32) (L : Nat) (k342 : AS → Option Nat → Option Nat → Option Nat → Option Nat → Option Nat → Option Nat → Option Nat → Option Nat → Option Nat → Option Nat → Option Nat → Option Nat → Option Nat → Option Nat → Option Nat → Int32 → Int32 → Option (Int32 × AS)) (S : AS) (x1 : Option Nat) (x2 : Option Nat) (x3 : Option Nat) (x4 : Option Nat) (x5 : Option Nat) (x6 : Option Nat) (x7 : Option Nat) (x8 : Option Nat) (x9 : Option Nat) (x10 : Option Nat) (x11 : Option Nat) (x12 : Option Nat) (x13 : Option Nat) (x14 : Option Nat) (x15 : Option Nat) (x18 : Int32) : Option (Int32 × AS) :=
  f_W_law_B406 X L k342 S x1 x2 x3 x4 x5 x6 x7 x8 x9 x10 x11 x12 x13 x14 x15 x18 (0 : Int32)
def f_W_law_B1107 (X : Nat → Int32) (L : Nat) (k449 : AS → Option Nat → Option Nat → Option Nat → Option Nat → Option Nat → Option Nat → Option Nat → Option Nat → Option Nat → Option Nat → Option Nat → Option Nat → Option Nat → Option Nat → Option Nat → Int32 → Int32 → Option (Int32 × AS)) (S : AS) (x1 : Option Nat) (x2 : Option Nat) (x3 : Option Nat) (x4 : Option Nat) (x5 : Option Nat) (x6 : Option Nat) (x7 : Option Nat) (x8 : Option Nat) (x9 : Option Nat) (x10 : Option Nat) (x11 : Option Nat) (x12 : Option Nat) (x13 : Option Nat) (x14 : Option Nat) (x15 : Option Nat) (x18 : Int32) (y0 : Int32) : Option (Int32 × AS) :=
  (some (x18 + (1 : Int32))).bind fun i2 =>
  k449 S x1 x2 x3 x4 x5 x6 x7 x8 x9 x10 x11 x12 x13 x14 x15 y0 i2
def f_W_law_B1106 (X : Nat → Int32) (L : Nat) (k449 : AS → Option Nat → Option Nat → Option Nat → Option Nat → Option Nat → Option Nat → Option Nat → Option Nat → Option Nat → Option Nat → Option Nat → Option Nat → Option Nat → Option Nat → Option Nat → Int32 → Int32 → Option (Int32 × AS)) (S : AS) (x1 : Option Nat) (x2 : Option Nat) (x3 : Option Nat) (x4 : Option Nat) (x5 : Option Nat) (x6 : Option Nat) (x7 : Option Nat) (x8 : Option Nat) (x9 : Option Nat) (x10 : Option Nat) (x11 : Option Nat) (x12 : Option Nat) (x13 : Option Nat) (x14 : Option Nat) (x15 : Option Nat) (x18 : Int32) : Option (Int32 × AS) :=
  f_W_law_B1107 X L k449 S x1 x2 x3 x4 x5 x6 x7 x8 x9 x10 x11 x12 x13 x14 x15 x18 (0 : Int32)
def f_W_law_B1066 (X : Nat → Int32) (L : Nat) (k449 : AS → Option Nat → Option Nat → Option Nat → Option Nat → Option Nat → Option Nat → Option Nat → Option Nat → Option Nat → Option Nat → Option Nat → Option Nat → Option Nat → Option Nat → Option Nat → Int32 → Int32 → Option (Int32 × AS)) (S : AS) (x1 : Option Nat) (x2 : Option Nat) (x3 : Option Nat) (x4 : Option Nat) (x5 : Option Nat) (x6 : Option Nat) (x7 : Option Nat) (x8 : Option Nat) (x9 : Option Nat) (x10 : Option Nat) (x11 : Option Nat) (x12 : Option Nat) (x13 : Option Nat) (x14 : Option Nat) (x15 : Option Nat) (x18 : Int32) (x20 : Int32) (y0 : Int32) : Option (Int32 × AS) :=
  if y0 = 0 then
  f_W_law_B1106 X L k449 S x1 x2 x3 x4 x5 x6 x7 x8 x9 x10 x11 x12 x13 x14 x15 x18
  else
  kr_b2 (f_W_asks S x1 x20 x2 x3 x4 x5 x6 x8 x9 x11 x12 x13 x14) fun v4 S3 =>
  if v4 = 0 then
  f_W_law_B1106 X L k449 S3 x1 x2 x3 x4 x5 x6 x7 x8 x9 x10 x11 x12 x13 x14 x15 x18
  else
  f_W_law_B1107 X L k449 S3 x1 x2 x3 x4 x5 x6 x7 x8 x9 x10 x11 x12 x13 x14 x15 x18 (1 : Int32)
def f_W_law_B504 (X : Nat → Int32) (L : Nat) (k449 : AS → Option Nat → Option Nat → Option Nat → Option Nat → Option Nat → Option Nat → Option Nat → Option Nat → Option Nat → Option Nat → Option Nat → Option Nat → Option Nat → Option Nat → Option Nat → Int32 → Int32 → Option (Int32 × AS)) (S : AS) (x1 : Option Nat) (x2 : Option Nat) (x3 : Option Nat) (x4 : Option Nat) (x5 : Option Nat) (x6 : Option Nat) (x7 : Option Nat) (x8 : Option Nat) (x9 : Option Nat) (x10 : Option Nat) (x11 : Option Nat) (x12 : Option Nat) (x13 : Option Nat) (x14 : Option Nat) (x15 : Option Nat) (x18 : Int32) (x20 : Int32) (y0 : Int32) : Option (Int32 × AS) :=
  if (4 : Int32) ≤ y0 then
  if (8 : Int32) ≤ y0 then
  if (17 : Int32) ≤ y0 then
  if (20 : Int32) ≤ y0 then
  if (21 : Int32) ≤ y0 then
  if (23 : Int32) ≤ y0 then
  if (24 : Int32) ≤ y0 then
  if (25 : Int32) ≤ y0 then
  if (27 : Int32) ≤ y0 then
  if (28 : Int32) ≤ y0 then
  if (31 : Int32) ≤ y0 then
  if (33 : Int32) ≤ y0 then
  if (35 : Int32) ≤ y0 then
  if (36 : Int32) ≤ y0 then
  if (37 : Int32) ≤ y0 then
  if (38 : Int32) ≤ y0 then
  kr_b2 (f_W_tokens S x1 (4 : Int32) x20 x2 x8 x9 x10 x11 x12 x13 x14 x15) fun v6 S5 =>
  f_W_law_B1066 X L k449 S5 x1 x2 x3 x4 x5 x6 x7 x8 x9 x10 x11 x12 x13 x14 x15 x18 x20 v6
  else
  kr_b2 (f_W_tokens S x1 (3 : Int32) x20 x2 x8 x9 x10 x11 x12 x13 x14 x15) fun v8 S7 =>
  f_W_law_B1066 X L k449 S7 x1 x2 x3 x4 x5 x6 x7 x8 x9 x10 x11 x12 x13 x14 x15 x18 x20 v8
  else
  kr_b2 (f_W_tokens S x1 (2 : Int32) x20 x2 x8 x9 x10 x11 x12 x13 x14 x15) fun v10 S9 =>
  f_W_law_B1066 X L k449 S9 x1 x2 x3 x4 x5 x6 x7 x8 x9 x10 x11 x12 x13 x14 x15 x18 x20 v10
  else
  kr_b2 (f_W_tokens S x1 (1 : Int32) x20 x2 x8 x9 x10 x11 x12 x13 x14 x15) fun v12 S11 =>
  f_W_law_B1066 X L k449 S11 x1 x2 x3 x4 x5 x6 x7 x8 x9 x10 x11 x12 x13 x14 x15 x18 x20 v12
  else
  kr_b2 (f_W_tokens S x1 (0 : Int32) x20 x2 x8 x9 x10 x11 x12 x13 x14 x15) fun v14 S13 =>
  f_W_law_B1066 X L k449 S13 x1 x2 x3 x4 x5 x6 x7 x8 x9 x10 x11 x12 x13 x14 x15 x18 x20 v14
  else
  kr_b2 (f_W_grants S x1 (4 : Int32) x20 x2 x8 x9 x10 x11 x12 x14 x15) fun v16 S15 =>
  f_W_law_B1066 X L k449 S15 x1 x2 x3 x4 x5 x6 x7 x8 x9 x10 x11 x12 x13 x14 x15 x18 x20 v16
  else
  kr_b2 (f_W_grants S x1 (3 : Int32) x20 x2 x8 x9 x10 x11 x12 x14 x15) fun v18 S17 =>
  f_W_law_B1066 X L k449 S17 x1 x2 x3 x4 x5 x6 x7 x8 x9 x10 x11 x12 x13 x14 x15 x18 x20 v18
  else
  kr_b2 (f_W_some S (x20 >>> ((9 : Int32) &&& 31)) (2 : Int32)) fun v20 S19 =>
  kr_b2 (f_W_grants S19 x1 (v20 + (1 : Int32)) x20 x2 x8 x9 x10 x11 x12 x14 x15) fun v22 S21 =>
  f_W_law_B1066 X L k449 S21 x1 x2 x3 x4 x5 x6 x7 x8 x9 x10 x11 x12 x13 x14 x15 x18 x20 v22
  else
  kr_b2 (f_W_grants S x1 (0 : Int32) x20 x2 x8 x9 x10 x11 x12 x14 x15) fun v24 S23 =>
  f_W_law_B1066 X L k449 S23 x1 x2 x3 x4 x5 x6 x7 x8 x9 x10 x11 x12 x13 x14 x15 x18 x20 v24
  else
  kr_b2 (f_W_sessions S x1 (4 : Int32) x20 x2 x4 x8 x9 x10 x11 x12 x13 x14) fun v26 S25 =>
  f_W_law_B1066 X L k449 S25 x1 x2 x3 x4 x5 x6 x7 x8 x9 x10 x11 x12 x13 x14 x15 x18 x20 v26
  else
  kr_b2 (f_W_sessions S x1 (3 : Int32) x20 x2 x4 x8 x9 x10 x11 x12 x13 x14) fun v28 S27 =>
  f_W_law_B1066 X L k449 S27 x1 x2 x3 x4 x5 x6 x7 x8 x9 x10 x11 x12 x13 x14 x15 x18 x20 v28
  else
  kr_b2 (f_W_sessions S x1 (2 : Int32) x20 x2 x4 x8 x9 x10 x11 x12 x13 x14) fun v30 S29 =>
  f_W_law_B1066 X L k449 S29 x1 x2 x3 x4 x5 x6 x7 x8 x9 x10 x11 x12 x13 x14 x15 x18 x20 v30
  else
  kr_b2 (f_W_sessions S x1 (1 : Int32) x20 x2 x4 x8 x9 x10 x11 x12 x13 x14) fun v32 S31 =>
  f_W_law_B1066 X L k449 S31 x1 x2 x3 x4 x5 x6 x7 x8 x9 x10 x11 x12 x13 x14 x15 x18 x20 v32
  else
  kr_b2 (f_W_sessions S x1 (0 : Int32) x20 x2 x4 x8 x9 x10 x11 x12 x13 x14) fun v34 S33 =>
  f_W_law_B1066 X L k449 S33 x1 x2 x3 x4 x5 x6 x7 x8 x9 x10 x11 x12 x13 x14 x15 x18 x20 v34
  else
  kr_b2 (f_W_attempts S x1 (2 : Int32) x20 x2 x3 x4 x5 x6 x7 x8 x9) fun v36 S35 =>
  f_W_law_B1066 X L k449 S35 x1 x2 x3 x4 x5 x6 x7 x8 x9 x10 x11 x12 x13 x14 x15 x18 x20 v36
  else
  kr_b2 (f_W_attempts S x1 (1 : Int32) x20 x2 x3 x4 x5 x6 x7 x8 x9) fun v38 S37 =>
  f_W_law_B1066 X L k449 S37 x1 x2 x3 x4 x5 x6 x7 x8 x9 x10 x11 x12 x13 x14 x15 x18 x20 v38
  else
  kr_b2 (f_W_attempts S x1 (0 : Int32) x20 x2 x3 x4 x5 x6 x7 x8 x9) fun v40 S39 =>
  f_W_law_B1066 X L k449 S39 x1 x2 x3 x4 x5 x6 x7 x8 x9 x10 x11 x12 x13 x14 x15 x18 x20 v40
def f_W_law_C449 (X : Nat → Int32) (L : Nat) (k449 : AS → Option Nat → Option Nat → Option Nat → Option Nat → Option Nat → Option Nat → Option Nat → Option Nat → Option Nat → Option Nat → Option Nat → Option Nat → Option Nat → Option Nat → Option Nat → Int32 → Int32 → Option (Int32 × AS)) (S : AS) (x1 : Option Nat) (x2 : Option Nat) (x3 : Option Nat) (x4 : Option Nat) (x5 : Option Nat) (x6 : Option Nat) (x7 : Option Nat) (x8 : Option Nat) (x9 : Option Nat) (x10 : Option Nat) (x11 : Option Nat) (x12 : Option Nat) (x13 : Option Nat) (x14 : Option Nat) (x15 : Option Nat) (x17 : Int32) (x18 : Int32) : Option (Int32 × AS) :=
  if (150 : Int32) ≤ x18 then
  (kr_z x17).bind fun u41 =>
  some (x17, S)
  else
  if x17 = 0 then
  (kr_z x17).bind fun u42 =>
  some (x17, S)
  else
  kr_b2 (f_W_cell X L S (x18 - x18 / (83 : Int32) * (83 : Int32))) fun v44 S43 =>
  (some (v44 ^^^ (x18 * (15485863 : Int32)))).bind fun i45 =>
  (some (i45 >>> ((4 : Int32) &&& 31))).bind fun i46 =>
  if (6 : Int32) ≤ x18 then
  kr_b2 (f_W_some S43 i45 (40 : Int32)) fun v48 S47 =>
  f_W_law_B504 X L k449 S47 x1 x2 x3 x4 x5 x6 x7 x8 x9 x10 x11 x12 x13 x14 x15 x18 i46 v48
  else
  f_W_law_B504 X L k449 S43 x1 x2 x3 x4 x5 x6 x7 x8 x9 x10 x11 x12 x13 x14 x15 x18 i46 (0 : Int32)
def f_W_law_L449 (X : Nat → Int32) (L : Nat) : Nat → AS → Option Nat → Option Nat → Option Nat → Option Nat → Option Nat → Option Nat → Option Nat → Option Nat → Option Nat → Option Nat → Option Nat → Option Nat → Option Nat → Option Nat → Option Nat → Int32 → Int32 → Option (Int32 × AS)
  | 0, S, x1, x2, x3, x4, x5, x6, x7, x8, x9, x10, x11, x12, x13, x14, x15, x17, x18 => none
  | n + 1, S, x1, x2, x3, x4, x5, x6, x7, x8, x9, x10, x11, x12, x13, x14, x15, x17, x18 => f_W_law_C449 X L (f_W_law_L449 X L n) S x1 x2 x3 x4 x5 x6 x7 x8 x9 x10 x11 x12 x13 x14 x15 x17 x18
def f_W_law_B444 (X : Nat → Int32) (L : Nat) (S : AS) (x1 : Option Nat) (x2 : Option Nat) (x3 : Option Nat) (x4 : Option Nat) (x5 : Option Nat) (x6 : Option Nat) (x7 : Option Nat) (x8 : Option Nat) (x9 : Option Nat) (x10 : Option Nat) (x11 : Option Nat) (x12 : Option Nat) (x13 : Option Nat) (x14 : Option Nat) (x15 : Option Nat) (y0 : Int32) : Option (Int32 × AS) :=
  f_W_law_L449 X L kr_FU S x1 x2 x3 x4 x5 x6 x7 x8 x9 x10 x11 x12 x13 x14 x15 y0 (0 : Int32)
def f_W_law_B443 (X : Nat → Int32) (L : Nat) (S : AS) (x1 : Option Nat) (x2 : Option Nat) (x3 : Option Nat) (x4 : Option Nat) (x5 : Option Nat) (x6 : Option Nat) (x7 : Option Nat) (x8 : Option Nat) (x9 : Option Nat) (x10 : Option Nat) (x11 : Option Nat) (x12 : Option Nat) (x13 : Option Nat) (x14 : Option Nat) (x15 : Option Nat) : Option (Int32 × AS) :=
  f_W_law_B444 X L S x1 x2 x3 x4 x5 x6 x7 x8 x9 x10 x11 x12 x13 x14 x15 (0 : Int32)
def f_W_law_C342 (X : Nat → Int32) (L : Nat) (k342 : AS → Option Nat → Option Nat → Option Nat → Option Nat → Option Nat → Option Nat → Option Nat → Option Nat → Option Nat → Option Nat → Option Nat → Option Nat → Option Nat → Option Nat → Option Nat → Int32 → Int32 → Option (Int32 × AS)) (S : AS) (x1 : Option Nat) (x2 : Option Nat) (x3 : Option Nat) (x4 : Option Nat) (x5 : Option Nat) (x6 : Option Nat) (x7 : Option Nat) (x8 : Option Nat) (x9 : Option Nat) (x10 : Option Nat) (x11 : Option Nat) (x12 : Option Nat) (x13 : Option Nat) (x14 : Option Nat) (x15 : Option Nat) (x17 : Int32) (x18 : Int32) : Option (Int32 × AS) :=
  if (7 : Int32) ≤ x18 then
  if x17 = 0 then
  f_W_law_B443 X L S x1 x2 x3 x4 x5 x6 x7 x8 x9 x10 x11 x12 x13 x14 x15
  else
  kr_b2 (f_W_noneg S x1 (8 : Int32) (0 : Int32)) fun v50 S49 =>
  if v50 = 0 then
  kr_b2 (f_W_noneg S49 x1 (7 : Int32) (0 : Int32)) fun v52 S51 =>
  if v52 = 0 then
  f_W_law_B444 X L S51 x1 x2 x3 x4 x5 x6 x7 x8 x9 x10 x11 x12 x13 x14 x15 (1 : Int32)
  else
  f_W_law_B443 X L S51 x1 x2 x3 x4 x5 x6 x7 x8 x9 x10 x11 x12 x13 x14 x15
  else
  f_W_law_B443 X L S49 x1 x2 x3 x4 x5 x6 x7 x8 x9 x10 x11 x12 x13 x14 x15
  else
  if x17 = 0 then
  f_W_law_B405 X L k342 S x1 x2 x3 x4 x5 x6 x7 x8 x9 x10 x11 x12 x13 x14 x15 x18
  else
  (aI S 40 x3 ((5 : Int32) * x18)).bind fun v53 =>
  (aI S 40 x3 (((5 : Int32) * x18) + (1 : Int32))).bind fun v54 =>
  (aI S 40 x3 (((5 : Int32) * x18) + (2 : Int32))).bind fun v55 =>
  (aI S 40 x3 (((5 : Int32) * x18) + (3 : Int32))).bind fun v56 =>
  (aI S 40 x3 (((5 : Int32) * x18) + (4 : Int32))).bind fun v57 =>
  kr_b2 (f_W_addsg S x1 v53 v54 v55 v56 v57) fun v59 S58 =>
  if v59 = x18 then
  f_W_law_B406 X L k342 S58 x1 x2 x3 x4 x5 x6 x7 x8 x9 x10 x11 x12 x13 x14 x15 x18 (1 : Int32)
  else
  f_W_law_B405 X L k342 S58 x1 x2 x3 x4 x5 x6 x7 x8 x9 x10 x11 x12 x13 x14 x15 x18
def f_W_law_L342 (X : Nat → Int32) (L : Nat) : Nat → AS → Option Nat → Option Nat → Option Nat → Option Nat → Option Nat → Option Nat → Option Nat → Option Nat → Option Nat → Option Nat → Option Nat → Option Nat → Option Nat → Option Nat → Option Nat → Int32 → Int32 → Option (Int32 × AS)
  | 0, S, x1, x2, x3, x4, x5, x6, x7, x8, x9, x10, x11, x12, x13, x14, x15, x17, x18 => none
  | n + 1, S, x1, x2, x3, x4, x5, x6, x7, x8, x9, x10, x11, x12, x13, x14, x15, x17, x18 => f_W_law_C342 X L (f_W_law_L342 X L n) S x1 x2 x3 x4 x5 x6 x7 x8 x9 x10 x11 x12 x13 x14 x15 x17 x18
def f_W_law_B337 (X : Nat → Int32) (L : Nat) (S : AS) (x1 : Option Nat) (x2 : Option Nat) (x3 : Option Nat) (x4 : Option Nat) (x5 : Option Nat) (x6 : Option Nat) (x7 : Option Nat) (x8 : Option Nat) (x9 : Option Nat) (x10 : Option Nat) (x11 : Option Nat) (x12 : Option Nat) (x13 : Option Nat) (x14 : Option Nat) (x15 : Option Nat) (y0 : Int32) : Option (Int32 × AS) :=
  f_W_law_L342 X L kr_FU S x1 x2 x3 x4 x5 x6 x7 x8 x9 x10 x11 x12 x13 x14 x15 y0 (0 : Int32)
def f_W_law_B336 (X : Nat → Int32) (L : Nat) (S : AS) (x1 : Option Nat) (x2 : Option Nat) (x3 : Option Nat) (x4 : Option Nat) (x5 : Option Nat) (x6 : Option Nat) (x7 : Option Nat) (x8 : Option Nat) (x9 : Option Nat) (x10 : Option Nat) (x11 : Option Nat) (x12 : Option Nat) (x13 : Option Nat) (x14 : Option Nat) (x15 : Option Nat) : Option (Int32 × AS) :=
  f_W_law_B337 X L S x1 x2 x3 x4 x5 x6 x7 x8 x9 x10 x11 x12 x13 x14 x15 (0 : Int32)
def f_W_law_B291 (X : Nat → Int32) (L : Nat) (S : AS) (x1 : Option Nat) (x2 : Option Nat) (x3 : Option Nat) (x4 : Option Nat) (x5 : Option Nat) (x6 : Option Nat) (x7 : Option Nat) (x8 : Option Nat) (x9 : Option Nat) (x10 : Option Nat) (x11 : Option Nat) (x12 : Option Nat) (x13 : Option Nat) (x14 : Option Nat) (x15 : Option Nat) (y0 : Option Nat) (y1 : Int32) (y2 : Int32) (y3 : Int32) (y4 : Int32) (y5 : Int32) (y6 : Int32) : Option (Int32 × AS) :=
  (f_W_steps S y0 y1 y2 y3 y4 y5 y6).bind fun S60 =>
  (f_W_steps S60 x3 (6 : Int32) (5 : Int32) (0 : Int32) (0 : Int32) (0 : Int32) (0 : Int32)).bind fun S61 =>
  kr_b2 (f_W_noneg S61 x1 (8 : Int32) (0 : Int32)) fun v63 S62 =>
  if v63 = (-1003 : Int32) then
  kr_b2 (f_W_threeg S62 x1 (0 : Int32) (0 : Int32) (0 : Int32) (0 : Int32)) fun v65 S64 =>
  if v65 = (-1003 : Int32) then
  f_W_law_B337 X L S64 x1 x2 x3 x4 x5 x6 x7 x8 x9 x10 x11 x12 x13 x14 x15 (1 : Int32)
  else
  f_W_law_B336 X L S64 x1 x2 x3 x4 x5 x6 x7 x8 x9 x10 x11 x12 x13 x14 x15
  else
  f_W_law_B336 X L S62 x1 x2 x3 x4 x5 x6 x7 x8 x9 x10 x11 x12 x13 x14 x15
def f_W_law_B242 (X : Nat → Int32) (L : Nat) (S : AS) (x1 : Option Nat) (x2 : Option Nat) (x3 : Option Nat) (x4 : Option Nat) (x5 : Option Nat) (x6 : Option Nat) (x7 : Option Nat) (x8 : Option Nat) (x9 : Option Nat) (x10 : Option Nat) (x11 : Option Nat) (x12 : Option Nat) (x13 : Option Nat) (x14 : Option Nat) (x15 : Option Nat) (x16 : Int32) (y0 : Option Nat) (y1 : Int32) (y2 : Int32) (y3 : Int32) : Option (Int32 × AS) :=
  (f_W_steps S y0 y1 y2 y3 (0 : Int32) (5 : Int32) (4 : Int32)).bind fun S66 =>
  kr_b2 (f_W_some S66 (x16 >>> ((6 : Int32) &&& 31)) (5 : Int32)) fun v68 S67 =>
  (f_W_steps S67 x3 (4 : Int32) (4 : Int32) v68 (0 : Int32) (6 : Int32) (5 : Int32)).bind fun S69 =>
  kr_b2 (f_W_some S69 (x16 >>> ((7 : Int32) &&& 31)) (2 : Int32)) fun v71 S70 =>
  if v71 = 0 then
  f_W_law_B291 X L S70 x1 x2 x3 x4 x5 x6 x7 x8 x9 x10 x11 x12 x13 x14 x15 x3 (5 : Int32) (0 : Int32) (1 : Int32) (1 : Int32) (6 : Int32) (1 : Int32)
  else
  f_W_law_B291 X L S70 x1 x2 x3 x4 x5 x6 x7 x8 x9 x10 x11 x12 x13 x14 x15 x3 (5 : Int32) (0 : Int32) (1 : Int32) (1 : Int32) (6 : Int32) (-1 : Int32)
def f_W_law_B218 (X : Nat → Int32) (L : Nat) (S : AS) (x1 : Option Nat) (x2 : Option Nat) (x3 : Option Nat) (x4 : Option Nat) (x5 : Option Nat) (x6 : Option Nat) (x7 : Option Nat) (x8 : Option Nat) (x9 : Option Nat) (x10 : Option Nat) (x11 : Option Nat) (x12 : Option Nat) (x13 : Option Nat) (x14 : Option Nat) (x15 : Option Nat) (x16 : Int32) (y0 : Option Nat) (y1 : Int32) (y2 : Int32) : Option (Int32 × AS) :=
  kr_b2 (f_W_some S (x16 >>> ((5 : Int32) &&& 31)) (3 : Int32)) fun v73 S72 =>
  if v73 = 0 then
  f_W_law_B242 X L S72 x1 x2 x3 x4 x5 x6 x7 x8 x9 x10 x11 x12 x13 x14 x15 x16 y0 y1 y2 (0 : Int32)
  else
  kr_b2 (f_W_some S72 (x16 >>> ((4 : Int32) &&& 31)) (6 : Int32)) fun v75 S74 =>
  f_W_law_B242 X L S74 x1 x2 x3 x4 x5 x6 x7 x8 x9 x10 x11 x12 x13 x14 x15 x16 y0 y1 y2 v75
def f_W_law_C128 (X : Nat → Int32) (L : Nat) (k128 : AS → Option Nat → Option Nat → Option Nat → Option Nat → Option Nat → Option Nat → Option Nat → Option Nat → Option Nat → Option Nat → Option Nat → Option Nat → Option Nat → Option Nat → Option Nat → Int32 → Option (Int32 × AS)) (S : AS) (x1 : Option Nat) (x2 : Option Nat) (x3 : Option Nat) (x4 : Option Nat) (x5 : Option Nat) (x6 : Option Nat) (x7 : Option Nat) (x8 : Option Nat) (x9 : Option Nat) (x10 : Option Nat) (x11 : Option Nat) (x12 : Option Nat) (x13 : Option Nat) (x14 : Option Nat) (x15 : Option Nat) (x16 : Int32) : Option (Int32 × AS) :=
  if (45 : Int32) ≤ x16 then
  kr_b2 (f_W_cell X L S (0 : Int32)) fun v77 S76 =>
  (f_W_steps S76 x3 (0 : Int32) (3 : Int32) (2 : Int32) (0 : Int32) (1 : Int32) (2 : Int32)).bind fun S78 =>
  kr_b2 (f_W_some S78 v77 (2 : Int32)) fun v80 S79 =>
  (f_W_steps S79 x3 (1 : Int32) (0 : Int32) (2 : Int32) ((1 : Int32) + v80) (4 : Int32) (2 : Int32)).bind fun S81 =>
  kr_b2 (f_W_some S81 (v77 >>> ((3 : Int32) &&& 31)) (3 : Int32)) fun v83 S82 =>
  (f_W_steps S82 x3 (2 : Int32) (0 : Int32) (0 : Int32) ((1 : Int32) + v83) (3 : Int32) (-1 : Int32)).bind fun S84 =>
  kr_b2 (f_W_some S84 (v77 >>> ((5 : Int32) &&& 31)) (3 : Int32)) fun v86 S85 =>
  if v86 = 0 then
  f_W_law_B218 X L S85 x1 x2 x3 x4 x5 x6 x7 x8 x9 x10 x11 x12 x13 x14 x15 v77 x3 (3 : Int32) (1 : Int32)
  else
  f_W_law_B218 X L S85 x1 x2 x3 x4 x5 x6 x7 x8 x9 x10 x11 x12 x13 x14 x15 v77 x3 (3 : Int32) (2 : Int32)
  else
  (bI S x9 x16 (-1 : Int32)).bind fun S87 =>
  (some (x16 + (1 : Int32))).bind fun i88 =>
  k128 S87 x1 x2 x3 x4 x5 x6 x7 x8 x9 x10 x11 x12 x13 x14 x15 i88
def f_W_law_L128 (X : Nat → Int32) (L : Nat) : Nat → AS → Option Nat → Option Nat → Option Nat → Option Nat → Option Nat → Option Nat → Option Nat → Option Nat → Option Nat → Option Nat → Option Nat → Option Nat → Option Nat → Option Nat → Option Nat → Int32 → Option (Int32 × AS)
  | 0, S, x1, x2, x3, x4, x5, x6, x7, x8, x9, x10, x11, x12, x13, x14, x15, x16 => none
  | n + 1, S, x1, x2, x3, x4, x5, x6, x7, x8, x9, x10, x11, x12, x13, x14, x15, x16 => f_W_law_C128 X L (f_W_law_L128 X L n) S x1 x2 x3 x4 x5 x6 x7 x8 x9 x10 x11 x12 x13 x14 x15 x16
def f_W_law_C103 (X : Nat → Int32) (L : Nat) (k103 : AS → Option Nat → Option Nat → Option Nat → Option Nat → Option Nat → Option Nat → Option Nat → Option Nat → Option Nat → Option Nat → Option Nat → Option Nat → Option Nat → Option Nat → Option Nat → Int32 → Option (Int32 × AS)) (S : AS) (x1 : Option Nat) (x2 : Option Nat) (x3 : Option Nat) (x4 : Option Nat) (x5 : Option Nat) (x6 : Option Nat) (x7 : Option Nat) (x8 : Option Nat) (x9 : Option Nat) (x10 : Option Nat) (x11 : Option Nat) (x12 : Option Nat) (x13 : Option Nat) (x14 : Option Nat) (x15 : Option Nat) (x16 : Int32) : Option (Int32 × AS) :=
  if (4 : Int32) ≤ x16 then
  f_W_law_L128 X L kr_FU S x1 x2 x3 x4 x5 x6 x7 x8 x9 x10 x11 x12 x13 x14 x15 (0 : Int32)
  else
  (bI S x14 (((4 : Int32) * x16) + (1 : Int32)) (1 : Int32)).bind fun S89 =>
  (some (x16 + (1 : Int32))).bind fun i90 =>
  k103 S89 x1 x2 x3 x4 x5 x6 x7 x8 x9 x10 x11 x12 x13 x14 x15 i90
def f_W_law_L103 (X : Nat → Int32) (L : Nat) : Nat → AS → Option Nat → Option Nat → Option Nat → Option Nat → Option Nat → Option Nat → Option Nat → Option Nat → Option Nat → Option Nat → Option Nat → Option Nat → Option Nat → Option Nat → Option Nat → Int32 → Option (Int32 × AS)
  | 0, S, x1, x2, x3, x4, x5, x6, x7, x8, x9, x10, x11, x12, x13, x14, x15, x16 => none
  | n + 1, S, x1, x2, x3, x4, x5, x6, x7, x8, x9, x10, x11, x12, x13, x14, x15, x16 => f_W_law_C103 X L (f_W_law_L103 X L n) S x1 x2 x3 x4 x5 x6 x7 x8 x9 x10 x11 x12 x13 x14 x15 x16
def f_W_law (X : Nat → Int32) (L : Nat) (S : AS) : Option (Int32 × AS) :=
  (some (nO S 22)).bind fun S91 =>
  (f_K_init S91 (some (sN S))).bind fun S92 =>
  (nA S92 40 (14 : Int32)).bind fun S93 =>
  (nA S93 40 (35 : Int32)).bind fun S94 =>
  (nA S94 40 (36 : Int32)).bind fun S95 =>
  (nA S95 40 (60 : Int32)).bind fun S96 =>
  (nA S96 40 (20 : Int32)).bind fun S97 =>
  (nA S97 40 (30 : Int32)).bind fun S98 =>
  (nA S98 40 (60 : Int32)).bind fun S99 =>
  (nA S99 40 (45 : Int32)).bind fun S100 =>
  (nA S100 40 (60 : Int32)).bind fun S101 =>
  (nA S101 40 (50 : Int32)).bind fun S102 =>
  (nA S102 40 (60 : Int32)).bind fun S103 =>
  (nA S103 40 (20 : Int32)).bind fun S104 =>
  (nA S104 40 (16 : Int32)).bind fun S105 =>
  (nA S105 40 (20 : Int32)).bind fun S106 =>
  (bI S106 (some (sN S92)) (5 : Int32) (1 : Int32)).bind fun S107 =>
  (bI S107 (some (sN S92)) (10 : Int32) (7 : Int32)).bind fun S108 =>
  f_W_law_L103 X L kr_FU S108 (some (sN S)) (some (sN S92)) (some (sN S93)) (some (sN S94)) (some (sN S95)) (some (sN S96)) (some (sN S97)) (some (sN S98)) (some (sN S99)) (some (sN S100)) (some (sN S101)) (some (sN S102)) (some (sN S103)) (some (sN S104)) (some (sN S105)) (0 : Int32)
set_option maxRecDepth 20000 in
set_option maxHeartbeats 4000000 in
theorem s_W_law_B406 {X : Nat → Int32} {L : Nat} {k342 : AS → Option Nat → Option Nat → Option Nat → Option Nat → Option Nat → Option Nat → Option Nat → Option Nat → Option Nat → Option Nat → Option Nat → Option Nat → Option Nat → Option Nat → Option Nat → Int32 → Int32 → Option (Int32 × AS)} (hk342 : ∀ {S : AS} {x1 : Option Nat} {x2 : Option Nat} {x3 : Option Nat} {x4 : Option Nat} {x5 : Option Nat} {x6 : Option Nat} {x7 : Option Nat} {x8 : Option Nat} {x9 : Option Nat} {x10 : Option Nat} {x11 : Option Nat} {x12 : Option Nat} {x13 : Option Nat} {x14 : Option Nat} {x15 : Option Nat} {x17 : Int32} {x18 : Int32} {r : (Int32 × AS)}, k342 S x1 x2 x3 x4 x5 x6 x7 x8 x9 x10 x11 x12 x13 x14 x15 x17 x18 = some r → kr_AW (m_W_law X L) 16 342 [(0, va_rf (some 2)), (1, va_rf x1), (2, va_rf x2), (3, va_rf x3), (4, va_rf x4), (5, va_rf x5), (6, va_rf x6), (7, va_rf x7), (8, va_rf x8), (9, va_rf x9), (10, va_rf x10), (11, va_rf x11), (12, va_rf x12), (13, va_rf x13), (14, va_rf x14), (15, va_rf x15), (17, .int x17), (18, .int x18)] [] S (kr_eI r)) {S : AS} {x1 : Option Nat} {x2 : Option Nat} {x3 : Option Nat} {x4 : Option Nat} {x5 : Option Nat} {x6 : Option Nat} {x7 : Option Nat} {x8 : Option Nat} {x9 : Option Nat} {x10 : Option Nat} {x11 : Option Nat} {x12 : Option Nat} {x13 : Option Nat} {x14 : Option Nat} {x15 : Option Nat} {x18 : Int32} {y0 : Int32} {r : (Int32 × AS)} (h : f_W_law_B406 X L k342 S x1 x2 x3 x4 x5 x6 x7 x8 x9 x10 x11 x12 x13 x14 x15 x18 y0 = some r) : kr_AW (m_W_law X L) 16 406 [(0, va_rf (some 2)), (1, va_rf x1), (2, va_rf x2), (3, va_rf x3), (4, va_rf x4), (5, va_rf x5), (6, va_rf x6), (7, va_rf x7), (8, va_rf x8), (9, va_rf x9), (10, va_rf x10), (11, va_rf x11), (12, va_rf x12), (13, va_rf x13), (14, va_rf x14), (15, va_rf x15), (18, .int x18)] [.int y0] S (kr_eI r) := by
  unfold f_W_law_B406 at h
  refine r_istore (i := 17) (lv' := [(17, .int y0), (0, va_rf (some 2)), (1, va_rf x1), (2, va_rf x2), (3, va_rf x3), (4, va_rf x4), (5, va_rf x5), (6, va_rf x6), (7, va_rf x7), (8, va_rf x8), (9, va_rf x9), (10, va_rf x10), (11, va_rf x11), (12, va_rf x12), (13, va_rf x13), (14, va_rf x14), (15, va_rf x15), (18, .int x18)]) (by show (17 : Nat) < 22; decide) rfl d_W_law_406 ?_
  have h2 := kr_ob h
  clear h
  obtain ⟨i1, ei1, h⟩ := h2
  refine r_iinc (v := i1) (lv' := [(18, .int i1), (17, .int y0), (0, va_rf (some 2)), (1, va_rf x1), (2, va_rf x2), (3, va_rf x3), (4, va_rf x4), (5, va_rf x5), (6, va_rf x6), (7, va_rf x7), (8, va_rf x8), (9, va_rf x9), (10, va_rf x10), (11, va_rf x11), (12, va_rf x12), (13, va_rf x13), (14, va_rf x14), (15, va_rf x15)]) 17 rfl (kr_inc (by decide) ei1) (by show (18 : Nat) < 22; decide) rfl d_W_law_408 ?_
  refine r_goto (tgt := 342) d_W_law_411 rfl ?_
  exact kr_sub [2, 3, 4, 5, 6, 7, 8, 9, 10, 11, 12, 13, 14, 15, 16, 17, 1, 0] rfl (hk342 h)
set_option maxRecDepth 20000 in
set_option maxHeartbeats 4000000 in
theorem s_W_law_B405 {X : Nat → Int32} {L : Nat} {k342 : AS → Option Nat → Option Nat → Option Nat → Option Nat → Option Nat → Option Nat → Option Nat → Option Nat → Option Nat → Option Nat → Option Nat → Option Nat → Option Nat → Option Nat → Option Nat → Int32 → Int32 → Option (Int32 × AS)} (hk342 : ∀ {S : AS} {x1 : Option Nat} {x2 : Option Nat} {x3 : Option Nat} {x4 : Option Nat} {x5 : Option Nat} {x6 : Option Nat} {x7 : Option Nat} {x8 : Option Nat} {x9 : Option Nat} {x10 : Option Nat} {x11 : Option Nat} {x12 : Option Nat} {x13 : Option Nat} {x14 : Option Nat} {x15 : Option Nat} {x17 : Int32} {x18 : Int32} {r : (Int32 × AS)}, k342 S x1 x2 x3 x4 x5 x6 x7 x8 x9 x10 x11 x12 x13 x14 x15 x17 x18 = some r → kr_AW (m_W_law X L) 16 342 [(0, va_rf (some 2)), (1, va_rf x1), (2, va_rf x2), (3, va_rf x3), (4, va_rf x4), (5, va_rf x5), (6, va_rf x6), (7, va_rf x7), (8, va_rf x8), (9, va_rf x9), (10, va_rf x10), (11, va_rf x11), (12, va_rf x12), (13, va_rf x13), (14, va_rf x14), (15, va_rf x15), (17, .int x17), (18, .int x18)] [] S (kr_eI r)) {S : AS} {x1 : Option Nat} {x2 : Option Nat} {x3 : Option Nat} {x4 : Option Nat} {x5 : Option Nat} {x6 : Option Nat} {x7 : Option Nat} {x8 : Option Nat} {x9 : Option Nat} {x10 : Option Nat} {x11 : Option Nat} {x12 : Option Nat} {x13 : Option Nat} {x14 : Option Nat} {x15 : Option Nat} {x18 : Int32} {r : (Int32 × AS)} (h : f_W_law_B405 X L k342 S x1 x2 x3 x4 x5 x6 x7 x8 x9 x10 x11 x12 x13 x14 x15 x18 = some r) : kr_AW (m_W_law X L) 16 405 [(0, va_rf (some 2)), (1, va_rf x1), (2, va_rf x2), (3, va_rf x3), (4, va_rf x4), (5, va_rf x5), (6, va_rf x6), (7, va_rf x7), (8, va_rf x8), (9, va_rf x9), (10, va_rf x10), (11, va_rf x11), (12, va_rf x12), (13, va_rf x13), (14, va_rf x14), (15, va_rf x15), (18, .int x18)] [] S (kr_eI r) := by
  unfold f_W_law_B405 at h
  refine r_iconst (v := (0 : Int32)) (by decide) d_W_law_405 ?_
  exact kr_sub [0, 1, 2, 3, 4, 5, 6, 7, 8, 9, 10, 11, 12, 13, 14, 15, 16] rfl (s_W_law_B406 hk342 h)
set_option maxRecDepth 20000 in
set_option maxHeartbeats 4000000 in
theorem s_W_law_B1107 {X : Nat → Int32} {L : Nat} {k449 : AS → Option Nat → Option Nat → Option Nat → Option Nat → Option Nat → Option Nat → Option Nat → Option Nat → Option Nat → Option Nat → Option Nat → Option Nat → Option Nat → Option Nat → Option Nat → Int32 → Int32 → Option (Int32 × AS)} (hk449 : ∀ {S : AS} {x1 : Option Nat} {x2 : Option Nat} {x3 : Option Nat} {x4 : Option Nat} {x5 : Option Nat} {x6 : Option Nat} {x7 : Option Nat} {x8 : Option Nat} {x9 : Option Nat} {x10 : Option Nat} {x11 : Option Nat} {x12 : Option Nat} {x13 : Option Nat} {x14 : Option Nat} {x15 : Option Nat} {x17 : Int32} {x18 : Int32} {r : (Int32 × AS)}, k449 S x1 x2 x3 x4 x5 x6 x7 x8 x9 x10 x11 x12 x13 x14 x15 x17 x18 = some r → kr_AW (m_W_law X L) 16 449 [(0, va_rf (some 2)), (1, va_rf x1), (2, va_rf x2), (3, va_rf x3), (4, va_rf x4), (5, va_rf x5), (6, va_rf x6), (7, va_rf x7), (8, va_rf x8), (9, va_rf x9), (10, va_rf x10), (11, va_rf x11), (12, va_rf x12), (13, va_rf x13), (14, va_rf x14), (15, va_rf x15), (17, .int x17), (18, .int x18)] [] S (kr_eI r)) {S : AS} {x1 : Option Nat} {x2 : Option Nat} {x3 : Option Nat} {x4 : Option Nat} {x5 : Option Nat} {x6 : Option Nat} {x7 : Option Nat} {x8 : Option Nat} {x9 : Option Nat} {x10 : Option Nat} {x11 : Option Nat} {x12 : Option Nat} {x13 : Option Nat} {x14 : Option Nat} {x15 : Option Nat} {x18 : Int32} {y0 : Int32} {r : (Int32 × AS)} (h : f_W_law_B1107 X L k449 S x1 x2 x3 x4 x5 x6 x7 x8 x9 x10 x11 x12 x13 x14 x15 x18 y0 = some r) : kr_AW (m_W_law X L) 16 1107 [(0, va_rf (some 2)), (1, va_rf x1), (2, va_rf x2), (3, va_rf x3), (4, va_rf x4), (5, va_rf x5), (6, va_rf x6), (7, va_rf x7), (8, va_rf x8), (9, va_rf x9), (10, va_rf x10), (11, va_rf x11), (12, va_rf x12), (13, va_rf x13), (14, va_rf x14), (15, va_rf x15), (18, .int x18)] [.int y0] S (kr_eI r) := by
  unfold f_W_law_B1107 at h
  refine r_istore (i := 17) (lv' := [(17, .int y0), (0, va_rf (some 2)), (1, va_rf x1), (2, va_rf x2), (3, va_rf x3), (4, va_rf x4), (5, va_rf x5), (6, va_rf x6), (7, va_rf x7), (8, va_rf x8), (9, va_rf x9), (10, va_rf x10), (11, va_rf x11), (12, va_rf x12), (13, va_rf x13), (14, va_rf x14), (15, va_rf x15), (18, .int x18)]) (by show (17 : Nat) < 22; decide) rfl d_W_law_1107 ?_
  have h2 := kr_ob h
  clear h
  obtain ⟨i2, ei2, h⟩ := h2
  refine r_iinc (v := i2) (lv' := [(18, .int i2), (17, .int y0), (0, va_rf (some 2)), (1, va_rf x1), (2, va_rf x2), (3, va_rf x3), (4, va_rf x4), (5, va_rf x5), (6, va_rf x6), (7, va_rf x7), (8, va_rf x8), (9, va_rf x9), (10, va_rf x10), (11, va_rf x11), (12, va_rf x12), (13, va_rf x13), (14, va_rf x14), (15, va_rf x15)]) 17 rfl (kr_inc (by decide) ei2) (by show (18 : Nat) < 22; decide) rfl d_W_law_1109 ?_
  refine r_goto (tgt := 449) d_W_law_1112 rfl ?_
  exact kr_sub [2, 3, 4, 5, 6, 7, 8, 9, 10, 11, 12, 13, 14, 15, 16, 17, 1, 0] rfl (hk449 h)
set_option maxRecDepth 20000 in
set_option maxHeartbeats 4000000 in
theorem s_W_law_B1106 {X : Nat → Int32} {L : Nat} {k449 : AS → Option Nat → Option Nat → Option Nat → Option Nat → Option Nat → Option Nat → Option Nat → Option Nat → Option Nat → Option Nat → Option Nat → Option Nat → Option Nat → Option Nat → Option Nat → Int32 → Int32 → Option (Int32 × AS)} (hk449 : ∀ {S : AS} {x1 : Option Nat} {x2 : Option Nat} {x3 : Option Nat} {x4 : Option Nat} {x5 : Option Nat} {x6 : Option Nat} {x7 : Option Nat} {x8 : Option Nat} {x9 : Option Nat} {x10 : Option Nat} {x11 : Option Nat} {x12 : Option Nat} {x13 : Option Nat} {x14 : Option Nat} {x15 : Option Nat} {x17 : Int32} {x18 : Int32} {r : (Int32 × AS)}, k449 S x1 x2 x3 x4 x5 x6 x7 x8 x9 x10 x11 x12 x13 x14 x15 x17 x18 = some r → kr_AW (m_W_law X L) 16 449 [(0, va_rf (some 2)), (1, va_rf x1), (2, va_rf x2), (3, va_rf x3), (4, va_rf x4), (5, va_rf x5), (6, va_rf x6), (7, va_rf x7), (8, va_rf x8), (9, va_rf x9), (10, va_rf x10), (11, va_rf x11), (12, va_rf x12), (13, va_rf x13), (14, va_rf x14), (15, va_rf x15), (17, .int x17), (18, .int x18)] [] S (kr_eI r)) {S : AS} {x1 : Option Nat} {x2 : Option Nat} {x3 : Option Nat} {x4 : Option Nat} {x5 : Option Nat} {x6 : Option Nat} {x7 : Option Nat} {x8 : Option Nat} {x9 : Option Nat} {x10 : Option Nat} {x11 : Option Nat} {x12 : Option Nat} {x13 : Option Nat} {x14 : Option Nat} {x15 : Option Nat} {x18 : Int32} {r : (Int32 × AS)} (h : f_W_law_B1106 X L k449 S x1 x2 x3 x4 x5 x6 x7 x8 x9 x10 x11 x12 x13 x14 x15 x18 = some r) : kr_AW (m_W_law X L) 16 1106 [(0, va_rf (some 2)), (1, va_rf x1), (2, va_rf x2), (3, va_rf x3), (4, va_rf x4), (5, va_rf x5), (6, va_rf x6), (7, va_rf x7), (8, va_rf x8), (9, va_rf x9), (10, va_rf x10), (11, va_rf x11), (12, va_rf x12), (13, va_rf x13), (14, va_rf x14), (15, va_rf x15), (18, .int x18)] [] S (kr_eI r) := by
  unfold f_W_law_B1106 at h
  refine r_iconst (v := (0 : Int32)) (by decide) d_W_law_1106 ?_
  exact kr_sub [0, 1, 2, 3, 4, 5, 6, 7, 8, 9, 10, 11, 12, 13, 14, 15, 16] rfl (s_W_law_B1107 hk449 h)
set_option maxRecDepth 20000 in
set_option maxHeartbeats 4000000 in
theorem s_W_law_B1066 {X : Nat → Int32} {L : Nat} {k449 : AS → Option Nat → Option Nat → Option Nat → Option Nat → Option Nat → Option Nat → Option Nat → Option Nat → Option Nat → Option Nat → Option Nat → Option Nat → Option Nat → Option Nat → Option Nat → Int32 → Int32 → Option (Int32 × AS)} (hk449 : ∀ {S : AS} {x1 : Option Nat} {x2 : Option Nat} {x3 : Option Nat} {x4 : Option Nat} {x5 : Option Nat} {x6 : Option Nat} {x7 : Option Nat} {x8 : Option Nat} {x9 : Option Nat} {x10 : Option Nat} {x11 : Option Nat} {x12 : Option Nat} {x13 : Option Nat} {x14 : Option Nat} {x15 : Option Nat} {x17 : Int32} {x18 : Int32} {r : (Int32 × AS)}, k449 S x1 x2 x3 x4 x5 x6 x7 x8 x9 x10 x11 x12 x13 x14 x15 x17 x18 = some r → kr_AW (m_W_law X L) 16 449 [(0, va_rf (some 2)), (1, va_rf x1), (2, va_rf x2), (3, va_rf x3), (4, va_rf x4), (5, va_rf x5), (6, va_rf x6), (7, va_rf x7), (8, va_rf x8), (9, va_rf x9), (10, va_rf x10), (11, va_rf x11), (12, va_rf x12), (13, va_rf x13), (14, va_rf x14), (15, va_rf x15), (17, .int x17), (18, .int x18)] [] S (kr_eI r)) {S : AS} {x1 : Option Nat} {x2 : Option Nat} {x3 : Option Nat} {x4 : Option Nat} {x5 : Option Nat} {x6 : Option Nat} {x7 : Option Nat} {x8 : Option Nat} {x9 : Option Nat} {x10 : Option Nat} {x11 : Option Nat} {x12 : Option Nat} {x13 : Option Nat} {x14 : Option Nat} {x15 : Option Nat} {x18 : Int32} {x20 : Int32} {y0 : Int32} {r : (Int32 × AS)} (h : f_W_law_B1066 X L k449 S x1 x2 x3 x4 x5 x6 x7 x8 x9 x10 x11 x12 x13 x14 x15 x18 x20 y0 = some r) : kr_AW (m_W_law X L) 16 1066 [(0, va_rf (some 2)), (1, va_rf x1), (2, va_rf x2), (3, va_rf x3), (4, va_rf x4), (5, va_rf x5), (6, va_rf x6), (7, va_rf x7), (8, va_rf x8), (9, va_rf x9), (10, va_rf x10), (11, va_rf x11), (12, va_rf x12), (13, va_rf x13), (14, va_rf x14), (15, va_rf x15), (18, .int x18), (20, .int x20)] [.int y0] S (kr_eI r) := by
  unfold f_W_law_B1066 at h
  refine r_istore (i := 17) (lv' := [(17, .int y0), (0, va_rf (some 2)), (1, va_rf x1), (2, va_rf x2), (3, va_rf x3), (4, va_rf x4), (5, va_rf x5), (6, va_rf x6), (7, va_rf x7), (8, va_rf x8), (9, va_rf x9), (10, va_rf x10), (11, va_rf x11), (12, va_rf x12), (13, va_rf x13), (14, va_rf x14), (15, va_rf x15), (18, .int x18), (20, .int x20)]) (by show (17 : Nat) < 22; decide) rfl d_W_law_1066 ?_
  refine r_iload (i := 17) (x := y0) 0 rfl d_W_law_1068 ?_
  refine r_if_eq (tgt := 1106) d_W_law_1070 rfl (fun c => ?_) (fun c => ?_)
  · replace h := kr_ip c h
    exact kr_sub [1, 2, 3, 4, 5, 6, 7, 8, 9, 10, 11, 12, 13, 14, 15, 16, 17] rfl (s_W_law_B1106 hk449 h)
  · replace h := kr_in_ c h
    refine r_aload_n (i := 1) (x := x1) 2 rfl d_W_law_1073 ?_
    refine r_iload (i := 20) (x := x20) 18 rfl d_W_law_1074 ?_
    refine r_aload_n (i := 2) (x := x2) 3 rfl d_W_law_1076 ?_
    refine r_aload_n (i := 3) (x := x3) 4 rfl d_W_law_1077 ?_
    refine r_aload (i := 4) (x := x4) 5 rfl d_W_law_1078 ?_
    refine r_aload (i := 5) (x := x5) 6 rfl d_W_law_1080 ?_
    refine r_aload (i := 6) (x := x6) 7 rfl d_W_law_1082 ?_
    refine r_aload (i := 8) (x := x8) 9 rfl d_W_law_1084 ?_
    refine r_aload (i := 9) (x := x9) 10 rfl d_W_law_1086 ?_
    refine r_aload (i := 11) (x := x11) 12 rfl d_W_law_1088 ?_
    refine r_aload (i := 12) (x := x12) 13 rfl d_W_law_1090 ?_
    refine r_aload (i := 13) (x := x13) 14 rfl d_W_law_1092 ?_
    refine r_aload (i := 14) (x := x14) 15 rfl d_W_law_1094 ?_
    have h2 := kr_ob2 h
    clear h
    obtain ⟨v4, S3, eS3, h⟩ := h2
    refine r_callSL (M1 := m_W_asks) (As := [va_rf x1, .int x20, va_rf x2, va_rf x3, va_rf x4, va_rf x5, va_rf x6, va_rf x8, va_rf x9, va_rf x11, va_rf x12, va_rf x13, va_rf x14]) (s_W_asks eS3) mok_W_asks rfl w1348 w1349 (by decide) (kr_c8 kr_c0) d_W_law_1096 (kr_k1 ?_) kr_kn
    refine r_if_eq (tgt := 1106) d_W_law_1099 rfl (fun c => ?_) (fun c => ?_)
    · replace h := kr_ip c h
      exact kr_sub [1, 2, 3, 4, 5, 6, 7, 8, 9, 10, 11, 12, 13, 14, 15, 16, 17] rfl (s_W_law_B1106 hk449 h)
    · replace h := kr_in_ c h
      refine r_iconst (v := (1 : Int32)) (by decide) d_W_law_1102 ?_
      refine r_goto (tgt := 1107) d_W_law_1103 rfl ?_
      exact kr_sub [1, 2, 3, 4, 5, 6, 7, 8, 9, 10, 11, 12, 13, 14, 15, 16, 17] rfl (s_W_law_B1107 hk449 h)
set_option maxRecDepth 20000 in
set_option maxHeartbeats 4000000 in
theorem s_W_law_B504 {X : Nat → Int32} {L : Nat} {k449 : AS → Option Nat → Option Nat → Option Nat → Option Nat → Option Nat → Option Nat → Option Nat → Option Nat → Option Nat → Option Nat → Option Nat → Option Nat → Option Nat → Option Nat → Option Nat → Int32 → Int32 → Option (Int32 × AS)} (hk449 : ∀ {S : AS} {x1 : Option Nat} {x2 : Option Nat} {x3 : Option Nat} {x4 : Option Nat} {x5 : Option Nat} {x6 : Option Nat} {x7 : Option Nat} {x8 : Option Nat} {x9 : Option Nat} {x10 : Option Nat} {x11 : Option Nat} {x12 : Option Nat} {x13 : Option Nat} {x14 : Option Nat} {x15 : Option Nat} {x17 : Int32} {x18 : Int32} {r : (Int32 × AS)}, k449 S x1 x2 x3 x4 x5 x6 x7 x8 x9 x10 x11 x12 x13 x14 x15 x17 x18 = some r → kr_AW (m_W_law X L) 16 449 [(0, va_rf (some 2)), (1, va_rf x1), (2, va_rf x2), (3, va_rf x3), (4, va_rf x4), (5, va_rf x5), (6, va_rf x6), (7, va_rf x7), (8, va_rf x8), (9, va_rf x9), (10, va_rf x10), (11, va_rf x11), (12, va_rf x12), (13, va_rf x13), (14, va_rf x14), (15, va_rf x15), (17, .int x17), (18, .int x18)] [] S (kr_eI r)) {S : AS} {x1 : Option Nat} {x2 : Option Nat} {x3 : Option Nat} {x4 : Option Nat} {x5 : Option Nat} {x6 : Option Nat} {x7 : Option Nat} {x8 : Option Nat} {x9 : Option Nat} {x10 : Option Nat} {x11 : Option Nat} {x12 : Option Nat} {x13 : Option Nat} {x14 : Option Nat} {x15 : Option Nat} {x18 : Int32} {x20 : Int32} {y0 : Int32} {r : (Int32 × AS)} (h : f_W_law_B504 X L k449 S x1 x2 x3 x4 x5 x6 x7 x8 x9 x10 x11 x12 x13 x14 x15 x18 x20 y0 = some r) : kr_AW (m_W_law X L) 16 504 [(0, va_rf (some 2)), (1, va_rf x1), (2, va_rf x2), (3, va_rf x3), (4, va_rf x4), (5, va_rf x5), (6, va_rf x6), (7, va_rf x7), (8, va_rf x8), (9, va_rf x9), (10, va_rf x10), (11, va_rf x11), (12, va_rf x12), (13, va_rf x13), (14, va_rf x14), (15, va_rf x15), (18, .int x18), (20, .int x20)] [.int y0] S (kr_eI r) := by
  unfold f_W_law_B504 at h
  refine r_istore (i := 21) (lv' := [(21, .int y0), (0, va_rf (some 2)), (1, va_rf x1), (2, va_rf x2), (3, va_rf x3), (4, va_rf x4), (5, va_rf x5), (6, va_rf x6), (7, va_rf x7), (8, va_rf x8), (9, va_rf x9), (10, va_rf x10), (11, va_rf x11), (12, va_rf x12), (13, va_rf x13), (14, va_rf x14), (15, va_rf x15), (18, .int x18), (20, .int x20)]) (by show (21 : Nat) < 22; decide) rfl d_W_law_504 ?_
  refine r_iload (i := 21) (x := y0) 0 rfl d_W_law_506 ?_
  refine r_iconst (v := (4 : Int32)) (by decide) d_W_law_508 ?_
  refine r_icmp_ge (tgt := 536) d_W_law_509 rfl (fun c => ?_) (fun c => ?_)
  · replace h := kr_ip c h
    refine r_iload (i := 21) (x := y0) 0 rfl d_W_law_536 ?_
    refine r_bipush (v := (8 : Int32)) (by decide) d_W_law_538 ?_
    refine r_icmp_ge (tgt := 567) d_W_law_540 rfl (fun c => ?_) (fun c => ?_)
    · replace h := kr_ip c h
      refine r_iload (i := 21) (x := y0) 0 rfl d_W_law_567 ?_
      refine r_bipush (v := (17 : Int32)) (by decide) d_W_law_569 ?_
      refine r_icmp_ge (tgt := 598) d_W_law_571 rfl (fun c => ?_) (fun c => ?_)
      · replace h := kr_ip c h
        refine r_iload (i := 21) (x := y0) 0 rfl d_W_law_598 ?_
        refine r_bipush (v := (20 : Int32)) (by decide) d_W_law_600 ?_
        refine r_icmp_ge (tgt := 632) d_W_law_602 rfl (fun c => ?_) (fun c => ?_)
        · replace h := kr_ip c h
          refine r_iload (i := 21) (x := y0) 0 rfl d_W_law_632 ?_
          refine r_bipush (v := (21 : Int32)) (by decide) d_W_law_634 ?_
          refine r_icmp_ge (tgt := 666) d_W_law_636 rfl (fun c => ?_) (fun c => ?_)
          · replace h := kr_ip c h
            refine r_iload (i := 21) (x := y0) 0 rfl d_W_law_666 ?_
            refine r_bipush (v := (23 : Int32)) (by decide) d_W_law_668 ?_
            refine r_icmp_ge (tgt := 700) d_W_law_670 rfl (fun c => ?_) (fun c => ?_)
            · replace h := kr_ip c h
              refine r_iload (i := 21) (x := y0) 0 rfl d_W_law_700 ?_
              refine r_bipush (v := (24 : Int32)) (by decide) d_W_law_702 ?_
              refine r_icmp_ge (tgt := 734) d_W_law_704 rfl (fun c => ?_) (fun c => ?_)
              · replace h := kr_ip c h
                refine r_iload (i := 21) (x := y0) 0 rfl d_W_law_734 ?_
                refine r_bipush (v := (25 : Int32)) (by decide) d_W_law_736 ?_
                refine r_icmp_ge (tgt := 768) d_W_law_738 rfl (fun c => ?_) (fun c => ?_)
                · replace h := kr_ip c h
                  refine r_iload (i := 21) (x := y0) 0 rfl d_W_law_768 ?_
                  refine r_bipush (v := (27 : Int32)) (by decide) d_W_law_770 ?_
                  refine r_icmp_ge (tgt := 800) d_W_law_772 rfl (fun c => ?_) (fun c => ?_)
                  · replace h := kr_ip c h
                    refine r_iload (i := 21) (x := y0) 0 rfl d_W_law_800 ?_
                    refine r_bipush (v := (28 : Int32)) (by decide) d_W_law_802 ?_
                    refine r_icmp_ge (tgt := 842) d_W_law_804 rfl (fun c => ?_) (fun c => ?_)
                    · replace h := kr_ip c h
                      refine r_iload (i := 21) (x := y0) 0 rfl d_W_law_842 ?_
                      refine r_bipush (v := (31 : Int32)) (by decide) d_W_law_844 ?_
                      refine r_icmp_ge (tgt := 874) d_W_law_846 rfl (fun c => ?_) (fun c => ?_)
                      · replace h := kr_ip c h
                        refine r_iload (i := 21) (x := y0) 0 rfl d_W_law_874 ?_
                        refine r_bipush (v := (33 : Int32)) (by decide) d_W_law_876 ?_
                        refine r_icmp_ge (tgt := 906) d_W_law_878 rfl (fun c => ?_) (fun c => ?_)
                        · replace h := kr_ip c h
                          refine r_iload (i := 21) (x := y0) 0 rfl d_W_law_906 ?_
                          refine r_bipush (v := (35 : Int32)) (by decide) d_W_law_908 ?_
                          refine r_icmp_ge (tgt := 940) d_W_law_910 rfl (fun c => ?_) (fun c => ?_)
                          · replace h := kr_ip c h
                            refine r_iload (i := 21) (x := y0) 0 rfl d_W_law_940 ?_
                            refine r_bipush (v := (36 : Int32)) (by decide) d_W_law_942 ?_
                            refine r_icmp_ge (tgt := 974) d_W_law_944 rfl (fun c => ?_) (fun c => ?_)
                            · replace h := kr_ip c h
                              refine r_iload (i := 21) (x := y0) 0 rfl d_W_law_974 ?_
                              refine r_bipush (v := (37 : Int32)) (by decide) d_W_law_976 ?_
                              refine r_icmp_ge (tgt := 1008) d_W_law_978 rfl (fun c => ?_) (fun c => ?_)
                              · replace h := kr_ip c h
                                refine r_iload (i := 21) (x := y0) 0 rfl d_W_law_1008 ?_
                                refine r_bipush (v := (38 : Int32)) (by decide) d_W_law_1010 ?_
                                refine r_icmp_ge (tgt := 1042) d_W_law_1012 rfl (fun c => ?_) (fun c => ?_)
                                · replace h := kr_ip c h
                                  refine r_aload_n (i := 1) (x := x1) 2 rfl d_W_law_1042 ?_
                                  refine r_iconst (v := (4 : Int32)) (by decide) d_W_law_1043 ?_
                                  refine r_iload (i := 20) (x := x20) 18 rfl d_W_law_1044 ?_
                                  refine r_aload_n (i := 2) (x := x2) 3 rfl d_W_law_1046 ?_
                                  refine r_aload (i := 8) (x := x8) 9 rfl d_W_law_1047 ?_
                                  refine r_aload (i := 9) (x := x9) 10 rfl d_W_law_1049 ?_
                                  refine r_aload (i := 10) (x := x10) 11 rfl d_W_law_1051 ?_
                                  refine r_aload (i := 11) (x := x11) 12 rfl d_W_law_1053 ?_
                                  refine r_aload (i := 12) (x := x12) 13 rfl d_W_law_1055 ?_
                                  refine r_aload (i := 13) (x := x13) 14 rfl d_W_law_1057 ?_
                                  refine r_aload (i := 14) (x := x14) 15 rfl d_W_law_1059 ?_
                                  refine r_aload (i := 15) (x := x15) 16 rfl d_W_law_1061 ?_
                                  have h2 := kr_ob2 h
                                  clear h
                                  obtain ⟨v6, S5, eS5, h⟩ := h2
                                  refine r_callSL (M1 := m_W_tokens) (As := [va_rf x1, .int (4 : Int32), .int x20, va_rf x2, va_rf x8, va_rf x9, va_rf x10, va_rf x11, va_rf x12, va_rf x13, va_rf x14, va_rf x15]) (s_W_tokens eS5) mok_W_tokens rfl w1339 w1340 (by decide) (kr_c8 kr_c0) d_W_law_1063 (kr_k1 ?_) kr_kn
                                  exact kr_sub [1, 2, 3, 4, 5, 6, 7, 8, 9, 10, 11, 12, 13, 14, 15, 16, 17, 18] rfl (s_W_law_B1066 hk449 h)
                                · replace h := kr_in_ c h
                                  refine r_aload_n (i := 1) (x := x1) 2 rfl d_W_law_1015 ?_
                                  refine r_iconst (v := (3 : Int32)) (by decide) d_W_law_1016 ?_
                                  refine r_iload (i := 20) (x := x20) 18 rfl d_W_law_1017 ?_
                                  refine r_aload_n (i := 2) (x := x2) 3 rfl d_W_law_1019 ?_
                                  refine r_aload (i := 8) (x := x8) 9 rfl d_W_law_1020 ?_
                                  refine r_aload (i := 9) (x := x9) 10 rfl d_W_law_1022 ?_
                                  refine r_aload (i := 10) (x := x10) 11 rfl d_W_law_1024 ?_
                                  refine r_aload (i := 11) (x := x11) 12 rfl d_W_law_1026 ?_
                                  refine r_aload (i := 12) (x := x12) 13 rfl d_W_law_1028 ?_
                                  refine r_aload (i := 13) (x := x13) 14 rfl d_W_law_1030 ?_
                                  refine r_aload (i := 14) (x := x14) 15 rfl d_W_law_1032 ?_
                                  refine r_aload (i := 15) (x := x15) 16 rfl d_W_law_1034 ?_
                                  have h2 := kr_ob2 h
                                  clear h
                                  obtain ⟨v8, S7, eS7, h⟩ := h2
                                  refine r_callSL (M1 := m_W_tokens) (As := [va_rf x1, .int (3 : Int32), .int x20, va_rf x2, va_rf x8, va_rf x9, va_rf x10, va_rf x11, va_rf x12, va_rf x13, va_rf x14, va_rf x15]) (s_W_tokens eS7) mok_W_tokens rfl w1339 w1340 (by decide) (kr_c8 kr_c0) d_W_law_1036 (kr_k1 ?_) kr_kn
                                  refine r_goto (tgt := 1066) d_W_law_1039 rfl ?_
                                  exact kr_sub [1, 2, 3, 4, 5, 6, 7, 8, 9, 10, 11, 12, 13, 14, 15, 16, 17, 18] rfl (s_W_law_B1066 hk449 h)
                              · replace h := kr_in_ c h
                                refine r_aload_n (i := 1) (x := x1) 2 rfl d_W_law_981 ?_
                                refine r_iconst (v := (2 : Int32)) (by decide) d_W_law_982 ?_
                                refine r_iload (i := 20) (x := x20) 18 rfl d_W_law_983 ?_
                                refine r_aload_n (i := 2) (x := x2) 3 rfl d_W_law_985 ?_
                                refine r_aload (i := 8) (x := x8) 9 rfl d_W_law_986 ?_
                                refine r_aload (i := 9) (x := x9) 10 rfl d_W_law_988 ?_
                                refine r_aload (i := 10) (x := x10) 11 rfl d_W_law_990 ?_
                                refine r_aload (i := 11) (x := x11) 12 rfl d_W_law_992 ?_
                                refine r_aload (i := 12) (x := x12) 13 rfl d_W_law_994 ?_
                                refine r_aload (i := 13) (x := x13) 14 rfl d_W_law_996 ?_
                                refine r_aload (i := 14) (x := x14) 15 rfl d_W_law_998 ?_
                                refine r_aload (i := 15) (x := x15) 16 rfl d_W_law_1000 ?_
                                have h2 := kr_ob2 h
                                clear h
                                obtain ⟨v10, S9, eS9, h⟩ := h2
                                refine r_callSL (M1 := m_W_tokens) (As := [va_rf x1, .int (2 : Int32), .int x20, va_rf x2, va_rf x8, va_rf x9, va_rf x10, va_rf x11, va_rf x12, va_rf x13, va_rf x14, va_rf x15]) (s_W_tokens eS9) mok_W_tokens rfl w1339 w1340 (by decide) (kr_c8 kr_c0) d_W_law_1002 (kr_k1 ?_) kr_kn
                                refine r_goto (tgt := 1066) d_W_law_1005 rfl ?_
                                exact kr_sub [1, 2, 3, 4, 5, 6, 7, 8, 9, 10, 11, 12, 13, 14, 15, 16, 17, 18] rfl (s_W_law_B1066 hk449 h)
                            · replace h := kr_in_ c h
                              refine r_aload_n (i := 1) (x := x1) 2 rfl d_W_law_947 ?_
                              refine r_iconst (v := (1 : Int32)) (by decide) d_W_law_948 ?_
                              refine r_iload (i := 20) (x := x20) 18 rfl d_W_law_949 ?_
                              refine r_aload_n (i := 2) (x := x2) 3 rfl d_W_law_951 ?_
                              refine r_aload (i := 8) (x := x8) 9 rfl d_W_law_952 ?_
                              refine r_aload (i := 9) (x := x9) 10 rfl d_W_law_954 ?_
                              refine r_aload (i := 10) (x := x10) 11 rfl d_W_law_956 ?_
                              refine r_aload (i := 11) (x := x11) 12 rfl d_W_law_958 ?_
                              refine r_aload (i := 12) (x := x12) 13 rfl d_W_law_960 ?_
                              refine r_aload (i := 13) (x := x13) 14 rfl d_W_law_962 ?_
                              refine r_aload (i := 14) (x := x14) 15 rfl d_W_law_964 ?_
                              refine r_aload (i := 15) (x := x15) 16 rfl d_W_law_966 ?_
                              have h2 := kr_ob2 h
                              clear h
                              obtain ⟨v12, S11, eS11, h⟩ := h2
                              refine r_callSL (M1 := m_W_tokens) (As := [va_rf x1, .int (1 : Int32), .int x20, va_rf x2, va_rf x8, va_rf x9, va_rf x10, va_rf x11, va_rf x12, va_rf x13, va_rf x14, va_rf x15]) (s_W_tokens eS11) mok_W_tokens rfl w1339 w1340 (by decide) (kr_c8 kr_c0) d_W_law_968 (kr_k1 ?_) kr_kn
                              refine r_goto (tgt := 1066) d_W_law_971 rfl ?_
                              exact kr_sub [1, 2, 3, 4, 5, 6, 7, 8, 9, 10, 11, 12, 13, 14, 15, 16, 17, 18] rfl (s_W_law_B1066 hk449 h)
                          · replace h := kr_in_ c h
                            refine r_aload_n (i := 1) (x := x1) 2 rfl d_W_law_913 ?_
                            refine r_iconst (v := (0 : Int32)) (by decide) d_W_law_914 ?_
                            refine r_iload (i := 20) (x := x20) 18 rfl d_W_law_915 ?_
                            refine r_aload_n (i := 2) (x := x2) 3 rfl d_W_law_917 ?_
                            refine r_aload (i := 8) (x := x8) 9 rfl d_W_law_918 ?_
                            refine r_aload (i := 9) (x := x9) 10 rfl d_W_law_920 ?_
                            refine r_aload (i := 10) (x := x10) 11 rfl d_W_law_922 ?_
                            refine r_aload (i := 11) (x := x11) 12 rfl d_W_law_924 ?_
                            refine r_aload (i := 12) (x := x12) 13 rfl d_W_law_926 ?_
                            refine r_aload (i := 13) (x := x13) 14 rfl d_W_law_928 ?_
                            refine r_aload (i := 14) (x := x14) 15 rfl d_W_law_930 ?_
                            refine r_aload (i := 15) (x := x15) 16 rfl d_W_law_932 ?_
                            have h2 := kr_ob2 h
                            clear h
                            obtain ⟨v14, S13, eS13, h⟩ := h2
                            refine r_callSL (M1 := m_W_tokens) (As := [va_rf x1, .int (0 : Int32), .int x20, va_rf x2, va_rf x8, va_rf x9, va_rf x10, va_rf x11, va_rf x12, va_rf x13, va_rf x14, va_rf x15]) (s_W_tokens eS13) mok_W_tokens rfl w1339 w1340 (by decide) (kr_c8 kr_c0) d_W_law_934 (kr_k1 ?_) kr_kn
                            refine r_goto (tgt := 1066) d_W_law_937 rfl ?_
                            exact kr_sub [1, 2, 3, 4, 5, 6, 7, 8, 9, 10, 11, 12, 13, 14, 15, 16, 17, 18] rfl (s_W_law_B1066 hk449 h)
                        · replace h := kr_in_ c h
                          refine r_aload_n (i := 1) (x := x1) 2 rfl d_W_law_881 ?_
                          refine r_iconst (v := (4 : Int32)) (by decide) d_W_law_882 ?_
                          refine r_iload (i := 20) (x := x20) 18 rfl d_W_law_883 ?_
                          refine r_aload_n (i := 2) (x := x2) 3 rfl d_W_law_885 ?_
                          refine r_aload (i := 8) (x := x8) 9 rfl d_W_law_886 ?_
                          refine r_aload (i := 9) (x := x9) 10 rfl d_W_law_888 ?_
                          refine r_aload (i := 10) (x := x10) 11 rfl d_W_law_890 ?_
                          refine r_aload (i := 11) (x := x11) 12 rfl d_W_law_892 ?_
                          refine r_aload (i := 12) (x := x12) 13 rfl d_W_law_894 ?_
                          refine r_aload (i := 14) (x := x14) 15 rfl d_W_law_896 ?_
                          refine r_aload (i := 15) (x := x15) 16 rfl d_W_law_898 ?_
                          have h2 := kr_ob2 h
                          clear h
                          obtain ⟨v16, S15, eS15, h⟩ := h2
                          refine r_callSL (M1 := m_W_grants) (As := [va_rf x1, .int (4 : Int32), .int x20, va_rf x2, va_rf x8, va_rf x9, va_rf x10, va_rf x11, va_rf x12, va_rf x14, va_rf x15]) (s_W_grants eS15) mok_W_grants rfl w1330 w1331 (by decide) (kr_c8 kr_c0) d_W_law_900 (kr_k1 ?_) kr_kn
                          refine r_goto (tgt := 1066) d_W_law_903 rfl ?_
                          exact kr_sub [1, 2, 3, 4, 5, 6, 7, 8, 9, 10, 11, 12, 13, 14, 15, 16, 17, 18] rfl (s_W_law_B1066 hk449 h)
                      · replace h := kr_in_ c h
                        refine r_aload_n (i := 1) (x := x1) 2 rfl d_W_law_849 ?_
                        refine r_iconst (v := (3 : Int32)) (by decide) d_W_law_850 ?_
                        refine r_iload (i := 20) (x := x20) 18 rfl d_W_law_851 ?_
                        refine r_aload_n (i := 2) (x := x2) 3 rfl d_W_law_853 ?_
                        refine r_aload (i := 8) (x := x8) 9 rfl d_W_law_854 ?_
                        refine r_aload (i := 9) (x := x9) 10 rfl d_W_law_856 ?_
                        refine r_aload (i := 10) (x := x10) 11 rfl d_W_law_858 ?_
                        refine r_aload (i := 11) (x := x11) 12 rfl d_W_law_860 ?_
                        refine r_aload (i := 12) (x := x12) 13 rfl d_W_law_862 ?_
                        refine r_aload (i := 14) (x := x14) 15 rfl d_W_law_864 ?_
                        refine r_aload (i := 15) (x := x15) 16 rfl d_W_law_866 ?_
                        have h2 := kr_ob2 h
                        clear h
                        obtain ⟨v18, S17, eS17, h⟩ := h2
                        refine r_callSL (M1 := m_W_grants) (As := [va_rf x1, .int (3 : Int32), .int x20, va_rf x2, va_rf x8, va_rf x9, va_rf x10, va_rf x11, va_rf x12, va_rf x14, va_rf x15]) (s_W_grants eS17) mok_W_grants rfl w1330 w1331 (by decide) (kr_c8 kr_c0) d_W_law_868 (kr_k1 ?_) kr_kn
                        refine r_goto (tgt := 1066) d_W_law_871 rfl ?_
                        exact kr_sub [1, 2, 3, 4, 5, 6, 7, 8, 9, 10, 11, 12, 13, 14, 15, 16, 17, 18] rfl (s_W_law_B1066 hk449 h)
                    · replace h := kr_in_ c h
                      refine r_aload_n (i := 1) (x := x1) 2 rfl d_W_law_807 ?_
                      refine r_iload (i := 20) (x := x20) 18 rfl d_W_law_808 ?_
                      refine r_bipush (v := (9 : Int32)) (by decide) d_W_law_810 ?_
                      refine r_ishr d_W_law_812 ?_
                      refine r_iconst (v := (2 : Int32)) (by decide) d_W_law_813 ?_
                      have h2 := kr_ob2 h
                      clear h
                      obtain ⟨v20, S19, eS19, h⟩ := h2
                      refine r_callS (M1 := m_W_some) (As := [.int (x20 >>> ((9 : Int32) &&& 31)), .int (2 : Int32)]) (s_W_some eS19) mok_W_some rfl w311 w312 (by decide) (kr_c8 (kr_cR kr_c0)) d_W_law_814 (kr_k1 ?_) kr_kn
                      refine r_iconst (v := (1 : Int32)) (by decide) d_W_law_817 ?_
                      refine r_iadd d_W_law_818 ?_
                      refine r_iload (i := 20) (x := x20) 18 rfl d_W_law_819 ?_
                      refine r_aload_n (i := 2) (x := x2) 3 rfl d_W_law_821 ?_
                      refine r_aload (i := 8) (x := x8) 9 rfl d_W_law_822 ?_
                      refine r_aload (i := 9) (x := x9) 10 rfl d_W_law_824 ?_
                      refine r_aload (i := 10) (x := x10) 11 rfl d_W_law_826 ?_
                      refine r_aload (i := 11) (x := x11) 12 rfl d_W_law_828 ?_
                      refine r_aload (i := 12) (x := x12) 13 rfl d_W_law_830 ?_
                      refine r_aload (i := 14) (x := x14) 15 rfl d_W_law_832 ?_
                      refine r_aload (i := 15) (x := x15) 16 rfl d_W_law_834 ?_
                      have h2 := kr_ob2 h
                      clear h
                      obtain ⟨v22, S21, eS21, h⟩ := h2
                      refine r_callSL (M1 := m_W_grants) (As := [va_rf x1, .int (v20 + (1 : Int32)), .int x20, va_rf x2, va_rf x8, va_rf x9, va_rf x10, va_rf x11, va_rf x12, va_rf x14, va_rf x15]) (s_W_grants eS21) mok_W_grants rfl w1330 w1331 (by decide) (kr_c8 kr_c0) d_W_law_836 (kr_k1 ?_) kr_kn
                      refine r_goto (tgt := 1066) d_W_law_839 rfl ?_
                      exact kr_sub [1, 2, 3, 4, 5, 6, 7, 8, 9, 10, 11, 12, 13, 14, 15, 16, 17, 18] rfl (s_W_law_B1066 hk449 h)
                  · replace h := kr_in_ c h
                    refine r_aload_n (i := 1) (x := x1) 2 rfl d_W_law_775 ?_
                    refine r_iconst (v := (0 : Int32)) (by decide) d_W_law_776 ?_
                    refine r_iload (i := 20) (x := x20) 18 rfl d_W_law_777 ?_
                    refine r_aload_n (i := 2) (x := x2) 3 rfl d_W_law_779 ?_
                    refine r_aload (i := 8) (x := x8) 9 rfl d_W_law_780 ?_
                    refine r_aload (i := 9) (x := x9) 10 rfl d_W_law_782 ?_
                    refine r_aload (i := 10) (x := x10) 11 rfl d_W_law_784 ?_
                    refine r_aload (i := 11) (x := x11) 12 rfl d_W_law_786 ?_
                    refine r_aload (i := 12) (x := x12) 13 rfl d_W_law_788 ?_
                    refine r_aload (i := 14) (x := x14) 15 rfl d_W_law_790 ?_
                    refine r_aload (i := 15) (x := x15) 16 rfl d_W_law_792 ?_
                    have h2 := kr_ob2 h
                    clear h
                    obtain ⟨v24, S23, eS23, h⟩ := h2
                    refine r_callSL (M1 := m_W_grants) (As := [va_rf x1, .int (0 : Int32), .int x20, va_rf x2, va_rf x8, va_rf x9, va_rf x10, va_rf x11, va_rf x12, va_rf x14, va_rf x15]) (s_W_grants eS23) mok_W_grants rfl w1330 w1331 (by decide) (kr_c8 kr_c0) d_W_law_794 (kr_k1 ?_) kr_kn
                    refine r_goto (tgt := 1066) d_W_law_797 rfl ?_
                    exact kr_sub [1, 2, 3, 4, 5, 6, 7, 8, 9, 10, 11, 12, 13, 14, 15, 16, 17, 18] rfl (s_W_law_B1066 hk449 h)
                · replace h := kr_in_ c h
                  refine r_aload_n (i := 1) (x := x1) 2 rfl d_W_law_741 ?_
                  refine r_iconst (v := (4 : Int32)) (by decide) d_W_law_742 ?_
                  refine r_iload (i := 20) (x := x20) 18 rfl d_W_law_743 ?_
                  refine r_aload_n (i := 2) (x := x2) 3 rfl d_W_law_745 ?_
                  refine r_aload (i := 4) (x := x4) 5 rfl d_W_law_746 ?_
                  refine r_aload (i := 8) (x := x8) 9 rfl d_W_law_748 ?_
                  refine r_aload (i := 9) (x := x9) 10 rfl d_W_law_750 ?_
                  refine r_aload (i := 10) (x := x10) 11 rfl d_W_law_752 ?_
                  refine r_aload (i := 11) (x := x11) 12 rfl d_W_law_754 ?_
                  refine r_aload (i := 12) (x := x12) 13 rfl d_W_law_756 ?_
                  refine r_aload (i := 13) (x := x13) 14 rfl d_W_law_758 ?_
                  refine r_aload (i := 14) (x := x14) 15 rfl d_W_law_760 ?_
                  have h2 := kr_ob2 h
                  clear h
                  obtain ⟨v26, S25, eS25, h⟩ := h2
                  refine r_callSL (M1 := m_W_sessions) (As := [va_rf x1, .int (4 : Int32), .int x20, va_rf x2, va_rf x4, va_rf x8, va_rf x9, va_rf x10, va_rf x11, va_rf x12, va_rf x13, va_rf x14]) (s_W_sessions eS25) mok_W_sessions rfl w1036 w1037 (by decide) (kr_c8 kr_c0) d_W_law_762 (kr_k1 ?_) kr_kn
                  refine r_goto (tgt := 1066) d_W_law_765 rfl ?_
                  exact kr_sub [1, 2, 3, 4, 5, 6, 7, 8, 9, 10, 11, 12, 13, 14, 15, 16, 17, 18] rfl (s_W_law_B1066 hk449 h)
              · replace h := kr_in_ c h
                refine r_aload_n (i := 1) (x := x1) 2 rfl d_W_law_707 ?_
                refine r_iconst (v := (3 : Int32)) (by decide) d_W_law_708 ?_
                refine r_iload (i := 20) (x := x20) 18 rfl d_W_law_709 ?_
                refine r_aload_n (i := 2) (x := x2) 3 rfl d_W_law_711 ?_
                refine r_aload (i := 4) (x := x4) 5 rfl d_W_law_712 ?_
                refine r_aload (i := 8) (x := x8) 9 rfl d_W_law_714 ?_
                refine r_aload (i := 9) (x := x9) 10 rfl d_W_law_716 ?_
                refine r_aload (i := 10) (x := x10) 11 rfl d_W_law_718 ?_
                refine r_aload (i := 11) (x := x11) 12 rfl d_W_law_720 ?_
                refine r_aload (i := 12) (x := x12) 13 rfl d_W_law_722 ?_
                refine r_aload (i := 13) (x := x13) 14 rfl d_W_law_724 ?_
                refine r_aload (i := 14) (x := x14) 15 rfl d_W_law_726 ?_
                have h2 := kr_ob2 h
                clear h
                obtain ⟨v28, S27, eS27, h⟩ := h2
                refine r_callSL (M1 := m_W_sessions) (As := [va_rf x1, .int (3 : Int32), .int x20, va_rf x2, va_rf x4, va_rf x8, va_rf x9, va_rf x10, va_rf x11, va_rf x12, va_rf x13, va_rf x14]) (s_W_sessions eS27) mok_W_sessions rfl w1036 w1037 (by decide) (kr_c8 kr_c0) d_W_law_728 (kr_k1 ?_) kr_kn
                refine r_goto (tgt := 1066) d_W_law_731 rfl ?_
                exact kr_sub [1, 2, 3, 4, 5, 6, 7, 8, 9, 10, 11, 12, 13, 14, 15, 16, 17, 18] rfl (s_W_law_B1066 hk449 h)
            · replace h := kr_in_ c h
              refine r_aload_n (i := 1) (x := x1) 2 rfl d_W_law_673 ?_
              refine r_iconst (v := (2 : Int32)) (by decide) d_W_law_674 ?_
              refine r_iload (i := 20) (x := x20) 18 rfl d_W_law_675 ?_
              refine r_aload_n (i := 2) (x := x2) 3 rfl d_W_law_677 ?_
              refine r_aload (i := 4) (x := x4) 5 rfl d_W_law_678 ?_
              refine r_aload (i := 8) (x := x8) 9 rfl d_W_law_680 ?_
              refine r_aload (i := 9) (x := x9) 10 rfl d_W_law_682 ?_
              refine r_aload (i := 10) (x := x10) 11 rfl d_W_law_684 ?_
              refine r_aload (i := 11) (x := x11) 12 rfl d_W_law_686 ?_
              refine r_aload (i := 12) (x := x12) 13 rfl d_W_law_688 ?_
              refine r_aload (i := 13) (x := x13) 14 rfl d_W_law_690 ?_
              refine r_aload (i := 14) (x := x14) 15 rfl d_W_law_692 ?_
              have h2 := kr_ob2 h
              clear h
              obtain ⟨v30, S29, eS29, h⟩ := h2
              refine r_callSL (M1 := m_W_sessions) (As := [va_rf x1, .int (2 : Int32), .int x20, va_rf x2, va_rf x4, va_rf x8, va_rf x9, va_rf x10, va_rf x11, va_rf x12, va_rf x13, va_rf x14]) (s_W_sessions eS29) mok_W_sessions rfl w1036 w1037 (by decide) (kr_c8 kr_c0) d_W_law_694 (kr_k1 ?_) kr_kn
              refine r_goto (tgt := 1066) d_W_law_697 rfl ?_
              exact kr_sub [1, 2, 3, 4, 5, 6, 7, 8, 9, 10, 11, 12, 13, 14, 15, 16, 17, 18] rfl (s_W_law_B1066 hk449 h)
          · replace h := kr_in_ c h
            refine r_aload_n (i := 1) (x := x1) 2 rfl d_W_law_639 ?_
            refine r_iconst (v := (1 : Int32)) (by decide) d_W_law_640 ?_
            refine r_iload (i := 20) (x := x20) 18 rfl d_W_law_641 ?_
            refine r_aload_n (i := 2) (x := x2) 3 rfl d_W_law_643 ?_
            refine r_aload (i := 4) (x := x4) 5 rfl d_W_law_644 ?_
            refine r_aload (i := 8) (x := x8) 9 rfl d_W_law_646 ?_
            refine r_aload (i := 9) (x := x9) 10 rfl d_W_law_648 ?_
            refine r_aload (i := 10) (x := x10) 11 rfl d_W_law_650 ?_
            refine r_aload (i := 11) (x := x11) 12 rfl d_W_law_652 ?_
            refine r_aload (i := 12) (x := x12) 13 rfl d_W_law_654 ?_
            refine r_aload (i := 13) (x := x13) 14 rfl d_W_law_656 ?_
            refine r_aload (i := 14) (x := x14) 15 rfl d_W_law_658 ?_
            have h2 := kr_ob2 h
            clear h
            obtain ⟨v32, S31, eS31, h⟩ := h2
            refine r_callSL (M1 := m_W_sessions) (As := [va_rf x1, .int (1 : Int32), .int x20, va_rf x2, va_rf x4, va_rf x8, va_rf x9, va_rf x10, va_rf x11, va_rf x12, va_rf x13, va_rf x14]) (s_W_sessions eS31) mok_W_sessions rfl w1036 w1037 (by decide) (kr_c8 kr_c0) d_W_law_660 (kr_k1 ?_) kr_kn
            refine r_goto (tgt := 1066) d_W_law_663 rfl ?_
            exact kr_sub [1, 2, 3, 4, 5, 6, 7, 8, 9, 10, 11, 12, 13, 14, 15, 16, 17, 18] rfl (s_W_law_B1066 hk449 h)
        · replace h := kr_in_ c h
          refine r_aload_n (i := 1) (x := x1) 2 rfl d_W_law_605 ?_
          refine r_iconst (v := (0 : Int32)) (by decide) d_W_law_606 ?_
          refine r_iload (i := 20) (x := x20) 18 rfl d_W_law_607 ?_
          refine r_aload_n (i := 2) (x := x2) 3 rfl d_W_law_609 ?_
          refine r_aload (i := 4) (x := x4) 5 rfl d_W_law_610 ?_
          refine r_aload (i := 8) (x := x8) 9 rfl d_W_law_612 ?_
          refine r_aload (i := 9) (x := x9) 10 rfl d_W_law_614 ?_
          refine r_aload (i := 10) (x := x10) 11 rfl d_W_law_616 ?_
          refine r_aload (i := 11) (x := x11) 12 rfl d_W_law_618 ?_
          refine r_aload (i := 12) (x := x12) 13 rfl d_W_law_620 ?_
          refine r_aload (i := 13) (x := x13) 14 rfl d_W_law_622 ?_
          refine r_aload (i := 14) (x := x14) 15 rfl d_W_law_624 ?_
          have h2 := kr_ob2 h
          clear h
          obtain ⟨v34, S33, eS33, h⟩ := h2
          refine r_callSL (M1 := m_W_sessions) (As := [va_rf x1, .int (0 : Int32), .int x20, va_rf x2, va_rf x4, va_rf x8, va_rf x9, va_rf x10, va_rf x11, va_rf x12, va_rf x13, va_rf x14]) (s_W_sessions eS33) mok_W_sessions rfl w1036 w1037 (by decide) (kr_c8 kr_c0) d_W_law_626 (kr_k1 ?_) kr_kn
          refine r_goto (tgt := 1066) d_W_law_629 rfl ?_
          exact kr_sub [1, 2, 3, 4, 5, 6, 7, 8, 9, 10, 11, 12, 13, 14, 15, 16, 17, 18] rfl (s_W_law_B1066 hk449 h)
      · replace h := kr_in_ c h
        refine r_aload_n (i := 1) (x := x1) 2 rfl d_W_law_574 ?_
        refine r_iconst (v := (2 : Int32)) (by decide) d_W_law_575 ?_
        refine r_iload (i := 20) (x := x20) 18 rfl d_W_law_576 ?_
        refine r_aload_n (i := 2) (x := x2) 3 rfl d_W_law_578 ?_
        refine r_aload_n (i := 3) (x := x3) 4 rfl d_W_law_579 ?_
        refine r_aload (i := 4) (x := x4) 5 rfl d_W_law_580 ?_
        refine r_aload (i := 5) (x := x5) 6 rfl d_W_law_582 ?_
        refine r_aload (i := 6) (x := x6) 7 rfl d_W_law_584 ?_
        refine r_aload (i := 7) (x := x7) 8 rfl d_W_law_586 ?_
        refine r_aload (i := 8) (x := x8) 9 rfl d_W_law_588 ?_
        refine r_aload (i := 9) (x := x9) 10 rfl d_W_law_590 ?_
        have h2 := kr_ob2 h
        clear h
        obtain ⟨v36, S35, eS35, h⟩ := h2
        refine r_callSL (M1 := m_W_attempts) (As := [va_rf x1, .int (2 : Int32), .int x20, va_rf x2, va_rf x3, va_rf x4, va_rf x5, va_rf x6, va_rf x7, va_rf x8, va_rf x9]) (s_W_attempts eS35) mok_W_attempts rfl w939 w940 (by decide) (kr_c8 kr_c0) d_W_law_592 (kr_k1 ?_) kr_kn
        refine r_goto (tgt := 1066) d_W_law_595 rfl ?_
        exact kr_sub [1, 2, 3, 4, 5, 6, 7, 8, 9, 10, 11, 12, 13, 14, 15, 16, 17, 18] rfl (s_W_law_B1066 hk449 h)
    · replace h := kr_in_ c h
      refine r_aload_n (i := 1) (x := x1) 2 rfl d_W_law_543 ?_
      refine r_iconst (v := (1 : Int32)) (by decide) d_W_law_544 ?_
      refine r_iload (i := 20) (x := x20) 18 rfl d_W_law_545 ?_
      refine r_aload_n (i := 2) (x := x2) 3 rfl d_W_law_547 ?_
      refine r_aload_n (i := 3) (x := x3) 4 rfl d_W_law_548 ?_
      refine r_aload (i := 4) (x := x4) 5 rfl d_W_law_549 ?_
      refine r_aload (i := 5) (x := x5) 6 rfl d_W_law_551 ?_
      refine r_aload (i := 6) (x := x6) 7 rfl d_W_law_553 ?_
      refine r_aload (i := 7) (x := x7) 8 rfl d_W_law_555 ?_
      refine r_aload (i := 8) (x := x8) 9 rfl d_W_law_557 ?_
      refine r_aload (i := 9) (x := x9) 10 rfl d_W_law_559 ?_
      have h2 := kr_ob2 h
      clear h
      obtain ⟨v38, S37, eS37, h⟩ := h2
      refine r_callSL (M1 := m_W_attempts) (As := [va_rf x1, .int (1 : Int32), .int x20, va_rf x2, va_rf x3, va_rf x4, va_rf x5, va_rf x6, va_rf x7, va_rf x8, va_rf x9]) (s_W_attempts eS37) mok_W_attempts rfl w939 w940 (by decide) (kr_c8 kr_c0) d_W_law_561 (kr_k1 ?_) kr_kn
      refine r_goto (tgt := 1066) d_W_law_564 rfl ?_
      exact kr_sub [1, 2, 3, 4, 5, 6, 7, 8, 9, 10, 11, 12, 13, 14, 15, 16, 17, 18] rfl (s_W_law_B1066 hk449 h)
  · replace h := kr_in_ c h
    refine r_aload_n (i := 1) (x := x1) 2 rfl d_W_law_512 ?_
    refine r_iconst (v := (0 : Int32)) (by decide) d_W_law_513 ?_
    refine r_iload (i := 20) (x := x20) 18 rfl d_W_law_514 ?_
    refine r_aload_n (i := 2) (x := x2) 3 rfl d_W_law_516 ?_
    refine r_aload_n (i := 3) (x := x3) 4 rfl d_W_law_517 ?_
    refine r_aload (i := 4) (x := x4) 5 rfl d_W_law_518 ?_
    refine r_aload (i := 5) (x := x5) 6 rfl d_W_law_520 ?_
    refine r_aload (i := 6) (x := x6) 7 rfl d_W_law_522 ?_
    refine r_aload (i := 7) (x := x7) 8 rfl d_W_law_524 ?_
    refine r_aload (i := 8) (x := x8) 9 rfl d_W_law_526 ?_
    refine r_aload (i := 9) (x := x9) 10 rfl d_W_law_528 ?_
    have h2 := kr_ob2 h
    clear h
    obtain ⟨v40, S39, eS39, h⟩ := h2
    refine r_callSL (M1 := m_W_attempts) (As := [va_rf x1, .int (0 : Int32), .int x20, va_rf x2, va_rf x3, va_rf x4, va_rf x5, va_rf x6, va_rf x7, va_rf x8, va_rf x9]) (s_W_attempts eS39) mok_W_attempts rfl w939 w940 (by decide) (kr_c8 kr_c0) d_W_law_530 (kr_k1 ?_) kr_kn
    refine r_goto (tgt := 1066) d_W_law_533 rfl ?_
    exact kr_sub [1, 2, 3, 4, 5, 6, 7, 8, 9, 10, 11, 12, 13, 14, 15, 16, 17, 18] rfl (s_W_law_B1066 hk449 h)
set_option maxRecDepth 20000 in
set_option maxHeartbeats 4000000 in
theorem s_W_law_C449 {X : Nat → Int32} {L : Nat} {k449 : AS → Option Nat → Option Nat → Option Nat → Option Nat → Option Nat → Option Nat → Option Nat → Option Nat → Option Nat → Option Nat → Option Nat → Option Nat → Option Nat → Option Nat → Option Nat → Int32 → Int32 → Option (Int32 × AS)} (hk449 : ∀ {S : AS} {x1 : Option Nat} {x2 : Option Nat} {x3 : Option Nat} {x4 : Option Nat} {x5 : Option Nat} {x6 : Option Nat} {x7 : Option Nat} {x8 : Option Nat} {x9 : Option Nat} {x10 : Option Nat} {x11 : Option Nat} {x12 : Option Nat} {x13 : Option Nat} {x14 : Option Nat} {x15 : Option Nat} {x17 : Int32} {x18 : Int32} {r : (Int32 × AS)}, k449 S x1 x2 x3 x4 x5 x6 x7 x8 x9 x10 x11 x12 x13 x14 x15 x17 x18 = some r → kr_AW (m_W_law X L) 16 449 [(0, va_rf (some 2)), (1, va_rf x1), (2, va_rf x2), (3, va_rf x3), (4, va_rf x4), (5, va_rf x5), (6, va_rf x6), (7, va_rf x7), (8, va_rf x8), (9, va_rf x9), (10, va_rf x10), (11, va_rf x11), (12, va_rf x12), (13, va_rf x13), (14, va_rf x14), (15, va_rf x15), (17, .int x17), (18, .int x18)] [] S (kr_eI r)) {S : AS} {x1 : Option Nat} {x2 : Option Nat} {x3 : Option Nat} {x4 : Option Nat} {x5 : Option Nat} {x6 : Option Nat} {x7 : Option Nat} {x8 : Option Nat} {x9 : Option Nat} {x10 : Option Nat} {x11 : Option Nat} {x12 : Option Nat} {x13 : Option Nat} {x14 : Option Nat} {x15 : Option Nat} {x17 : Int32} {x18 : Int32} {r : (Int32 × AS)} (h : f_W_law_C449 X L k449 S x1 x2 x3 x4 x5 x6 x7 x8 x9 x10 x11 x12 x13 x14 x15 x17 x18 = some r) : kr_AW (m_W_law X L) 16 449 [(0, va_rf (some 2)), (1, va_rf x1), (2, va_rf x2), (3, va_rf x3), (4, va_rf x4), (5, va_rf x5), (6, va_rf x6), (7, va_rf x7), (8, va_rf x8), (9, va_rf x9), (10, va_rf x10), (11, va_rf x11), (12, va_rf x12), (13, va_rf x13), (14, va_rf x14), (15, va_rf x15), (17, .int x17), (18, .int x18)] [] S (kr_eI r) := by
  unfold f_W_law_C449 at h
  refine r_iload (i := 18) (x := x18) 17 rfl d_W_law_449 ?_
  refine r_sipush (v := (150 : Int32)) (by decide) d_W_law_451 ?_
  refine r_icmp_ge (tgt := 1115) d_W_law_454 rfl (fun c => ?_) (fun c => ?_)
  · replace h := kr_ip c h
    refine r_iload (i := 17) (x := x17) 16 rfl d_W_law_1115 ?_
    have h2 := kr_ob h
    clear h
    obtain ⟨⟨⟩, eu41, h⟩ := h2
    cases h
    exact r_zret rfl eu41 d_W_law_1117
  · replace h := kr_in_ c h
    refine r_iload (i := 17) (x := x17) 16 rfl d_W_law_457 ?_
    refine r_if_eq (tgt := 1115) d_W_law_459 rfl (fun c => ?_) (fun c => ?_)
    · replace h := kr_ip c h
      refine r_iload (i := 17) (x := x17) 16 rfl d_W_law_1115 ?_
      have h2 := kr_ob h
      clear h
      obtain ⟨⟨⟩, eu42, h⟩ := h2
      cases h
      exact r_zret rfl eu42 d_W_law_1117
    · replace h := kr_in_ c h
      refine r_aload_n (i := 0) (x := (some 2)) 0 rfl d_W_law_462 ?_
      refine r_iload (i := 18) (x := x18) 17 rfl d_W_law_463 ?_
      refine r_bipush (v := (83 : Int32)) (by decide) d_W_law_465 ?_
      refine r_irem (by decide) d_W_law_467 ?_
      have h2 := kr_ob2 h
      clear h
      obtain ⟨v44, S43, eS43, h⟩ := h2
      refine r_callSC (M1 := m_W_cell X L) (As := [va_rf (some 2), .int (x18 - x18 / (83 : Int32) * (83 : Int32))]) rfl (s_W_cell eS43) mok_W_cell rfl w307 w308 (by decide) (kr_c8 kr_c0) d_W_law_468 (kr_k1 ?_) kr_kn
      refine r_iload (i := 18) (x := x18) 17 rfl d_W_law_471 ?_
      refine r_ldcw (v := (15485863 : Int32)) w1354 d_W_law_473 ?_
      refine r_imul d_W_law_476 ?_
      refine r_ixor d_W_law_477 ?_
      have h2 := kr_ob h
      clear h
      obtain ⟨i45, ei45, h⟩ := h2
      refine kr_nmI ei45 ?_
      refine r_istore (i := 19) (lv' := [(19, .int i45), (0, va_rf (some 2)), (1, va_rf x1), (2, va_rf x2), (3, va_rf x3), (4, va_rf x4), (5, va_rf x5), (6, va_rf x6), (7, va_rf x7), (8, va_rf x8), (9, va_rf x9), (10, va_rf x10), (11, va_rf x11), (12, va_rf x12), (13, va_rf x13), (14, va_rf x14), (15, va_rf x15), (17, .int x17), (18, .int x18)]) (by show (19 : Nat) < 22; decide) rfl d_W_law_478 ?_
      refine r_iload (i := 19) (x := i45) 0 rfl d_W_law_480 ?_
      refine r_iconst (v := (4 : Int32)) (by decide) d_W_law_482 ?_
      refine r_ishr d_W_law_483 ?_
      have h2 := kr_ob h
      clear h
      obtain ⟨i46, ei46, h⟩ := h2
      refine kr_nmI ei46 ?_
      refine r_istore (i := 20) (lv' := [(20, .int i46), (19, .int i45), (0, va_rf (some 2)), (1, va_rf x1), (2, va_rf x2), (3, va_rf x3), (4, va_rf x4), (5, va_rf x5), (6, va_rf x6), (7, va_rf x7), (8, va_rf x8), (9, va_rf x9), (10, va_rf x10), (11, va_rf x11), (12, va_rf x12), (13, va_rf x13), (14, va_rf x14), (15, va_rf x15), (17, .int x17), (18, .int x18)]) (by show (20 : Nat) < 22; decide) rfl d_W_law_484 ?_
      refine r_iload (i := 18) (x := x18) 19 rfl d_W_law_486 ?_
      refine r_bipush (v := (6 : Int32)) (by decide) d_W_law_488 ?_
      refine r_icmp_ge (tgt := 497) d_W_law_490 rfl (fun c => ?_) (fun c => ?_)
      · replace h := kr_ip c h
        refine r_iload (i := 19) (x := i45) 1 rfl d_W_law_497 ?_
        refine r_bipush (v := (40 : Int32)) (by decide) d_W_law_499 ?_
        have h2 := kr_ob2 h
        clear h
        obtain ⟨v48, S47, eS47, h⟩ := h2
        refine r_callS (M1 := m_W_some) (As := [.int i45, .int (40 : Int32)]) (s_W_some eS47) mok_W_some rfl w311 w312 (by decide) (kr_c8 kr_c0) d_W_law_501 (kr_k1 ?_) kr_kn
        exact kr_sub [2, 3, 4, 5, 6, 7, 8, 9, 10, 11, 12, 13, 14, 15, 16, 17, 19, 0] rfl (s_W_law_B504 hk449 h)
      · replace h := kr_in_ c h
        refine r_iconst (v := (0 : Int32)) (by decide) d_W_law_493 ?_
        refine r_goto (tgt := 504) d_W_law_494 rfl ?_
        exact kr_sub [2, 3, 4, 5, 6, 7, 8, 9, 10, 11, 12, 13, 14, 15, 16, 17, 19, 0] rfl (s_W_law_B504 hk449 h)
theorem s_W_law_L449 {X : Nat → Int32} {L : Nat} (n : Nat) : ∀ {S : AS} {x1 : Option Nat} {x2 : Option Nat} {x3 : Option Nat} {x4 : Option Nat} {x5 : Option Nat} {x6 : Option Nat} {x7 : Option Nat} {x8 : Option Nat} {x9 : Option Nat} {x10 : Option Nat} {x11 : Option Nat} {x12 : Option Nat} {x13 : Option Nat} {x14 : Option Nat} {x15 : Option Nat} {x17 : Int32} {x18 : Int32} {r : (Int32 × AS)}, f_W_law_L449 X L n S x1 x2 x3 x4 x5 x6 x7 x8 x9 x10 x11 x12 x13 x14 x15 x17 x18 = some r → kr_AW (m_W_law X L) 16 449 [(0, va_rf (some 2)), (1, va_rf x1), (2, va_rf x2), (3, va_rf x3), (4, va_rf x4), (5, va_rf x5), (6, va_rf x6), (7, va_rf x7), (8, va_rf x8), (9, va_rf x9), (10, va_rf x10), (11, va_rf x11), (12, va_rf x12), (13, va_rf x13), (14, va_rf x14), (15, va_rf x15), (17, .int x17), (18, .int x18)] [] S (kr_eI r) := by
  induction n with
  | zero => intro S x1 x2 x3 x4 x5 x6 x7 x8 x9 x10 x11 x12 x13 x14 x15 x17 x18 r h; cases h
  | succ n ih => intro S x1 x2 x3 x4 x5 x6 x7 x8 x9 x10 x11 x12 x13 x14 x15 x17 x18 r h; exact s_W_law_C449 (fun {_} {_} {_} {_} {_} {_} {_} {_} {_} {_} {_} {_} {_} {_} {_} {_} {_} {_} {_} h => ih h) h
set_option maxRecDepth 20000 in
set_option maxHeartbeats 4000000 in
theorem s_W_law_B444 {X : Nat → Int32} {L : Nat} {S : AS} {x1 : Option Nat} {x2 : Option Nat} {x3 : Option Nat} {x4 : Option Nat} {x5 : Option Nat} {x6 : Option Nat} {x7 : Option Nat} {x8 : Option Nat} {x9 : Option Nat} {x10 : Option Nat} {x11 : Option Nat} {x12 : Option Nat} {x13 : Option Nat} {x14 : Option Nat} {x15 : Option Nat} {y0 : Int32} {r : (Int32 × AS)} (h : f_W_law_B444 X L S x1 x2 x3 x4 x5 x6 x7 x8 x9 x10 x11 x12 x13 x14 x15 y0 = some r) : kr_AW (m_W_law X L) 16 444 [(0, va_rf (some 2)), (1, va_rf x1), (2, va_rf x2), (3, va_rf x3), (4, va_rf x4), (5, va_rf x5), (6, va_rf x6), (7, va_rf x7), (8, va_rf x8), (9, va_rf x9), (10, va_rf x10), (11, va_rf x11), (12, va_rf x12), (13, va_rf x13), (14, va_rf x14), (15, va_rf x15)] [.int y0] S (kr_eI r) := by
  unfold f_W_law_B444 at h
  refine r_istore (i := 17) (lv' := [(17, .int y0), (0, va_rf (some 2)), (1, va_rf x1), (2, va_rf x2), (3, va_rf x3), (4, va_rf x4), (5, va_rf x5), (6, va_rf x6), (7, va_rf x7), (8, va_rf x8), (9, va_rf x9), (10, va_rf x10), (11, va_rf x11), (12, va_rf x12), (13, va_rf x13), (14, va_rf x14), (15, va_rf x15)]) (by show (17 : Nat) < 22; decide) rfl d_W_law_444 ?_
  refine r_iconst (v := (0 : Int32)) (by decide) d_W_law_446 ?_
  refine r_istore (i := 18) (lv' := [(18, .int (0 : Int32)), (17, .int y0), (0, va_rf (some 2)), (1, va_rf x1), (2, va_rf x2), (3, va_rf x3), (4, va_rf x4), (5, va_rf x5), (6, va_rf x6), (7, va_rf x7), (8, va_rf x8), (9, va_rf x9), (10, va_rf x10), (11, va_rf x11), (12, va_rf x12), (13, va_rf x13), (14, va_rf x14), (15, va_rf x15)]) (by show (18 : Nat) < 22; decide) rfl d_W_law_447 ?_
  exact kr_sub [2, 3, 4, 5, 6, 7, 8, 9, 10, 11, 12, 13, 14, 15, 16, 17, 1, 0] rfl (s_W_law_L449 kr_FU h)
set_option maxRecDepth 20000 in
set_option maxHeartbeats 4000000 in
theorem s_W_law_B443 {X : Nat → Int32} {L : Nat} {S : AS} {x1 : Option Nat} {x2 : Option Nat} {x3 : Option Nat} {x4 : Option Nat} {x5 : Option Nat} {x6 : Option Nat} {x7 : Option Nat} {x8 : Option Nat} {x9 : Option Nat} {x10 : Option Nat} {x11 : Option Nat} {x12 : Option Nat} {x13 : Option Nat} {x14 : Option Nat} {x15 : Option Nat} {r : (Int32 × AS)} (h : f_W_law_B443 X L S x1 x2 x3 x4 x5 x6 x7 x8 x9 x10 x11 x12 x13 x14 x15 = some r) : kr_AW (m_W_law X L) 16 443 [(0, va_rf (some 2)), (1, va_rf x1), (2, va_rf x2), (3, va_rf x3), (4, va_rf x4), (5, va_rf x5), (6, va_rf x6), (7, va_rf x7), (8, va_rf x8), (9, va_rf x9), (10, va_rf x10), (11, va_rf x11), (12, va_rf x12), (13, va_rf x13), (14, va_rf x14), (15, va_rf x15)] [] S (kr_eI r) := by
  unfold f_W_law_B443 at h
  refine r_iconst (v := (0 : Int32)) (by decide) d_W_law_443 ?_
  exact kr_sub [0, 1, 2, 3, 4, 5, 6, 7, 8, 9, 10, 11, 12, 13, 14, 15] rfl (s_W_law_B444 h)
set_option maxRecDepth 20000 in
set_option maxHeartbeats 4000000 in
theorem s_W_law_C342 {X : Nat → Int32} {L : Nat} {k342 : AS → Option Nat → Option Nat → Option Nat → Option Nat → Option Nat → Option Nat → Option Nat → Option Nat → Option Nat → Option Nat → Option Nat → Option Nat → Option Nat → Option Nat → Option Nat → Int32 → Int32 → Option (Int32 × AS)} (hk342 : ∀ {S : AS} {x1 : Option Nat} {x2 : Option Nat} {x3 : Option Nat} {x4 : Option Nat} {x5 : Option Nat} {x6 : Option Nat} {x7 : Option Nat} {x8 : Option Nat} {x9 : Option Nat} {x10 : Option Nat} {x11 : Option Nat} {x12 : Option Nat} {x13 : Option Nat} {x14 : Option Nat} {x15 : Option Nat} {x17 : Int32} {x18 : Int32} {r : (Int32 × AS)}, k342 S x1 x2 x3 x4 x5 x6 x7 x8 x9 x10 x11 x12 x13 x14 x15 x17 x18 = some r → kr_AW (m_W_law X L) 16 342 [(0, va_rf (some 2)), (1, va_rf x1), (2, va_rf x2), (3, va_rf x3), (4, va_rf x4), (5, va_rf x5), (6, va_rf x6), (7, va_rf x7), (8, va_rf x8), (9, va_rf x9), (10, va_rf x10), (11, va_rf x11), (12, va_rf x12), (13, va_rf x13), (14, va_rf x14), (15, va_rf x15), (17, .int x17), (18, .int x18)] [] S (kr_eI r)) {S : AS} {x1 : Option Nat} {x2 : Option Nat} {x3 : Option Nat} {x4 : Option Nat} {x5 : Option Nat} {x6 : Option Nat} {x7 : Option Nat} {x8 : Option Nat} {x9 : Option Nat} {x10 : Option Nat} {x11 : Option Nat} {x12 : Option Nat} {x13 : Option Nat} {x14 : Option Nat} {x15 : Option Nat} {x17 : Int32} {x18 : Int32} {r : (Int32 × AS)} (h : f_W_law_C342 X L k342 S x1 x2 x3 x4 x5 x6 x7 x8 x9 x10 x11 x12 x13 x14 x15 x17 x18 = some r) : kr_AW (m_W_law X L) 16 342 [(0, va_rf (some 2)), (1, va_rf x1), (2, va_rf x2), (3, va_rf x3), (4, va_rf x4), (5, va_rf x5), (6, va_rf x6), (7, va_rf x7), (8, va_rf x8), (9, va_rf x9), (10, va_rf x10), (11, va_rf x11), (12, va_rf x12), (13, va_rf x13), (14, va_rf x14), (15, va_rf x15), (17, .int x17), (18, .int x18)] [] S (kr_eI r) := by
  unfold f_W_law_C342 at h
  refine r_iload (i := 18) (x := x18) 17 rfl d_W_law_342 ?_
  refine r_bipush (v := (7 : Int32)) (by decide) d_W_law_344 ?_
  refine r_icmp_ge (tgt := 414) d_W_law_346 rfl (fun c => ?_) (fun c => ?_)
  · replace h := kr_ip c h
    refine r_iload (i := 17) (x := x17) 16 rfl d_W_law_414 ?_
    refine r_if_eq (tgt := 443) d_W_law_416 rfl (fun c => ?_) (fun c => ?_)
    · replace h := kr_ip c h
      exact kr_sub [0, 1, 2, 3, 4, 5, 6, 7, 8, 9, 10, 11, 12, 13, 14, 15] rfl (s_W_law_B443 h)
    · replace h := kr_in_ c h
      refine r_aload_n (i := 1) (x := x1) 1 rfl d_W_law_419 ?_
      refine r_bipush (v := (8 : Int32)) (by decide) d_W_law_420 ?_
      refine r_iconst (v := (0 : Int32)) (by decide) d_W_law_422 ?_
      have h2 := kr_ob2 h
      clear h
      obtain ⟨v50, S49, eS49, h⟩ := h2
      refine r_callSX (M1 := m_W_none) (As := [va_rf x1, .int (8 : Int32), .int (0 : Int32)]) (s_W_noneg eS49) mok_W_none (by decide) w314 w315 (by decide) (kr_c8 kr_c0) d_W_law_423 (kr_k1 ?_) kr_kn
      refine r_if_ne (tgt := 443) d_W_law_426 rfl (fun c => ?_) (fun c => ?_)
      · replace h := kr_ip c h
        refine r_aload_n (i := 1) (x := x1) 1 rfl d_W_law_429 ?_
        refine r_bipush (v := (7 : Int32)) (by decide) d_W_law_430 ?_
        refine r_iconst (v := (0 : Int32)) (by decide) d_W_law_432 ?_
        have h2 := kr_ob2 h
        clear h
        obtain ⟨v52, S51, eS51, h⟩ := h2
        refine r_callSX (M1 := m_W_none) (As := [va_rf x1, .int (7 : Int32), .int (0 : Int32)]) (s_W_noneg eS51) mok_W_none (by decide) w314 w315 (by decide) (kr_c8 kr_c0) d_W_law_433 (kr_k1 ?_) kr_kn
        refine r_if_ne (tgt := 443) d_W_law_436 rfl (fun c => ?_) (fun c => ?_)
        · replace h := kr_ip c h
          refine r_iconst (v := (1 : Int32)) (by decide) d_W_law_439 ?_
          refine r_goto (tgt := 444) d_W_law_440 rfl ?_
          exact kr_sub [0, 1, 2, 3, 4, 5, 6, 7, 8, 9, 10, 11, 12, 13, 14, 15] rfl (s_W_law_B444 h)
        · replace h := kr_in_ c h
          exact kr_sub [0, 1, 2, 3, 4, 5, 6, 7, 8, 9, 10, 11, 12, 13, 14, 15] rfl (s_W_law_B443 h)
      · replace h := kr_in_ c h
        exact kr_sub [0, 1, 2, 3, 4, 5, 6, 7, 8, 9, 10, 11, 12, 13, 14, 15] rfl (s_W_law_B443 h)
  · replace h := kr_in_ c h
    refine r_iload (i := 17) (x := x17) 16 rfl d_W_law_349 ?_
    refine r_if_eq (tgt := 405) d_W_law_351 rfl (fun c => ?_) (fun c => ?_)
    · replace h := kr_ip c h
      exact kr_sub [0, 1, 2, 3, 4, 5, 6, 7, 8, 9, 10, 11, 12, 13, 14, 15, 17] rfl (s_W_law_B405 hk342 h)
    · replace h := kr_in_ c h
      refine r_aload_n (i := 1) (x := x1) 1 rfl d_W_law_354 ?_
      refine r_aload_n (i := 3) (x := x3) 3 rfl d_W_law_355 ?_
      refine r_iconst (v := (5 : Int32)) (by decide) d_W_law_356 ?_
      refine r_iload (i := 18) (x := x18) 17 rfl d_W_law_357 ?_
      refine r_imul d_W_law_359 ?_
      have h2 := kr_ob h
      clear h
      obtain ⟨v53, ev53, h⟩ := h2
      refine r_iaload ev53 d_W_law_360 ?_
      refine r_aload_n (i := 3) (x := x3) 3 rfl d_W_law_361 ?_
      refine r_iconst (v := (5 : Int32)) (by decide) d_W_law_362 ?_
      refine r_iload (i := 18) (x := x18) 17 rfl d_W_law_363 ?_
      refine r_imul d_W_law_365 ?_
      refine r_iconst (v := (1 : Int32)) (by decide) d_W_law_366 ?_
      refine r_iadd d_W_law_367 ?_
      have h2 := kr_ob h
      clear h
      obtain ⟨v54, ev54, h⟩ := h2
      refine r_iaload ev54 d_W_law_368 ?_
      refine r_aload_n (i := 3) (x := x3) 3 rfl d_W_law_369 ?_
      refine r_iconst (v := (5 : Int32)) (by decide) d_W_law_370 ?_
      refine r_iload (i := 18) (x := x18) 17 rfl d_W_law_371 ?_
      refine r_imul d_W_law_373 ?_
      refine r_iconst (v := (2 : Int32)) (by decide) d_W_law_374 ?_
      refine r_iadd d_W_law_375 ?_
      have h2 := kr_ob h
      clear h
      obtain ⟨v55, ev55, h⟩ := h2
      refine r_iaload ev55 d_W_law_376 ?_
      refine r_aload_n (i := 3) (x := x3) 3 rfl d_W_law_377 ?_
      refine r_iconst (v := (5 : Int32)) (by decide) d_W_law_378 ?_
      refine r_iload (i := 18) (x := x18) 17 rfl d_W_law_379 ?_
      refine r_imul d_W_law_381 ?_
      refine r_iconst (v := (3 : Int32)) (by decide) d_W_law_382 ?_
      refine r_iadd d_W_law_383 ?_
      have h2 := kr_ob h
      clear h
      obtain ⟨v56, ev56, h⟩ := h2
      refine r_iaload ev56 d_W_law_384 ?_
      refine r_aload_n (i := 3) (x := x3) 3 rfl d_W_law_385 ?_
      refine r_iconst (v := (5 : Int32)) (by decide) d_W_law_386 ?_
      refine r_iload (i := 18) (x := x18) 17 rfl d_W_law_387 ?_
      refine r_imul d_W_law_389 ?_
      refine r_iconst (v := (4 : Int32)) (by decide) d_W_law_390 ?_
      refine r_iadd d_W_law_391 ?_
      have h2 := kr_ob h
      clear h
      obtain ⟨v57, ev57, h⟩ := h2
      refine r_iaload ev57 d_W_law_392 ?_
      have h2 := kr_ob2 h
      clear h
      obtain ⟨v59, S58, eS58, h⟩ := h2
      refine r_callSX (M1 := m_W_adds) (As := [va_rf x1, .int v53, .int v54, .int v55, .int v56, .int v57]) (s_W_addsg eS58) mok_W_adds (by decide) w919 w920 (by decide) (kr_c8 kr_c0) d_W_law_393 (kr_k1 ?_) kr_kn
      refine r_iload (i := 18) (x := x18) 17 rfl d_W_law_396 ?_
      refine r_icmp_ne (tgt := 405) d_W_law_398 rfl (fun c => ?_) (fun c => ?_)
      · replace h := kr_ip c h
        refine r_iconst (v := (1 : Int32)) (by decide) d_W_law_401 ?_
        refine r_goto (tgt := 406) d_W_law_402 rfl ?_
        exact kr_sub [0, 1, 2, 3, 4, 5, 6, 7, 8, 9, 10, 11, 12, 13, 14, 15, 17] rfl (s_W_law_B406 hk342 h)
      · replace h := kr_in_ c h
        exact kr_sub [0, 1, 2, 3, 4, 5, 6, 7, 8, 9, 10, 11, 12, 13, 14, 15, 17] rfl (s_W_law_B405 hk342 h)
theorem s_W_law_L342 {X : Nat → Int32} {L : Nat} (n : Nat) : ∀ {S : AS} {x1 : Option Nat} {x2 : Option Nat} {x3 : Option Nat} {x4 : Option Nat} {x5 : Option Nat} {x6 : Option Nat} {x7 : Option Nat} {x8 : Option Nat} {x9 : Option Nat} {x10 : Option Nat} {x11 : Option Nat} {x12 : Option Nat} {x13 : Option Nat} {x14 : Option Nat} {x15 : Option Nat} {x17 : Int32} {x18 : Int32} {r : (Int32 × AS)}, f_W_law_L342 X L n S x1 x2 x3 x4 x5 x6 x7 x8 x9 x10 x11 x12 x13 x14 x15 x17 x18 = some r → kr_AW (m_W_law X L) 16 342 [(0, va_rf (some 2)), (1, va_rf x1), (2, va_rf x2), (3, va_rf x3), (4, va_rf x4), (5, va_rf x5), (6, va_rf x6), (7, va_rf x7), (8, va_rf x8), (9, va_rf x9), (10, va_rf x10), (11, va_rf x11), (12, va_rf x12), (13, va_rf x13), (14, va_rf x14), (15, va_rf x15), (17, .int x17), (18, .int x18)] [] S (kr_eI r) := by
  induction n with
  | zero => intro S x1 x2 x3 x4 x5 x6 x7 x8 x9 x10 x11 x12 x13 x14 x15 x17 x18 r h; cases h
  | succ n ih => intro S x1 x2 x3 x4 x5 x6 x7 x8 x9 x10 x11 x12 x13 x14 x15 x17 x18 r h; exact s_W_law_C342 (fun {_} {_} {_} {_} {_} {_} {_} {_} {_} {_} {_} {_} {_} {_} {_} {_} {_} {_} {_} h => ih h) h
set_option maxRecDepth 20000 in
set_option maxHeartbeats 4000000 in
theorem s_W_law_B337 {X : Nat → Int32} {L : Nat} {S : AS} {x1 : Option Nat} {x2 : Option Nat} {x3 : Option Nat} {x4 : Option Nat} {x5 : Option Nat} {x6 : Option Nat} {x7 : Option Nat} {x8 : Option Nat} {x9 : Option Nat} {x10 : Option Nat} {x11 : Option Nat} {x12 : Option Nat} {x13 : Option Nat} {x14 : Option Nat} {x15 : Option Nat} {y0 : Int32} {r : (Int32 × AS)} (h : f_W_law_B337 X L S x1 x2 x3 x4 x5 x6 x7 x8 x9 x10 x11 x12 x13 x14 x15 y0 = some r) : kr_AW (m_W_law X L) 16 337 [(0, va_rf (some 2)), (1, va_rf x1), (2, va_rf x2), (3, va_rf x3), (4, va_rf x4), (5, va_rf x5), (6, va_rf x6), (7, va_rf x7), (8, va_rf x8), (9, va_rf x9), (10, va_rf x10), (11, va_rf x11), (12, va_rf x12), (13, va_rf x13), (14, va_rf x14), (15, va_rf x15)] [.int y0] S (kr_eI r) := by
  unfold f_W_law_B337 at h
  refine r_istore (i := 17) (lv' := [(17, .int y0), (0, va_rf (some 2)), (1, va_rf x1), (2, va_rf x2), (3, va_rf x3), (4, va_rf x4), (5, va_rf x5), (6, va_rf x6), (7, va_rf x7), (8, va_rf x8), (9, va_rf x9), (10, va_rf x10), (11, va_rf x11), (12, va_rf x12), (13, va_rf x13), (14, va_rf x14), (15, va_rf x15)]) (by show (17 : Nat) < 22; decide) rfl d_W_law_337 ?_
  refine r_iconst (v := (0 : Int32)) (by decide) d_W_law_339 ?_
  refine r_istore (i := 18) (lv' := [(18, .int (0 : Int32)), (17, .int y0), (0, va_rf (some 2)), (1, va_rf x1), (2, va_rf x2), (3, va_rf x3), (4, va_rf x4), (5, va_rf x5), (6, va_rf x6), (7, va_rf x7), (8, va_rf x8), (9, va_rf x9), (10, va_rf x10), (11, va_rf x11), (12, va_rf x12), (13, va_rf x13), (14, va_rf x14), (15, va_rf x15)]) (by show (18 : Nat) < 22; decide) rfl d_W_law_340 ?_
  exact kr_sub [2, 3, 4, 5, 6, 7, 8, 9, 10, 11, 12, 13, 14, 15, 16, 17, 1, 0] rfl (s_W_law_L342 kr_FU h)
set_option maxRecDepth 20000 in
set_option maxHeartbeats 4000000 in
theorem s_W_law_B336 {X : Nat → Int32} {L : Nat} {S : AS} {x1 : Option Nat} {x2 : Option Nat} {x3 : Option Nat} {x4 : Option Nat} {x5 : Option Nat} {x6 : Option Nat} {x7 : Option Nat} {x8 : Option Nat} {x9 : Option Nat} {x10 : Option Nat} {x11 : Option Nat} {x12 : Option Nat} {x13 : Option Nat} {x14 : Option Nat} {x15 : Option Nat} {r : (Int32 × AS)} (h : f_W_law_B336 X L S x1 x2 x3 x4 x5 x6 x7 x8 x9 x10 x11 x12 x13 x14 x15 = some r) : kr_AW (m_W_law X L) 16 336 [(0, va_rf (some 2)), (1, va_rf x1), (2, va_rf x2), (3, va_rf x3), (4, va_rf x4), (5, va_rf x5), (6, va_rf x6), (7, va_rf x7), (8, va_rf x8), (9, va_rf x9), (10, va_rf x10), (11, va_rf x11), (12, va_rf x12), (13, va_rf x13), (14, va_rf x14), (15, va_rf x15)] [] S (kr_eI r) := by
  unfold f_W_law_B336 at h
  refine r_iconst (v := (0 : Int32)) (by decide) d_W_law_336 ?_
  exact kr_sub [0, 1, 2, 3, 4, 5, 6, 7, 8, 9, 10, 11, 12, 13, 14, 15] rfl (s_W_law_B337 h)
set_option maxRecDepth 20000 in
set_option maxHeartbeats 4000000 in
theorem s_W_law_B291 {X : Nat → Int32} {L : Nat} {S : AS} {x1 : Option Nat} {x2 : Option Nat} {x3 : Option Nat} {x4 : Option Nat} {x5 : Option Nat} {x6 : Option Nat} {x7 : Option Nat} {x8 : Option Nat} {x9 : Option Nat} {x10 : Option Nat} {x11 : Option Nat} {x12 : Option Nat} {x13 : Option Nat} {x14 : Option Nat} {x15 : Option Nat} {y0 : Option Nat} {y1 : Int32} {y2 : Int32} {y3 : Int32} {y4 : Int32} {y5 : Int32} {y6 : Int32} {r : (Int32 × AS)} (h : f_W_law_B291 X L S x1 x2 x3 x4 x5 x6 x7 x8 x9 x10 x11 x12 x13 x14 x15 y0 y1 y2 y3 y4 y5 y6 = some r) : kr_AW (m_W_law X L) 16 291 [(0, va_rf (some 2)), (1, va_rf x1), (2, va_rf x2), (3, va_rf x3), (4, va_rf x4), (5, va_rf x5), (6, va_rf x6), (7, va_rf x7), (8, va_rf x8), (9, va_rf x9), (10, va_rf x10), (11, va_rf x11), (12, va_rf x12), (13, va_rf x13), (14, va_rf x14), (15, va_rf x15)] [.int y6, .int y5, .int y4, .int y3, .int y2, .int y1, va_rf y0] S (kr_eI r) := by
  unfold f_W_law_B291 at h
  have h2 := kr_ob h
  clear h
  obtain ⟨S60, eS60, h⟩ := h2
  refine r_callS (M1 := m_W_steps) (As := [va_rf y0, .int y1, .int y2, .int y3, .int y4, .int y5, .int y6]) (s_W_steps eS60) mok_W_steps rfl w1351 w1352 (by decide) (kr_c8 kr_c0) d_W_law_291 (kr_k0 ?_) kr_kn
  refine r_aload_n (i := 3) (x := x3) 3 rfl d_W_law_294 ?_
  refine r_bipush (v := (6 : Int32)) (by decide) d_W_law_295 ?_
  refine r_iconst (v := (5 : Int32)) (by decide) d_W_law_297 ?_
  refine r_iconst (v := (0 : Int32)) (by decide) d_W_law_298 ?_
  refine r_iconst (v := (0 : Int32)) (by decide) d_W_law_299 ?_
  refine r_iconst (v := (0 : Int32)) (by decide) d_W_law_300 ?_
  refine r_iconst (v := (0 : Int32)) (by decide) d_W_law_301 ?_
  have h2 := kr_ob h
  clear h
  obtain ⟨S61, eS61, h⟩ := h2
  refine r_callS (M1 := m_W_steps) (As := [va_rf x3, .int (6 : Int32), .int (5 : Int32), .int (0 : Int32), .int (0 : Int32), .int (0 : Int32), .int (0 : Int32)]) (s_W_steps eS61) mok_W_steps rfl w1351 w1352 (by decide) (kr_c8 kr_c0) d_W_law_302 (kr_k0 ?_) kr_kn
  refine r_aload_n (i := 1) (x := x1) 1 rfl d_W_law_305 ?_
  refine r_bipush (v := (8 : Int32)) (by decide) d_W_law_306 ?_
  refine r_iconst (v := (0 : Int32)) (by decide) d_W_law_308 ?_
  have h2 := kr_ob2 h
  clear h
  obtain ⟨v63, S62, eS62, h⟩ := h2
  refine r_callSX (M1 := m_W_none) (As := [va_rf x1, .int (8 : Int32), .int (0 : Int32)]) (s_W_noneg eS62) mok_W_none (by decide) w314 w315 (by decide) (kr_c8 kr_c0) d_W_law_309 (kr_k1 ?_) kr_kn
  refine r_sipush (v := (-1003 : Int32)) (by decide) d_W_law_312 ?_
  refine r_icmp_ne (tgt := 336) d_W_law_315 rfl (fun c => ?_) (fun c => ?_)
  · replace h := kr_ip c h
    refine r_aload_n (i := 1) (x := x1) 1 rfl d_W_law_318 ?_
    refine r_iconst (v := (0 : Int32)) (by decide) d_W_law_319 ?_
    refine r_iconst (v := (0 : Int32)) (by decide) d_W_law_320 ?_
    refine r_iconst (v := (0 : Int32)) (by decide) d_W_law_321 ?_
    refine r_iconst (v := (0 : Int32)) (by decide) d_W_law_322 ?_
    have h2 := kr_ob2 h
    clear h
    obtain ⟨v65, S64, eS64, h⟩ := h2
    refine r_callSX (M1 := m_W_three) (As := [va_rf x1, .int (0 : Int32), .int (0 : Int32), .int (0 : Int32), .int (0 : Int32)]) (s_W_threeg eS64) mok_W_three (by decide) w645 w646 (by decide) (kr_c8 kr_c0) d_W_law_323 (kr_k1 ?_) kr_kn
    refine r_sipush (v := (-1003 : Int32)) (by decide) d_W_law_326 ?_
    refine r_icmp_ne (tgt := 336) d_W_law_329 rfl (fun c => ?_) (fun c => ?_)
    · replace h := kr_ip c h
      refine r_iconst (v := (1 : Int32)) (by decide) d_W_law_332 ?_
      refine r_goto (tgt := 337) d_W_law_333 rfl ?_
      exact kr_sub [0, 1, 2, 3, 4, 5, 6, 7, 8, 9, 10, 11, 12, 13, 14, 15] rfl (s_W_law_B337 h)
    · replace h := kr_in_ c h
      exact kr_sub [0, 1, 2, 3, 4, 5, 6, 7, 8, 9, 10, 11, 12, 13, 14, 15] rfl (s_W_law_B336 h)
  · replace h := kr_in_ c h
    exact kr_sub [0, 1, 2, 3, 4, 5, 6, 7, 8, 9, 10, 11, 12, 13, 14, 15] rfl (s_W_law_B336 h)
set_option maxRecDepth 20000 in
set_option maxHeartbeats 4000000 in
theorem s_W_law_B242 {X : Nat → Int32} {L : Nat} {S : AS} {x1 : Option Nat} {x2 : Option Nat} {x3 : Option Nat} {x4 : Option Nat} {x5 : Option Nat} {x6 : Option Nat} {x7 : Option Nat} {x8 : Option Nat} {x9 : Option Nat} {x10 : Option Nat} {x11 : Option Nat} {x12 : Option Nat} {x13 : Option Nat} {x14 : Option Nat} {x15 : Option Nat} {x16 : Int32} {y0 : Option Nat} {y1 : Int32} {y2 : Int32} {y3 : Int32} {r : (Int32 × AS)} (h : f_W_law_B242 X L S x1 x2 x3 x4 x5 x6 x7 x8 x9 x10 x11 x12 x13 x14 x15 x16 y0 y1 y2 y3 = some r) : kr_AW (m_W_law X L) 16 242 [(0, va_rf (some 2)), (1, va_rf x1), (2, va_rf x2), (3, va_rf x3), (4, va_rf x4), (5, va_rf x5), (6, va_rf x6), (7, va_rf x7), (8, va_rf x8), (9, va_rf x9), (10, va_rf x10), (11, va_rf x11), (12, va_rf x12), (13, va_rf x13), (14, va_rf x14), (15, va_rf x15), (16, .int x16)] [.int y3, .int y2, .int y1, va_rf y0] S (kr_eI r) := by
  unfold f_W_law_B242 at h
  refine r_iconst (v := (0 : Int32)) (by decide) d_W_law_242 ?_
  refine r_iconst (v := (5 : Int32)) (by decide) d_W_law_243 ?_
  refine r_iconst (v := (4 : Int32)) (by decide) d_W_law_244 ?_
  have h2 := kr_ob h
  clear h
  obtain ⟨S66, eS66, h⟩ := h2
  refine r_callS (M1 := m_W_steps) (As := [va_rf y0, .int y1, .int y2, .int y3, .int (0 : Int32), .int (5 : Int32), .int (4 : Int32)]) (s_W_steps eS66) mok_W_steps rfl w1351 w1352 (by decide) (kr_c8 kr_c0) d_W_law_245 (kr_k0 ?_) kr_kn
  refine r_aload_n (i := 3) (x := x3) 3 rfl d_W_law_248 ?_
  refine r_iconst (v := (4 : Int32)) (by decide) d_W_law_249 ?_
  refine r_iconst (v := (4 : Int32)) (by decide) d_W_law_250 ?_
  refine r_iload (i := 16) (x := x16) 16 rfl d_W_law_251 ?_
  refine r_bipush (v := (6 : Int32)) (by decide) d_W_law_253 ?_
  refine r_ishr d_W_law_255 ?_
  refine r_iconst (v := (5 : Int32)) (by decide) d_W_law_256 ?_
  have h2 := kr_ob2 h
  clear h
  obtain ⟨v68, S67, eS67, h⟩ := h2
  refine r_callS (M1 := m_W_some) (As := [.int (x16 >>> ((6 : Int32) &&& 31)), .int (5 : Int32)]) (s_W_some eS67) mok_W_some rfl w311 w312 (by decide) (kr_c8 (kr_cI (kr_cI (kr_cR kr_c0)))) d_W_law_257 (kr_k1 ?_) kr_kn
  refine r_iconst (v := (0 : Int32)) (by decide) d_W_law_260 ?_
  refine r_bipush (v := (6 : Int32)) (by decide) d_W_law_261 ?_
  refine r_iconst (v := (5 : Int32)) (by decide) d_W_law_263 ?_
  have h2 := kr_ob h
  clear h
  obtain ⟨S69, eS69, h⟩ := h2
  refine r_callS (M1 := m_W_steps) (As := [va_rf x3, .int (4 : Int32), .int (4 : Int32), .int v68, .int (0 : Int32), .int (6 : Int32), .int (5 : Int32)]) (s_W_steps eS69) mok_W_steps rfl w1351 w1352 (by decide) (kr_c8 kr_c0) d_W_law_264 (kr_k0 ?_) kr_kn
  refine r_aload_n (i := 3) (x := x3) 3 rfl d_W_law_267 ?_
  refine r_iconst (v := (5 : Int32)) (by decide) d_W_law_268 ?_
  refine r_iconst (v := (0 : Int32)) (by decide) d_W_law_269 ?_
  refine r_iconst (v := (1 : Int32)) (by decide) d_W_law_270 ?_
  refine r_iconst (v := (1 : Int32)) (by decide) d_W_law_271 ?_
  refine r_bipush (v := (6 : Int32)) (by decide) d_W_law_272 ?_
  refine r_iload (i := 16) (x := x16) 16 rfl d_W_law_274 ?_
  refine r_bipush (v := (7 : Int32)) (by decide) d_W_law_276 ?_
  refine r_ishr d_W_law_278 ?_
  refine r_iconst (v := (2 : Int32)) (by decide) d_W_law_279 ?_
  have h2 := kr_ob2 h
  clear h
  obtain ⟨v71, S70, eS70, h⟩ := h2
  refine r_callS (M1 := m_W_some) (As := [.int (x16 >>> ((7 : Int32) &&& 31)), .int (2 : Int32)]) (s_W_some eS70) mok_W_some rfl w311 w312 (by decide) (kr_c8 (kr_cI (kr_cI (kr_cI (kr_cI (kr_cI (kr_cR kr_c0))))))) d_W_law_280 (kr_k1 ?_) kr_kn
  refine r_if_ne (tgt := 290) d_W_law_283 rfl (fun c => ?_) (fun c => ?_)
  · replace h := kr_ip c h
    refine r_iconst (v := (1 : Int32)) (by decide) d_W_law_286 ?_
    refine r_goto (tgt := 291) d_W_law_287 rfl ?_
    exact kr_sub [0, 1, 2, 3, 4, 5, 6, 7, 8, 9, 10, 11, 12, 13, 14, 15] rfl (s_W_law_B291 h)
  · replace h := kr_in_ c h
    refine r_iconst (v := (-1 : Int32)) (by decide) d_W_law_290 ?_
    exact kr_sub [0, 1, 2, 3, 4, 5, 6, 7, 8, 9, 10, 11, 12, 13, 14, 15] rfl (s_W_law_B291 h)
set_option maxRecDepth 20000 in
set_option maxHeartbeats 4000000 in
theorem s_W_law_B218 {X : Nat → Int32} {L : Nat} {S : AS} {x1 : Option Nat} {x2 : Option Nat} {x3 : Option Nat} {x4 : Option Nat} {x5 : Option Nat} {x6 : Option Nat} {x7 : Option Nat} {x8 : Option Nat} {x9 : Option Nat} {x10 : Option Nat} {x11 : Option Nat} {x12 : Option Nat} {x13 : Option Nat} {x14 : Option Nat} {x15 : Option Nat} {x16 : Int32} {y0 : Option Nat} {y1 : Int32} {y2 : Int32} {r : (Int32 × AS)} (h : f_W_law_B218 X L S x1 x2 x3 x4 x5 x6 x7 x8 x9 x10 x11 x12 x13 x14 x15 x16 y0 y1 y2 = some r) : kr_AW (m_W_law X L) 16 218 [(0, va_rf (some 2)), (1, va_rf x1), (2, va_rf x2), (3, va_rf x3), (4, va_rf x4), (5, va_rf x5), (6, va_rf x6), (7, va_rf x7), (8, va_rf x8), (9, va_rf x9), (10, va_rf x10), (11, va_rf x11), (12, va_rf x12), (13, va_rf x13), (14, va_rf x14), (15, va_rf x15), (16, .int x16)] [.int y2, .int y1, va_rf y0] S (kr_eI r) := by
  unfold f_W_law_B218 at h
  refine r_iload (i := 16) (x := x16) 16 rfl d_W_law_218 ?_
  refine r_iconst (v := (5 : Int32)) (by decide) d_W_law_220 ?_
  refine r_ishr d_W_law_221 ?_
  refine r_iconst (v := (3 : Int32)) (by decide) d_W_law_222 ?_
  have h2 := kr_ob2 h
  clear h
  obtain ⟨v73, S72, eS72, h⟩ := h2
  refine r_callS (M1 := m_W_some) (As := [.int (x16 >>> ((5 : Int32) &&& 31)), .int (3 : Int32)]) (s_W_some eS72) mok_W_some rfl w311 w312 (by decide) (kr_c8 (kr_cI (kr_cI (kr_cR kr_c0)))) d_W_law_223 (kr_k1 ?_) kr_kn
  refine r_if_ne (tgt := 233) d_W_law_226 rfl (fun c => ?_) (fun c => ?_)
  · replace h := kr_ip c h
    refine r_iconst (v := (0 : Int32)) (by decide) d_W_law_229 ?_
    refine r_goto (tgt := 242) d_W_law_230 rfl ?_
    exact kr_sub [0, 1, 2, 3, 4, 5, 6, 7, 8, 9, 10, 11, 12, 13, 14, 15, 16] rfl (s_W_law_B242 h)
  · replace h := kr_in_ c h
    refine r_iload (i := 16) (x := x16) 16 rfl d_W_law_233 ?_
    refine r_iconst (v := (4 : Int32)) (by decide) d_W_law_235 ?_
    refine r_ishr d_W_law_236 ?_
    refine r_bipush (v := (6 : Int32)) (by decide) d_W_law_237 ?_
    have h2 := kr_ob2 h
    clear h
    obtain ⟨v75, S74, eS74, h⟩ := h2
    refine r_callS (M1 := m_W_some) (As := [.int (x16 >>> ((4 : Int32) &&& 31)), .int (6 : Int32)]) (s_W_some eS74) mok_W_some rfl w311 w312 (by decide) (kr_c8 (kr_cI (kr_cI (kr_cR kr_c0)))) d_W_law_239 (kr_k1 ?_) kr_kn
    exact kr_sub [0, 1, 2, 3, 4, 5, 6, 7, 8, 9, 10, 11, 12, 13, 14, 15, 16] rfl (s_W_law_B242 h)
set_option maxRecDepth 20000 in
set_option maxHeartbeats 4000000 in
theorem s_W_law_C128 {X : Nat → Int32} {L : Nat} {k128 : AS → Option Nat → Option Nat → Option Nat → Option Nat → Option Nat → Option Nat → Option Nat → Option Nat → Option Nat → Option Nat → Option Nat → Option Nat → Option Nat → Option Nat → Option Nat → Int32 → Option (Int32 × AS)} (hk128 : ∀ {S : AS} {x1 : Option Nat} {x2 : Option Nat} {x3 : Option Nat} {x4 : Option Nat} {x5 : Option Nat} {x6 : Option Nat} {x7 : Option Nat} {x8 : Option Nat} {x9 : Option Nat} {x10 : Option Nat} {x11 : Option Nat} {x12 : Option Nat} {x13 : Option Nat} {x14 : Option Nat} {x15 : Option Nat} {x16 : Int32} {r : (Int32 × AS)}, k128 S x1 x2 x3 x4 x5 x6 x7 x8 x9 x10 x11 x12 x13 x14 x15 x16 = some r → kr_AW (m_W_law X L) 16 128 [(0, va_rf (some 2)), (1, va_rf x1), (2, va_rf x2), (3, va_rf x3), (4, va_rf x4), (5, va_rf x5), (6, va_rf x6), (7, va_rf x7), (8, va_rf x8), (9, va_rf x9), (10, va_rf x10), (11, va_rf x11), (12, va_rf x12), (13, va_rf x13), (14, va_rf x14), (15, va_rf x15), (16, .int x16)] [] S (kr_eI r)) {S : AS} {x1 : Option Nat} {x2 : Option Nat} {x3 : Option Nat} {x4 : Option Nat} {x5 : Option Nat} {x6 : Option Nat} {x7 : Option Nat} {x8 : Option Nat} {x9 : Option Nat} {x10 : Option Nat} {x11 : Option Nat} {x12 : Option Nat} {x13 : Option Nat} {x14 : Option Nat} {x15 : Option Nat} {x16 : Int32} {r : (Int32 × AS)} (h : f_W_law_C128 X L k128 S x1 x2 x3 x4 x5 x6 x7 x8 x9 x10 x11 x12 x13 x14 x15 x16 = some r) : kr_AW (m_W_law X L) 16 128 [(0, va_rf (some 2)), (1, va_rf x1), (2, va_rf x2), (3, va_rf x3), (4, va_rf x4), (5, va_rf x5), (6, va_rf x6), (7, va_rf x7), (8, va_rf x8), (9, va_rf x9), (10, va_rf x10), (11, va_rf x11), (12, va_rf x12), (13, va_rf x13), (14, va_rf x14), (15, va_rf x15), (16, .int x16)] [] S (kr_eI r) := by
  unfold f_W_law_C128 at h
  refine r_iload (i := 16) (x := x16) 16 rfl d_W_law_128 ?_
  refine r_bipush (v := (45 : Int32)) (by decide) d_W_law_130 ?_
  refine r_icmp_ge (tgt := 147) d_W_law_132 rfl (fun c => ?_) (fun c => ?_)
  · replace h := kr_ip c h
    refine r_aload_n (i := 0) (x := (some 2)) 0 rfl d_W_law_147 ?_
    refine r_iconst (v := (0 : Int32)) (by decide) d_W_law_148 ?_
    have h2 := kr_ob2 h
    clear h
    obtain ⟨v77, S76, eS76, h⟩ := h2
    refine r_callSC (M1 := m_W_cell X L) (As := [va_rf (some 2), .int (0 : Int32)]) rfl (s_W_cell eS76) mok_W_cell rfl w307 w308 (by decide) (kr_c8 kr_c0) d_W_law_149 (kr_k1 ?_) kr_kn
    refine r_istore (i := 16) (lv' := [(16, .int v77), (0, va_rf (some 2)), (1, va_rf x1), (2, va_rf x2), (3, va_rf x3), (4, va_rf x4), (5, va_rf x5), (6, va_rf x6), (7, va_rf x7), (8, va_rf x8), (9, va_rf x9), (10, va_rf x10), (11, va_rf x11), (12, va_rf x12), (13, va_rf x13), (14, va_rf x14), (15, va_rf x15)]) (by show (16 : Nat) < 22; decide) (by show kr_st _ 16 _ = _; simp [kr_st, kr_rfcat, kr_icat]) d_W_law_152 ?_
    refine r_aload_n (i := 3) (x := x3) 4 rfl d_W_law_154 ?_
    refine r_iconst (v := (0 : Int32)) (by decide) d_W_law_155 ?_
    refine r_iconst (v := (3 : Int32)) (by decide) d_W_law_156 ?_
    refine r_iconst (v := (2 : Int32)) (by decide) d_W_law_157 ?_
    refine r_iconst (v := (0 : Int32)) (by decide) d_W_law_158 ?_
    refine r_iconst (v := (1 : Int32)) (by decide) d_W_law_159 ?_
    refine r_iconst (v := (2 : Int32)) (by decide) d_W_law_160 ?_
    have h2 := kr_ob h
    clear h
    obtain ⟨S78, eS78, h⟩ := h2
    refine r_callS (M1 := m_W_steps) (As := [va_rf x3, .int (0 : Int32), .int (3 : Int32), .int (2 : Int32), .int (0 : Int32), .int (1 : Int32), .int (2 : Int32)]) (s_W_steps eS78) mok_W_steps rfl w1351 w1352 (by decide) (kr_c8 kr_c0) d_W_law_161 (kr_k0 ?_) kr_kn
    refine r_aload_n (i := 3) (x := x3) 4 rfl d_W_law_164 ?_
    refine r_iconst (v := (1 : Int32)) (by decide) d_W_law_165 ?_
    refine r_iconst (v := (0 : Int32)) (by decide) d_W_law_166 ?_
    refine r_iconst (v := (2 : Int32)) (by decide) d_W_law_167 ?_
    refine r_iconst (v := (1 : Int32)) (by decide) d_W_law_168 ?_
    refine r_iload (i := 16) (x := v77) 0 rfl d_W_law_169 ?_
    refine r_iconst (v := (2 : Int32)) (by decide) d_W_law_171 ?_
    have h2 := kr_ob2 h
    clear h
    obtain ⟨v80, S79, eS79, h⟩ := h2
    refine r_callS (M1 := m_W_some) (As := [.int v77, .int (2 : Int32)]) (s_W_some eS79) mok_W_some rfl w311 w312 (by decide) (kr_c8 (kr_cI (kr_cI (kr_cI (kr_cI (kr_cR kr_c0)))))) d_W_law_172 (kr_k1 ?_) kr_kn
    refine r_iadd d_W_law_175 ?_
    refine r_iconst (v := (4 : Int32)) (by decide) d_W_law_176 ?_
    refine r_iconst (v := (2 : Int32)) (by decide) d_W_law_177 ?_
    have h2 := kr_ob h
    clear h
    obtain ⟨S81, eS81, h⟩ := h2
    refine r_callS (M1 := m_W_steps) (As := [va_rf x3, .int (1 : Int32), .int (0 : Int32), .int (2 : Int32), .int ((1 : Int32) + v80), .int (4 : Int32), .int (2 : Int32)]) (s_W_steps eS81) mok_W_steps rfl w1351 w1352 (by decide) (kr_c8 kr_c0) d_W_law_178 (kr_k0 ?_) kr_kn
    refine r_aload_n (i := 3) (x := x3) 4 rfl d_W_law_181 ?_
    refine r_iconst (v := (2 : Int32)) (by decide) d_W_law_182 ?_
    refine r_iconst (v := (0 : Int32)) (by decide) d_W_law_183 ?_
    refine r_iconst (v := (0 : Int32)) (by decide) d_W_law_184 ?_
    refine r_iconst (v := (1 : Int32)) (by decide) d_W_law_185 ?_
    refine r_iload (i := 16) (x := v77) 0 rfl d_W_law_186 ?_
    refine r_iconst (v := (3 : Int32)) (by decide) d_W_law_188 ?_
    refine r_ishr d_W_law_189 ?_
    refine r_iconst (v := (3 : Int32)) (by decide) d_W_law_190 ?_
    have h2 := kr_ob2 h
    clear h
    obtain ⟨v83, S82, eS82, h⟩ := h2
    refine r_callS (M1 := m_W_some) (As := [.int (v77 >>> ((3 : Int32) &&& 31)), .int (3 : Int32)]) (s_W_some eS82) mok_W_some rfl w311 w312 (by decide) (kr_c8 (kr_cI (kr_cI (kr_cI (kr_cI (kr_cR kr_c0)))))) d_W_law_191 (kr_k1 ?_) kr_kn
    refine r_iadd d_W_law_194 ?_
    refine r_iconst (v := (3 : Int32)) (by decide) d_W_law_195 ?_
    refine r_iconst (v := (-1 : Int32)) (by decide) d_W_law_196 ?_
    have h2 := kr_ob h
    clear h
    obtain ⟨S84, eS84, h⟩ := h2
    refine r_callS (M1 := m_W_steps) (As := [va_rf x3, .int (2 : Int32), .int (0 : Int32), .int (0 : Int32), .int ((1 : Int32) + v83), .int (3 : Int32), .int (-1 : Int32)]) (s_W_steps eS84) mok_W_steps rfl w1351 w1352 (by decide) (kr_c8 kr_c0) d_W_law_197 (kr_k0 ?_) kr_kn
    refine r_aload_n (i := 3) (x := x3) 4 rfl d_W_law_200 ?_
    refine r_iconst (v := (3 : Int32)) (by decide) d_W_law_201 ?_
    refine r_iload (i := 16) (x := v77) 0 rfl d_W_law_202 ?_
    refine r_iconst (v := (5 : Int32)) (by decide) d_W_law_204 ?_
    refine r_ishr d_W_law_205 ?_
    refine r_iconst (v := (3 : Int32)) (by decide) d_W_law_206 ?_
    have h2 := kr_ob2 h
    clear h
    obtain ⟨v86, S85, eS85, h⟩ := h2
    refine r_callS (M1 := m_W_some) (As := [.int (v77 >>> ((5 : Int32) &&& 31)), .int (3 : Int32)]) (s_W_some eS85) mok_W_some rfl w311 w312 (by decide) (kr_c8 (kr_cI (kr_cR kr_c0))) d_W_law_207 (kr_k1 ?_) kr_kn
    refine r_if_ne (tgt := 217) d_W_law_210 rfl (fun c => ?_) (fun c => ?_)
    · replace h := kr_ip c h
      refine r_iconst (v := (1 : Int32)) (by decide) d_W_law_213 ?_
      refine r_goto (tgt := 218) d_W_law_214 rfl ?_
      exact kr_sub [1, 2, 3, 4, 5, 6, 7, 8, 9, 10, 11, 12, 13, 14, 15, 16, 0] rfl (s_W_law_B218 h)
    · replace h := kr_in_ c h
      refine r_iconst (v := (2 : Int32)) (by decide) d_W_law_217 ?_
      exact kr_sub [1, 2, 3, 4, 5, 6, 7, 8, 9, 10, 11, 12, 13, 14, 15, 16, 0] rfl (s_W_law_B218 h)
  · replace h := kr_in_ c h
    refine r_aload (i := 9) (x := x9) 9 rfl d_W_law_135 ?_
    refine r_iload (i := 16) (x := x16) 16 rfl d_W_law_137 ?_
    refine r_iconst (v := (-1 : Int32)) (by decide) d_W_law_139 ?_
    have h2 := kr_ob h
    clear h
    obtain ⟨S87, eS87, h⟩ := h2
    refine r_iastore eS87 d_W_law_140 ?_
    have h2 := kr_ob h
    clear h
    obtain ⟨i88, ei88, h⟩ := h2
    refine r_iinc (v := i88) (lv' := [(16, .int i88), (0, va_rf (some 2)), (1, va_rf x1), (2, va_rf x2), (3, va_rf x3), (4, va_rf x4), (5, va_rf x5), (6, va_rf x6), (7, va_rf x7), (8, va_rf x8), (9, va_rf x9), (10, va_rf x10), (11, va_rf x11), (12, va_rf x12), (13, va_rf x13), (14, va_rf x14), (15, va_rf x15)]) 16 rfl (kr_inc (by decide) ei88) (by show (16 : Nat) < 22; decide) (by simp [kr_st, kr_rfcat, kr_icat]) d_W_law_141 ?_
    refine r_goto (tgt := 128) d_W_law_144 rfl ?_
    exact kr_sub [1, 2, 3, 4, 5, 6, 7, 8, 9, 10, 11, 12, 13, 14, 15, 16, 0] rfl (hk128 h)
theorem s_W_law_L128 {X : Nat → Int32} {L : Nat} (n : Nat) : ∀ {S : AS} {x1 : Option Nat} {x2 : Option Nat} {x3 : Option Nat} {x4 : Option Nat} {x5 : Option Nat} {x6 : Option Nat} {x7 : Option Nat} {x8 : Option Nat} {x9 : Option Nat} {x10 : Option Nat} {x11 : Option Nat} {x12 : Option Nat} {x13 : Option Nat} {x14 : Option Nat} {x15 : Option Nat} {x16 : Int32} {r : (Int32 × AS)}, f_W_law_L128 X L n S x1 x2 x3 x4 x5 x6 x7 x8 x9 x10 x11 x12 x13 x14 x15 x16 = some r → kr_AW (m_W_law X L) 16 128 [(0, va_rf (some 2)), (1, va_rf x1), (2, va_rf x2), (3, va_rf x3), (4, va_rf x4), (5, va_rf x5), (6, va_rf x6), (7, va_rf x7), (8, va_rf x8), (9, va_rf x9), (10, va_rf x10), (11, va_rf x11), (12, va_rf x12), (13, va_rf x13), (14, va_rf x14), (15, va_rf x15), (16, .int x16)] [] S (kr_eI r) := by
  induction n with
  | zero => intro S x1 x2 x3 x4 x5 x6 x7 x8 x9 x10 x11 x12 x13 x14 x15 x16 r h; cases h
  | succ n ih => intro S x1 x2 x3 x4 x5 x6 x7 x8 x9 x10 x11 x12 x13 x14 x15 x16 r h; exact s_W_law_C128 (fun {_} {_} {_} {_} {_} {_} {_} {_} {_} {_} {_} {_} {_} {_} {_} {_} {_} {_} h => ih h) h
set_option maxRecDepth 20000 in
set_option maxHeartbeats 4000000 in
theorem s_W_law_C103 {X : Nat → Int32} {L : Nat} {k103 : AS → Option Nat → Option Nat → Option Nat → Option Nat → Option Nat → Option Nat → Option Nat → Option Nat → Option Nat → Option Nat → Option Nat → Option Nat → Option Nat → Option Nat → Option Nat → Int32 → Option (Int32 × AS)} (hk103 : ∀ {S : AS} {x1 : Option Nat} {x2 : Option Nat} {x3 : Option Nat} {x4 : Option Nat} {x5 : Option Nat} {x6 : Option Nat} {x7 : Option Nat} {x8 : Option Nat} {x9 : Option Nat} {x10 : Option Nat} {x11 : Option Nat} {x12 : Option Nat} {x13 : Option Nat} {x14 : Option Nat} {x15 : Option Nat} {x16 : Int32} {r : (Int32 × AS)}, k103 S x1 x2 x3 x4 x5 x6 x7 x8 x9 x10 x11 x12 x13 x14 x15 x16 = some r → kr_AW (m_W_law X L) 16 103 [(0, va_rf (some 2)), (1, va_rf x1), (2, va_rf x2), (3, va_rf x3), (4, va_rf x4), (5, va_rf x5), (6, va_rf x6), (7, va_rf x7), (8, va_rf x8), (9, va_rf x9), (10, va_rf x10), (11, va_rf x11), (12, va_rf x12), (13, va_rf x13), (14, va_rf x14), (15, va_rf x15), (16, .int x16)] [] S (kr_eI r)) {S : AS} {x1 : Option Nat} {x2 : Option Nat} {x3 : Option Nat} {x4 : Option Nat} {x5 : Option Nat} {x6 : Option Nat} {x7 : Option Nat} {x8 : Option Nat} {x9 : Option Nat} {x10 : Option Nat} {x11 : Option Nat} {x12 : Option Nat} {x13 : Option Nat} {x14 : Option Nat} {x15 : Option Nat} {x16 : Int32} {r : (Int32 × AS)} (h : f_W_law_C103 X L k103 S x1 x2 x3 x4 x5 x6 x7 x8 x9 x10 x11 x12 x13 x14 x15 x16 = some r) : kr_AW (m_W_law X L) 16 103 [(0, va_rf (some 2)), (1, va_rf x1), (2, va_rf x2), (3, va_rf x3), (4, va_rf x4), (5, va_rf x5), (6, va_rf x6), (7, va_rf x7), (8, va_rf x8), (9, va_rf x9), (10, va_rf x10), (11, va_rf x11), (12, va_rf x12), (13, va_rf x13), (14, va_rf x14), (15, va_rf x15), (16, .int x16)] [] S (kr_eI r) := by
  unfold f_W_law_C103 at h
  refine r_iload (i := 16) (x := x16) 16 rfl d_W_law_103 ?_
  refine r_iconst (v := (4 : Int32)) (by decide) d_W_law_105 ?_
  refine r_icmp_ge (tgt := 125) d_W_law_106 rfl (fun c => ?_) (fun c => ?_)
  · replace h := kr_ip c h
    refine r_iconst (v := (0 : Int32)) (by decide) d_W_law_125 ?_
    refine r_istore (i := 16) (lv' := [(16, .int (0 : Int32)), (0, va_rf (some 2)), (1, va_rf x1), (2, va_rf x2), (3, va_rf x3), (4, va_rf x4), (5, va_rf x5), (6, va_rf x6), (7, va_rf x7), (8, va_rf x8), (9, va_rf x9), (10, va_rf x10), (11, va_rf x11), (12, va_rf x12), (13, va_rf x13), (14, va_rf x14), (15, va_rf x15)]) (by show (16 : Nat) < 22; decide) (by show kr_st _ 16 _ = _; simp [kr_st, kr_rfcat, kr_icat]) d_W_law_126 ?_
    exact kr_sub [1, 2, 3, 4, 5, 6, 7, 8, 9, 10, 11, 12, 13, 14, 15, 16, 0] rfl (s_W_law_L128 kr_FU h)
  · replace h := kr_in_ c h
    refine r_aload (i := 14) (x := x14) 14 rfl d_W_law_109 ?_
    refine r_iconst (v := (4 : Int32)) (by decide) d_W_law_111 ?_
    refine r_iload (i := 16) (x := x16) 16 rfl d_W_law_112 ?_
    refine r_imul d_W_law_114 ?_
    refine r_iconst (v := (1 : Int32)) (by decide) d_W_law_115 ?_
    refine r_iadd d_W_law_116 ?_
    refine r_iconst (v := (1 : Int32)) (by decide) d_W_law_117 ?_
    have h2 := kr_ob h
    clear h
    obtain ⟨S89, eS89, h⟩ := h2
    refine r_iastore eS89 d_W_law_118 ?_
    have h2 := kr_ob h
    clear h
    obtain ⟨i90, ei90, h⟩ := h2
    refine r_iinc (v := i90) (lv' := [(16, .int i90), (0, va_rf (some 2)), (1, va_rf x1), (2, va_rf x2), (3, va_rf x3), (4, va_rf x4), (5, va_rf x5), (6, va_rf x6), (7, va_rf x7), (8, va_rf x8), (9, va_rf x9), (10, va_rf x10), (11, va_rf x11), (12, va_rf x12), (13, va_rf x13), (14, va_rf x14), (15, va_rf x15)]) 16 rfl (kr_inc (by decide) ei90) (by show (16 : Nat) < 22; decide) (by simp [kr_st, kr_rfcat, kr_icat]) d_W_law_119 ?_
    refine r_goto (tgt := 103) d_W_law_122 rfl ?_
    exact kr_sub [1, 2, 3, 4, 5, 6, 7, 8, 9, 10, 11, 12, 13, 14, 15, 16, 0] rfl (hk103 h)
theorem s_W_law_L103 {X : Nat → Int32} {L : Nat} (n : Nat) : ∀ {S : AS} {x1 : Option Nat} {x2 : Option Nat} {x3 : Option Nat} {x4 : Option Nat} {x5 : Option Nat} {x6 : Option Nat} {x7 : Option Nat} {x8 : Option Nat} {x9 : Option Nat} {x10 : Option Nat} {x11 : Option Nat} {x12 : Option Nat} {x13 : Option Nat} {x14 : Option Nat} {x15 : Option Nat} {x16 : Int32} {r : (Int32 × AS)}, f_W_law_L103 X L n S x1 x2 x3 x4 x5 x6 x7 x8 x9 x10 x11 x12 x13 x14 x15 x16 = some r → kr_AW (m_W_law X L) 16 103 [(0, va_rf (some 2)), (1, va_rf x1), (2, va_rf x2), (3, va_rf x3), (4, va_rf x4), (5, va_rf x5), (6, va_rf x6), (7, va_rf x7), (8, va_rf x8), (9, va_rf x9), (10, va_rf x10), (11, va_rf x11), (12, va_rf x12), (13, va_rf x13), (14, va_rf x14), (15, va_rf x15), (16, .int x16)] [] S (kr_eI r) := by
  induction n with
  | zero => intro S x1 x2 x3 x4 x5 x6 x7 x8 x9 x10 x11 x12 x13 x14 x15 x16 r h; cases h
  | succ n ih => intro S x1 x2 x3 x4 x5 x6 x7 x8 x9 x10 x11 x12 x13 x14 x15 x16 r h; exact s_W_law_C103 (fun {_} {_} {_} {_} {_} {_} {_} {_} {_} {_} {_} {_} {_} {_} {_} {_} {_} {_} h => ih h) h
set_option maxRecDepth 20000 in
set_option maxHeartbeats 4000000 in
theorem s_W_law {X : Nat → Int32} {L : Nat} {S : AS} {r : (Int32 × AS)} (h : f_W_law X L S = some r) : kr_AW (m_W_law X L) 16 0 [(0, va_rf (some 2))] [] S (kr_eI r) := by
  unfold f_W_law at h
  have h2 := kr_ob h
  clear h
  obtain ⟨S91, eS91, h⟩ := h2
  refine r_newO_ (κ := 22) eS91 (by decide) w71 w72 w43 d_W_law_0 ?_
  refine r_dup (kr_rfcat _) d_W_law_3 ?_
  have h2 := kr_ob h
  clear h
  obtain ⟨S92, eS92, h⟩ := h2
  refine r_callI (M1 := m_K_init) (As := []) (s_K_init eS92) mok_K_init rfl rfl rfl w73 w74 (by decide) (kr_c8 (kr_cR kr_c0)) d_W_law_4 (kr_k0 ?_) kr_kn
  refine r_astore_n (i := 1) (lv' := [(1, va_rf (some (sN S))), (0, va_rf (some 2))]) (by show (1 : Nat) < 22; decide) (by show kr_st _ 1 _ = _; simp [kr_st, kr_rfcat, kr_icat]) d_W_law_7 ?_
  refine r_bipush (v := (14 : Int32)) (by decide) d_W_law_8 ?_
  have h2 := kr_ob h
  clear h
  obtain ⟨S93, eS93, h⟩ := h2
  refine r_newI eS93 w100 d_W_law_10 ?_
  refine r_astore_n (i := 2) (lv' := [(2, va_rf (some (sN S92))), (1, va_rf (some (sN S))), (0, va_rf (some 2))]) (by show (2 : Nat) < 22; decide) (by show kr_st _ 2 _ = _; simp [kr_st, kr_rfcat, kr_icat]) d_W_law_12 ?_
  refine r_bipush (v := (35 : Int32)) (by decide) d_W_law_13 ?_
  have h2 := kr_ob h
  clear h
  obtain ⟨S94, eS94, h⟩ := h2
  refine r_newI eS94 w100 d_W_law_15 ?_
  refine r_astore_n (i := 3) (lv' := [(3, va_rf (some (sN S93))), (2, va_rf (some (sN S92))), (1, va_rf (some (sN S))), (0, va_rf (some 2))]) (by show (3 : Nat) < 22; decide) (by show kr_st _ 3 _ = _; simp [kr_st, kr_rfcat, kr_icat]) d_W_law_17 ?_
  refine r_bipush (v := (36 : Int32)) (by decide) d_W_law_18 ?_
  have h2 := kr_ob h
  clear h
  obtain ⟨S95, eS95, h⟩ := h2
  refine r_newI eS95 w100 d_W_law_20 ?_
  refine r_astore (i := 4) (lv' := [(4, va_rf (some (sN S94))), (3, va_rf (some (sN S93))), (2, va_rf (some (sN S92))), (1, va_rf (some (sN S))), (0, va_rf (some 2))]) (by show (4 : Nat) < 22; decide) (by show kr_st _ 4 _ = _; simp [kr_st, kr_rfcat, kr_icat]) d_W_law_22 ?_
  refine r_bipush (v := (60 : Int32)) (by decide) d_W_law_24 ?_
  have h2 := kr_ob h
  clear h
  obtain ⟨S96, eS96, h⟩ := h2
  refine r_newI eS96 w100 d_W_law_26 ?_
  refine r_astore (i := 5) (lv' := [(5, va_rf (some (sN S95))), (4, va_rf (some (sN S94))), (3, va_rf (some (sN S93))), (2, va_rf (some (sN S92))), (1, va_rf (some (sN S))), (0, va_rf (some 2))]) (by show (5 : Nat) < 22; decide) (by show kr_st _ 5 _ = _; simp [kr_st, kr_rfcat, kr_icat]) d_W_law_28 ?_
  refine r_bipush (v := (20 : Int32)) (by decide) d_W_law_30 ?_
  have h2 := kr_ob h
  clear h
  obtain ⟨S97, eS97, h⟩ := h2
  refine r_newI eS97 w100 d_W_law_32 ?_
  refine r_astore (i := 6) (lv' := [(6, va_rf (some (sN S96))), (5, va_rf (some (sN S95))), (4, va_rf (some (sN S94))), (3, va_rf (some (sN S93))), (2, va_rf (some (sN S92))), (1, va_rf (some (sN S))), (0, va_rf (some 2))]) (by show (6 : Nat) < 22; decide) (by show kr_st _ 6 _ = _; simp [kr_st, kr_rfcat, kr_icat]) d_W_law_34 ?_
  refine r_bipush (v := (30 : Int32)) (by decide) d_W_law_36 ?_
  have h2 := kr_ob h
  clear h
  obtain ⟨S98, eS98, h⟩ := h2
  refine r_newI eS98 w100 d_W_law_38 ?_
  refine r_astore (i := 7) (lv' := [(7, va_rf (some (sN S97))), (6, va_rf (some (sN S96))), (5, va_rf (some (sN S95))), (4, va_rf (some (sN S94))), (3, va_rf (some (sN S93))), (2, va_rf (some (sN S92))), (1, va_rf (some (sN S))), (0, va_rf (some 2))]) (by show (7 : Nat) < 22; decide) (by show kr_st _ 7 _ = _; simp [kr_st, kr_rfcat, kr_icat]) d_W_law_40 ?_
  refine r_bipush (v := (60 : Int32)) (by decide) d_W_law_42 ?_
  have h2 := kr_ob h
  clear h
  obtain ⟨S99, eS99, h⟩ := h2
  refine r_newI eS99 w100 d_W_law_44 ?_
  refine r_astore (i := 8) (lv' := [(8, va_rf (some (sN S98))), (7, va_rf (some (sN S97))), (6, va_rf (some (sN S96))), (5, va_rf (some (sN S95))), (4, va_rf (some (sN S94))), (3, va_rf (some (sN S93))), (2, va_rf (some (sN S92))), (1, va_rf (some (sN S))), (0, va_rf (some 2))]) (by show (8 : Nat) < 22; decide) (by show kr_st _ 8 _ = _; simp [kr_st, kr_rfcat, kr_icat]) d_W_law_46 ?_
  refine r_bipush (v := (45 : Int32)) (by decide) d_W_law_48 ?_
  have h2 := kr_ob h
  clear h
  obtain ⟨S100, eS100, h⟩ := h2
  refine r_newI eS100 w100 d_W_law_50 ?_
  refine r_astore (i := 9) (lv' := [(9, va_rf (some (sN S99))), (8, va_rf (some (sN S98))), (7, va_rf (some (sN S97))), (6, va_rf (some (sN S96))), (5, va_rf (some (sN S95))), (4, va_rf (some (sN S94))), (3, va_rf (some (sN S93))), (2, va_rf (some (sN S92))), (1, va_rf (some (sN S))), (0, va_rf (some 2))]) (by show (9 : Nat) < 22; decide) (by show kr_st _ 9 _ = _; simp [kr_st, kr_rfcat, kr_icat]) d_W_law_52 ?_
  refine r_bipush (v := (60 : Int32)) (by decide) d_W_law_54 ?_
  have h2 := kr_ob h
  clear h
  obtain ⟨S101, eS101, h⟩ := h2
  refine r_newI eS101 w100 d_W_law_56 ?_
  refine r_astore (i := 10) (lv' := [(10, va_rf (some (sN S100))), (9, va_rf (some (sN S99))), (8, va_rf (some (sN S98))), (7, va_rf (some (sN S97))), (6, va_rf (some (sN S96))), (5, va_rf (some (sN S95))), (4, va_rf (some (sN S94))), (3, va_rf (some (sN S93))), (2, va_rf (some (sN S92))), (1, va_rf (some (sN S))), (0, va_rf (some 2))]) (by show (10 : Nat) < 22; decide) (by show kr_st _ 10 _ = _; simp [kr_st, kr_rfcat, kr_icat]) d_W_law_58 ?_
  refine r_bipush (v := (50 : Int32)) (by decide) d_W_law_60 ?_
  have h2 := kr_ob h
  clear h
  obtain ⟨S102, eS102, h⟩ := h2
  refine r_newI eS102 w100 d_W_law_62 ?_
  refine r_astore (i := 11) (lv' := [(11, va_rf (some (sN S101))), (10, va_rf (some (sN S100))), (9, va_rf (some (sN S99))), (8, va_rf (some (sN S98))), (7, va_rf (some (sN S97))), (6, va_rf (some (sN S96))), (5, va_rf (some (sN S95))), (4, va_rf (some (sN S94))), (3, va_rf (some (sN S93))), (2, va_rf (some (sN S92))), (1, va_rf (some (sN S))), (0, va_rf (some 2))]) (by show (11 : Nat) < 22; decide) (by show kr_st _ 11 _ = _; simp [kr_st, kr_rfcat, kr_icat]) d_W_law_64 ?_
  refine r_bipush (v := (60 : Int32)) (by decide) d_W_law_66 ?_
  have h2 := kr_ob h
  clear h
  obtain ⟨S103, eS103, h⟩ := h2
  refine r_newI eS103 w100 d_W_law_68 ?_
  refine r_astore (i := 12) (lv' := [(12, va_rf (some (sN S102))), (11, va_rf (some (sN S101))), (10, va_rf (some (sN S100))), (9, va_rf (some (sN S99))), (8, va_rf (some (sN S98))), (7, va_rf (some (sN S97))), (6, va_rf (some (sN S96))), (5, va_rf (some (sN S95))), (4, va_rf (some (sN S94))), (3, va_rf (some (sN S93))), (2, va_rf (some (sN S92))), (1, va_rf (some (sN S))), (0, va_rf (some 2))]) (by show (12 : Nat) < 22; decide) (by show kr_st _ 12 _ = _; simp [kr_st, kr_rfcat, kr_icat]) d_W_law_70 ?_
  refine r_bipush (v := (20 : Int32)) (by decide) d_W_law_72 ?_
  have h2 := kr_ob h
  clear h
  obtain ⟨S104, eS104, h⟩ := h2
  refine r_newI eS104 w100 d_W_law_74 ?_
  refine r_astore (i := 13) (lv' := [(13, va_rf (some (sN S103))), (12, va_rf (some (sN S102))), (11, va_rf (some (sN S101))), (10, va_rf (some (sN S100))), (9, va_rf (some (sN S99))), (8, va_rf (some (sN S98))), (7, va_rf (some (sN S97))), (6, va_rf (some (sN S96))), (5, va_rf (some (sN S95))), (4, va_rf (some (sN S94))), (3, va_rf (some (sN S93))), (2, va_rf (some (sN S92))), (1, va_rf (some (sN S))), (0, va_rf (some 2))]) (by show (13 : Nat) < 22; decide) (by show kr_st _ 13 _ = _; simp [kr_st, kr_rfcat, kr_icat]) d_W_law_76 ?_
  refine r_bipush (v := (16 : Int32)) (by decide) d_W_law_78 ?_
  have h2 := kr_ob h
  clear h
  obtain ⟨S105, eS105, h⟩ := h2
  refine r_newI eS105 w100 d_W_law_80 ?_
  refine r_astore (i := 14) (lv' := [(14, va_rf (some (sN S104))), (13, va_rf (some (sN S103))), (12, va_rf (some (sN S102))), (11, va_rf (some (sN S101))), (10, va_rf (some (sN S100))), (9, va_rf (some (sN S99))), (8, va_rf (some (sN S98))), (7, va_rf (some (sN S97))), (6, va_rf (some (sN S96))), (5, va_rf (some (sN S95))), (4, va_rf (some (sN S94))), (3, va_rf (some (sN S93))), (2, va_rf (some (sN S92))), (1, va_rf (some (sN S))), (0, va_rf (some 2))]) (by show (14 : Nat) < 22; decide) (by show kr_st _ 14 _ = _; simp [kr_st, kr_rfcat, kr_icat]) d_W_law_82 ?_
  refine r_bipush (v := (20 : Int32)) (by decide) d_W_law_84 ?_
  have h2 := kr_ob h
  clear h
  obtain ⟨S106, eS106, h⟩ := h2
  refine r_newI eS106 w100 d_W_law_86 ?_
  refine r_astore (i := 15) (lv' := [(15, va_rf (some (sN S105))), (14, va_rf (some (sN S104))), (13, va_rf (some (sN S103))), (12, va_rf (some (sN S102))), (11, va_rf (some (sN S101))), (10, va_rf (some (sN S100))), (9, va_rf (some (sN S99))), (8, va_rf (some (sN S98))), (7, va_rf (some (sN S97))), (6, va_rf (some (sN S96))), (5, va_rf (some (sN S95))), (4, va_rf (some (sN S94))), (3, va_rf (some (sN S93))), (2, va_rf (some (sN S92))), (1, va_rf (some (sN S))), (0, va_rf (some 2))]) (by show (15 : Nat) < 22; decide) (by show kr_st _ 15 _ = _; simp [kr_st, kr_rfcat, kr_icat]) d_W_law_88 ?_
  refine r_aload_n (i := 2) (x := (some (sN S92))) 13 rfl d_W_law_90 ?_
  refine r_iconst (v := (5 : Int32)) (by decide) d_W_law_91 ?_
  refine r_iconst (v := (1 : Int32)) (by decide) d_W_law_92 ?_
  have h2 := kr_ob h
  clear h
  obtain ⟨S107, eS107, h⟩ := h2
  refine r_iastore eS107 d_W_law_93 ?_
  refine r_aload_n (i := 2) (x := (some (sN S92))) 13 rfl d_W_law_94 ?_
  refine r_bipush (v := (10 : Int32)) (by decide) d_W_law_95 ?_
  refine r_bipush (v := (7 : Int32)) (by decide) d_W_law_97 ?_
  have h2 := kr_ob h
  clear h
  obtain ⟨S108, eS108, h⟩ := h2
  refine r_iastore eS108 d_W_law_99 ?_
  refine r_iconst (v := (0 : Int32)) (by decide) d_W_law_100 ?_
  refine r_istore (i := 16) (lv' := [(16, .int (0 : Int32)), (15, va_rf (some (sN S105))), (14, va_rf (some (sN S104))), (13, va_rf (some (sN S103))), (12, va_rf (some (sN S102))), (11, va_rf (some (sN S101))), (10, va_rf (some (sN S100))), (9, va_rf (some (sN S99))), (8, va_rf (some (sN S98))), (7, va_rf (some (sN S97))), (6, va_rf (some (sN S96))), (5, va_rf (some (sN S95))), (4, va_rf (some (sN S94))), (3, va_rf (some (sN S93))), (2, va_rf (some (sN S92))), (1, va_rf (some (sN S))), (0, va_rf (some 2))]) (by show (16 : Nat) < 22; decide) (by show kr_st _ 16 _ = _; simp [kr_st, kr_rfcat, kr_icat]) d_W_law_101 ?_
  exact kr_sub [16, 15, 14, 13, 12, 11, 10, 9, 8, 7, 6, 5, 4, 3, 2, 1, 0] rfl (s_W_law_L103 kr_FU h)
