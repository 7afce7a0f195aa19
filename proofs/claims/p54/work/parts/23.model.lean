def f_M_init_C678 (k678 : AS → Option Nat → Int32 → Option AS) (S : AS) (x0 : Option Nat) (x1 : Int32) : Option AS :=
  if (6 : Int32) ≤ x1 then
  some S
  else
  (gR S 39 76 x0).bind fun v1 =>
  (bI S v1 x1 (-1 : Int32) 46).bind fun S2 =>
  (some (x1 + (1 : Int32))).bind fun i3 =>
  k678 S2 x0 i3
def f_M_init_L678 : Nat → AS → Option Nat → Int32 → Option AS
  | 0, S, x0, x1 => none
  | n + 1, S, x0, x1 => f_M_init_C678 (f_M_init_L678 n) S x0 x1
def f_M_init_C657 (k657 : AS → Option Nat → Int32 → Option AS) (S : AS) (x0 : Option Nat) (x1 : Int32) : Option AS :=
  if (20 : Int32) ≤ x1 then
  f_M_init_L678 kr_FU S x0 (0 : Int32)
  else
  (gR S 39 65 x0).bind fun v4 =>
  (bI S v4 x1 (-1 : Int32) 46).bind fun S5 =>
  (some (x1 + (1 : Int32))).bind fun i6 =>
  k657 S5 x0 i6
def f_M_init_L657 : Nat → AS → Option Nat → Int32 → Option AS
  | 0, S, x0, x1 => none
  | n + 1, S, x0, x1 => f_M_init_C657 (f_M_init_L657 n) S x0 x1
def f_M_init_C637 (k637 : AS → Option Nat → Int32 → Option AS) (S : AS) (x0 : Option Nat) (x1 : Int32) : Option AS :=
  if (4 : Int32) ≤ x1 then
  f_M_init_L657 kr_FU S x0 (0 : Int32)
  else
  (gR S 39 67 x0).bind fun v7 =>
  (bI S v7 x1 (1 : Int32) 46).bind fun S8 =>
  (some (x1 + (1 : Int32))).bind fun i9 =>
  k637 S8 x0 i9
def f_M_init_L637 : Nat → AS → Option Nat → Int32 → Option AS
  | 0, S, x0, x1 => none
  | n + 1, S, x0, x1 => f_M_init_C637 (f_M_init_L637 n) S x0 x1
def f_M_init_C617 (k617 : AS → Option Nat → Int32 → Option AS) (S : AS) (x0 : Option Nat) (x1 : Int32) : Option AS :=
  if (3 : Int32) ≤ x1 then
  f_M_init_L637 kr_FU S x0 (0 : Int32)
  else
  (gR S 39 18 x0).bind fun v10 =>
  (bI S v10 x1 (-1 : Int32) 46).bind fun S11 =>
  (some (x1 + (1 : Int32))).bind fun i12 =>
  k617 S11 x0 i12
def f_M_init_L617 : Nat → AS → Option Nat → Int32 → Option AS
  | 0, S, x0, x1 => none
  | n + 1, S, x0, x1 => f_M_init_C617 (f_M_init_L617 n) S x0 x1
def f_M_init_C573 (k573 : AS → Option Nat → Int32 → Option AS) (S : AS) (x0 : Option Nat) (x1 : Int32) : Option AS :=
  if (18 : Int32) ≤ x1 then
  (gR S 39 17 x0).bind fun v13 =>
  (bI S v13 (0 : Int32) (2 : Int32) 46).bind fun S14 =>
  (gR S14 39 17 x0).bind fun v15 =>
  (bI S14 v15 (1 : Int32) (1 : Int32) 46).bind fun S16 =>
  (gR S16 39 17 x0).bind fun v17 =>
  (bI S16 v17 (2 : Int32) (1 : Int32) 46).bind fun S18 =>
  f_M_init_L617 kr_FU S18 x0 (0 : Int32)
  else
  (gR S 39 4 x0).bind fun v19 =>
  (bI S v19 x1 (-1000 : Int32) 46).bind fun S20 =>
  (some (x1 + (1 : Int32))).bind fun i21 =>
  k573 S20 x0 i21
def f_M_init_L573 : Nat → AS → Option Nat → Int32 → Option AS
  | 0, S, x0, x1 => none
  | n + 1, S, x0, x1 => f_M_init_C573 (f_M_init_L573 n) S x0 x1
def f_M_init (S : AS) (a0 : Option Nat) : Option AS :=
  (a0).bind fun k22 =>
  (nA S 46 (18 : Int32)).bind fun S23 =>
  (pR S23 39 1 (some k22) (some (sN S))).bind fun S24 =>
  (nA S24 46 (18 : Int32)).bind fun S25 =>
  (pR S25 39 2 (some k22) (some (sN S24))).bind fun S26 =>
  (nA S26 46 (6 : Int32)).bind fun S27 =>
  (pR S27 39 3 (some k22) (some (sN S26))).bind fun S28 =>
  (nA S28 46 (18 : Int32)).bind fun S29 =>
  (pR S29 39 4 (some k22) (some (sN S28))).bind fun S30 =>
  (nA S30 47 (36 : Int32)).bind fun S31 =>
  (pR S31 39 5 (some k22) (some (sN S30))).bind fun S32 =>
  (nA S32 47 (36 : Int32)).bind fun S33 =>
  (pR S33 39 6 (some k22) (some (sN S32))).bind fun S34 =>
  (nA S34 47 (6 : Int32)).bind fun S35 =>
  (pR S35 39 7 (some k22) (some (sN S34))).bind fun S36 =>
  (nA S36 47 (6 : Int32)).bind fun S37 =>
  (pR S37 39 8 (some k22) (some (sN S36))).bind fun S38 =>
  (nA S38 46 (9 : Int32)).bind fun S39 =>
  (pR S39 39 10 (some k22) (some (sN S38))).bind fun S40 =>
  (nA S40 46 (108 : Int32)).bind fun S41 =>
  (pR S41 39 11 (some k22) (some (sN S40))).bind fun S42 =>
  (nA S42 46 (108 : Int32)).bind fun S43 =>
  (pR S43 39 12 (some k22) (some (sN S42))).bind fun S44 =>
  (nA S44 46 (108 : Int32)).bind fun S45 =>
  (pR S45 39 13 (some k22) (some (sN S44))).bind fun S46 =>
  (nA S46 46 (108 : Int32)).bind fun S47 =>
  (pR S47 39 14 (some k22) (some (sN S46))).bind fun S48 =>
  (nA S48 46 (108 : Int32)).bind fun S49 =>
  (pR S49 39 15 (some k22) (some (sN S48))).bind fun S50 =>
  (nA S50 47 (96 : Int32)).bind fun S51 =>
  (pR S51 39 16 (some k22) (some (sN S50))).bind fun S52 =>
  (nA S52 46 (3 : Int32)).bind fun S53 =>
  (pR S53 39 17 (some k22) (some (sN S52))).bind fun S54 =>
  (nA S54 46 (3 : Int32)).bind fun S55 =>
  (pR S55 39 18 (some k22) (some (sN S54))).bind fun S56 =>
  (nA S56 46 (60 : Int32)).bind fun S57 =>
  (pR S57 39 20 (some k22) (some (sN S56))).bind fun S58 =>
  (nA S58 46 (60 : Int32)).bind fun S59 =>
  (pR S59 39 21 (some k22) (some (sN S58))).bind fun S60 =>
  (nA S60 46 (60 : Int32)).bind fun S61 =>
  (pR S61 39 22 (some k22) (some (sN S60))).bind fun S62 =>
  (nA S62 46 (60 : Int32)).bind fun S63 =>
  (pR S63 39 23 (some k22) (some (sN S62))).bind fun S64 =>
  (nA S64 46 (60 : Int32)).bind fun S65 =>
  (pR S65 39 24 (some k22) (some (sN S64))).bind fun S66 =>
  (nA S66 46 (60 : Int32)).bind fun S67 =>
  (pR S67 39 25 (some k22) (some (sN S66))).bind fun S68 =>
  (nA S68 46 (60 : Int32)).bind fun S69 =>
  (pR S69 39 26 (some k22) (some (sN S68))).bind fun S70 =>
  (nA S70 46 (60 : Int32)).bind fun S71 =>
  (pR S71 39 27 (some k22) (some (sN S70))).bind fun S72 =>
  (nA S72 46 (60 : Int32)).bind fun S73 =>
  (pR S73 39 28 (some k22) (some (sN S72))).bind fun S74 =>
  (nA S74 46 (180 : Int32)).bind fun S75 =>
  (pR S75 39 29 (some k22) (some (sN S74))).bind fun S76 =>
  (nA S76 46 (60 : Int32)).bind fun S77 =>
  (pR S77 39 31 (some k22) (some (sN S76))).bind fun S78 =>
  (nA S78 46 (60 : Int32)).bind fun S79 =>
  (pR S79 39 32 (some k22) (some (sN S78))).bind fun S80 =>
  (nA S80 46 (60 : Int32)).bind fun S81 =>
  (pR S81 39 33 (some k22) (some (sN S80))).bind fun S82 =>
  (nA S82 46 (60 : Int32)).bind fun S83 =>
  (pR S83 39 34 (some k22) (some (sN S82))).bind fun S84 =>
  (nA S84 47 (60 : Int32)).bind fun S85 =>
  (pR S85 39 35 (some k22) (some (sN S84))).bind fun S86 =>
  (nA S86 46 (180 : Int32)).bind fun S87 =>
  (pR S87 39 36 (some k22) (some (sN S86))).bind fun S88 =>
  (nA S88 46 (28 : Int32)).bind fun S89 =>
  (pR S89 39 37 (some k22) (some (sN S88))).bind fun S90 =>
  (nA S90 46 (4 : Int32)).bind fun S91 =>
  (pR S91 39 38 (some k22) (some (sN S90))).bind fun S92 =>
  (nA S92 46 (60 : Int32)).bind fun S93 =>
  (pR S93 39 40 (some k22) (some (sN S92))).bind fun S94 =>
  (nA S94 46 (60 : Int32)).bind fun S95 =>
  (pR S95 39 41 (some k22) (some (sN S94))).bind fun S96 =>
  (nA S96 46 (60 : Int32)).bind fun S97 =>
  (pR S97 39 42 (some k22) (some (sN S96))).bind fun S98 =>
  (nA S98 46 (60 : Int32)).bind fun S99 =>
  (pR S99 39 43 (some k22) (some (sN S98))).bind fun S100 =>
  (nA S100 46 (60 : Int32)).bind fun S101 =>
  (pR S101 39 44 (some k22) (some (sN S100))).bind fun S102 =>
  (nA S102 46 (60 : Int32)).bind fun S103 =>
  (pR S103 39 45 (some k22) (some (sN S102))).bind fun S104 =>
  (nA S104 46 (60 : Int32)).bind fun S105 =>
  (pR S105 39 47 (some k22) (some (sN S104))).bind fun S106 =>
  (nA S106 46 (60 : Int32)).bind fun S107 =>
  (pR S107 39 48 (some k22) (some (sN S106))).bind fun S108 =>
  (nA S108 46 (60 : Int32)).bind fun S109 =>
  (pR S109 39 49 (some k22) (some (sN S108))).bind fun S110 =>
  (nA S110 46 (60 : Int32)).bind fun S111 =>
  (pR S111 39 50 (some k22) (some (sN S110))).bind fun S112 =>
  (nA S112 47 (60 : Int32)).bind fun S113 =>
  (pR S113 39 51 (some k22) (some (sN S112))).bind fun S114 =>
  (nA S114 46 (200 : Int32)).bind fun S115 =>
  (pR S115 39 53 (some k22) (some (sN S114))).bind fun S116 =>
  (nA S116 46 (200 : Int32)).bind fun S117 =>
  (pR S117 39 54 (some k22) (some (sN S116))).bind fun S118 =>
  (nA S118 46 (200 : Int32)).bind fun S119 =>
  (pR S119 39 55 (some k22) (some (sN S118))).bind fun S120 =>
  (nA S120 46 (200 : Int32)).bind fun S121 =>
  (pR S121 39 56 (some k22) (some (sN S120))).bind fun S122 =>
  (nA S122 46 (200 : Int32)).bind fun S123 =>
  (pR S123 39 57 (some k22) (some (sN S122))).bind fun S124 =>
  (nA S124 46 (200 : Int32)).bind fun S125 =>
  (pR S125 39 58 (some k22) (some (sN S124))).bind fun S126 =>
  (nA S126 46 (200 : Int32)).bind fun S127 =>
  (pR S127 39 59 (some k22) (some (sN S126))).bind fun S128 =>
  (pI S128 39 60 (some k22) (1 : Int32)).bind fun S129 =>
  (pI S129 39 62 (some k22) (-1 : Int32)).bind fun S130 =>
  (nA S130 47 (20 : Int32)).bind fun S131 =>
  (pR S131 39 64 (some k22) (some (sN S130))).bind fun S132 =>
  (nA S132 46 (20 : Int32)).bind fun S133 =>
  (pR S133 39 65 (some k22) (some (sN S132))).bind fun S134 =>
  (nA S134 47 (4 : Int32)).bind fun S135 =>
  (pR S135 39 66 (some k22) (some (sN S134))).bind fun S136 =>
  (nA S136 46 (4 : Int32)).bind fun S137 =>
  (pR S137 39 67 (some k22) (some (sN S136))).bind fun S138 =>
  (nA S138 46 (4 : Int32)).bind fun S139 =>
  (pR S139 39 68 (some k22) (some (sN S138))).bind fun S140 =>
  (nA S140 47 (240 : Int32)).bind fun S141 =>
  (pR S141 39 69 (some k22) (some (sN S140))).bind fun S142 =>
  (nA S142 46 (20 : Int32)).bind fun S143 =>
  (pR S143 39 71 (some k22) (some (sN S142))).bind fun S144 =>
  (nA S144 46 (20 : Int32)).bind fun S145 =>
  (pR S145 39 72 (some k22) (some (sN S144))).bind fun S146 =>
  (nA S146 47 (20 : Int32)).bind fun S147 =>
  (pR S147 39 73 (some k22) (some (sN S146))).bind fun S148 =>
  (nA S148 46 (20 : Int32)).bind fun S149 =>
  (pR S149 39 74 (some k22) (some (sN S148))).bind fun S150 =>
  (nA S150 46 (20 : Int32)).bind fun S151 =>
  (pR S151 39 75 (some k22) (some (sN S150))).bind fun S152 =>
  (nA S152 46 (6 : Int32)).bind fun S153 =>
  (pR S153 39 76 (some k22) (some (sN S152))).bind fun S154 =>
  (nA S154 46 (1200 : Int32)).bind fun S155 =>
  (pR S155 39 78 (some k22) (some (sN S154))).bind fun S156 =>
  (nA S156 46 (1200 : Int32)).bind fun S157 =>
  (pR S157 39 79 (some k22) (some (sN S156))).bind fun S158 =>
  (nA S158 46 (1200 : Int32)).bind fun S159 =>
  (pR S159 39 80 (some k22) (some (sN S158))).bind fun S160 =>
  (pI S160 39 81 (some k22) (7 : Int32)).bind fun S161 =>
  f_M_init_L573 kr_FU S161 (some k22) (0 : Int32)
def f_M_isIn (S : AS) (a0 : Int32) (a1 : Int32) (a2 : Int32) : Option (Int32 × AS) :=
  if a0 < a1 then
  some ((0 : Int32), S)
  else
  if a2 < a0 then
  some ((0 : Int32), S)
  else
  some ((1 : Int32), S)
def f_M_mayBoth_B18 (S : AS) (x0 : Option Nat) (y0 : Option Nat) (y1 : Int32) : Option (Int32 × AS) :=
  (pI S 39 82 y0 y1).bind fun S1 =>
  (gI S1 39 82 x0).bind fun v2 =>
  if v2 = 0 then
  some ((1 : Int32), S1)
  else
  some ((0 : Int32), S1)
def f_M_mayBoth (S : AS) (a0 : Option Nat) (a1 : Int32) (a2 : Int32) : Option (Int32 × AS) :=
  if a1 = 0 then
  f_M_mayBoth_B18 S a0 a0 (1 : Int32)
  else
  if a2 = 0 then
  f_M_mayBoth_B18 S a0 a0 (2 : Int32)
  else
  f_M_mayBoth_B18 S a0 a0 (0 : Int32)
def f_M_write (S : AS) (a0 : Option Nat) (a1 : Int32) (a2 : Int32) : Option AS :=
  (gR S 39 78 a0).bind fun v1 =>
  (gI S 39 77 a0).bind fun v2 =>
  (bI S v1 v2 a1 46).bind fun S3 =>
  (gR S3 39 79 a0).bind fun v4 =>
  (gI S3 39 77 a0).bind fun v5 =>
  (bI S3 v4 v5 a2 46).bind fun S6 =>
  (gR S6 39 80 a0).bind fun v7 =>
  (gI S6 39 77 a0).bind fun v8 =>
  (gI S6 39 0 a0).bind fun v9 =>
  (bI S6 v7 v8 v9 46).bind fun S10 =>
  (gI S10 39 77 a0).bind fun v11 =>
  (pI S10 39 77 a0 (v11 + (1 : Int32))).bind fun S12 =>
  (gI S12 39 81 a0).bind fun v13 =>
  (gI S12 39 0 a0).bind fun v14 =>
  (some (((((31 : Int32) * v13) + ((100 : Int32) * a1)) + a2) + v14)).bind fun i15 =>
  (pI S12 39 81 a0 (i15 - i15 / (65521 : Int32) * (65521 : Int32))).bind fun S16 =>
  some S16
def f_M_hears_B45 (k5 : AS → Option Nat → Int32 → Int32 → Int32 → Int32 → Option (Int32 × AS)) (S : AS) (x0 : Option Nat) (x1 : Int32) (x2 : Int32) (x4 : Int32) (y0 : Int32) : Option (Int32 × AS) :=
  (some (x4 + (1 : Int32))).bind fun i1 =>
  k5 S x0 x1 x2 y0 i1
def f_M_hears_B40 (k5 : AS → Option Nat → Int32 → Int32 → Int32 → Int32 → Option (Int32 × AS)) (S : AS) (x0 : Option Nat) (x1 : Int32) (x2 : Int32) (x4 : Int32) : Option (Int32 × AS) :=
  f_M_hears_B45 k5 S x0 x1 x2 x4 (1 : Int32)
def f_M_hears_B44 (k5 : AS → Option Nat → Int32 → Int32 → Int32 → Int32 → Option (Int32 × AS)) (S : AS) (x0 : Option Nat) (x1 : Int32) (x2 : Int32) (x4 : Int32) : Option (Int32 × AS) :=
  f_M_hears_B45 k5 S x0 x1 x2 x4 (0 : Int32)
def f_M_hears_C5 (k5 : AS → Option Nat → Int32 → Int32 → Int32 → Int32 → Option (Int32 × AS)) (S : AS) (x0 : Option Nat) (x1 : Int32) (x2 : Int32) (x3 : Int32) (x4 : Int32) : Option (Int32 × AS) :=
  (gI S 39 52 x0).bind fun v2 =>
  if v2 ≤ x4 then
  (kr_z x3).bind fun u3 =>
  some (x3, S)
  else
  if x3 = 0 then
  (gR S 39 57 x0).bind fun v4 =>
  (aI S 46 v4 x4).bind fun v5 =>
  if v5 = x2 then
  (gR S 39 54 x0).bind fun v6 =>
  (aI S 46 v6 x4).bind fun v7 =>
  if v7 = x1 then
  f_M_hears_B40 k5 S x0 x1 x2 x4
  else
  f_M_hears_B44 k5 S x0 x1 x2 x4
  else
  f_M_hears_B44 k5 S x0 x1 x2 x4
  else
  f_M_hears_B40 k5 S x0 x1 x2 x4
def f_M_hears_L5 : Nat → AS → Option Nat → Int32 → Int32 → Int32 → Int32 → Option (Int32 × AS)
  | 0, S, x0, x1, x2, x3, x4 => none
  | n + 1, S, x0, x1, x2, x3, x4 => f_M_hears_C5 (f_M_hears_L5 n) S x0 x1 x2 x3 x4
def f_M_hears (S : AS) (a0 : Option Nat) (a1 : Int32) (a2 : Int32) : Option (Int32 × AS) :=
  f_M_hears_L5 kr_FU S a0 a1 a2 (0 : Int32) (0 : Int32)
def f_M_endFamily_B63 (k25 : AS → Option Nat → Int32 → Int32 → Option AS) (S : AS) (x0 : Option Nat) (x1 : Int32) (x2 : Int32) (y0 : Option Nat) (y1 : Int32) (y2 : Int32) : Option AS :=
  (bZ S y0 y1 y2 47).bind fun S1 =>
  (some (x2 + (1 : Int32))).bind fun i2 =>
  k25 S1 x0 x1 i2
def f_M_endFamily_B62 (k25 : AS → Option Nat → Int32 → Int32 → Option AS) (S : AS) (x0 : Option Nat) (x1 : Int32) (x2 : Int32) (y0 : Option Nat) (y1 : Int32) : Option AS :=
  f_M_endFamily_B63 k25 S x0 x1 x2 y0 y1 (0 : Int32)
def f_M_endFamily_C25 (k25 : AS → Option Nat → Int32 → Int32 → Option AS) (S : AS) (x0 : Option Nat) (x1 : Int32) (x2 : Int32) : Option AS :=
  if (4 : Int32) ≤ x2 then
  some S
  else
  (gR S 39 69 x0).bind fun v3 =>
  (gR S 39 66 x0).bind fun v4 =>
  (aI S 47 v4 x2).bind fun v5 =>
  if v5 = 0 then
  (kr_rv S 39 x0).bind fun u6 =>
  kr_b2 (f_M_hears S x0 x2 x1) fun v8 S7 =>
  if v8 = 0 then
  f_M_endFamily_B62 k25 S7 x0 x1 x2 v3 (((60 : Int32) * x2) + x1)
  else
  f_M_endFamily_B63 k25 S7 x0 x1 x2 v3 (((60 : Int32) * x2) + x1) (1 : Int32)
  else
  f_M_endFamily_B62 k25 S x0 x1 x2 v3 (((60 : Int32) * x2) + x1)
def f_M_endFamily_L25 : Nat → AS → Option Nat → Int32 → Int32 → Option AS
  | 0, S, x0, x1, x2 => none
  | n + 1, S, x0, x1, x2 => f_M_endFamily_C25 (f_M_endFamily_L25 n) S x0 x1 x2
def f_M_endFamily (S : AS) (a0 : Option Nat) (a1 : Int32) : Option AS :=
  (gR S 39 51 a0).bind fun v9 =>
  (aI S 47 v9 a1).bind fun v10 =>
  if v10 = 0 then
  some S
  else
  (gR S 39 51 a0).bind fun v11 =>
  (bZ S v11 a1 (0 : Int32) 47).bind fun S12 =>
  (kr_rv S12 39 a0).bind fun u13 =>
  (f_M_write S12 a0 (3 : Int32) a1).bind fun S14 =>
  f_M_endFamily_L25 kr_FU S14 a0 a1 (0 : Int32)
def f_M_endFamiliesOf_B30 (k2 : AS → Option Nat → Int32 → Int32 → Option AS) (S : AS) (x0 : Option Nat) (x1 : Int32) (x2 : Int32) : Option AS :=
  (some (x2 + (1 : Int32))).bind fun i1 =>
  k2 S x0 x1 i1
def f_M_endFamiliesOf_C2 (k2 : AS → Option Nat → Int32 → Int32 → Option AS) (S : AS) (x0 : Option Nat) (x1 : Int32) (x2 : Int32) : Option AS :=
  (gI S 39 46 x0).bind fun v2 =>
  if v2 ≤ x2 then
  some S
  else
  (gR S 39 40 x0).bind fun v3 =>
  (gR S 39 47 x0).bind fun v4 =>
  (aI S 46 v4 x2).bind fun v5 =>
  (aI S 46 v3 v5).bind fun v6 =>
  if v6 = x1 then
  (kr_rv S 39 x0).bind fun u7 =>
  (f_M_endFamily S x0 x2).bind fun S8 =>
  f_M_endFamiliesOf_B30 k2 S8 x0 x1 x2
  else
  f_M_endFamiliesOf_B30 k2 S x0 x1 x2
def f_M_endFamiliesOf_L2 : Nat → AS → Option Nat → Int32 → Int32 → Option AS
  | 0, S, x0, x1, x2 => none
  | n + 1, S, x0, x1, x2 => f_M_endFamiliesOf_C2 (f_M_endFamiliesOf_L2 n) S x0 x1 x2
def f_M_endFamiliesOf (S : AS) (a0 : Option Nat) (a1 : Int32) : Option AS :=
  f_M_endFamiliesOf_L2 kr_FU S a0 a1 (0 : Int32)
def f_M_endSession_B65 (k17 : AS → Option Nat → Int32 → Int32 → Int32 → Option (Int32 × AS)) (S : AS) (x0 : Option Nat) (x1 : Int32) (x2 : Int32) (x3 : Int32) : Option (Int32 × AS) :=
  (some (x3 + (1 : Int32))).bind fun i1 =>
  k17 S x0 x1 x2 i1
def f_M_endSession_C17 (k17 : AS → Option Nat → Int32 → Int32 → Int32 → Option (Int32 × AS)) (S : AS) (x0 : Option Nat) (x1 : Int32) (x2 : Int32) (x3 : Int32) : Option (Int32 × AS) :=
  (gI S 39 30 x0).bind fun v2 =>
  if v2 ≤ x3 then
  (kr_rv S 39 x0).bind fun u3 =>
  (f_M_endFamiliesOf S x0 x1).bind fun S4 =>
  some (x2, S4)
  else
  (gR S 39 35 x0).bind fun v5 =>
  (aI S 47 v5 x3).bind fun v6 =>
  if v6 = 0 then
  f_M_endSession_B65 k17 S x0 x1 x2 x3
  else
  (gR S 39 34 x0).bind fun v7 =>
  (aI S 46 v7 x3).bind fun v8 =>
  if v8 = x1 then
  (gR S 39 35 x0).bind fun v9 =>
  (bZ S v9 x3 (0 : Int32) 47).bind fun S10 =>
  (kr_rv S10 39 x0).bind fun u11 =>
  (f_M_write S10 x0 (1 : Int32) x3).bind fun S12 =>
  (kr_rv S12 39 x0).bind fun u13 =>
  (f_M_endFamiliesOf S12 x0 x3).bind fun S14 =>
  (some (x2 + (1 : Int32))).bind fun i15 =>
  f_M_endSession_B65 k17 S14 x0 x1 i15 x3
  else
  f_M_endSession_B65 k17 S x0 x1 x2 x3
def f_M_endSession_L17 : Nat → AS → Option Nat → Int32 → Int32 → Int32 → Option (Int32 × AS)
  | 0, S, x0, x1, x2, x3 => none
  | n + 1, S, x0, x1, x2, x3 => f_M_endSession_C17 (f_M_endSession_L17 n) S x0 x1 x2 x3
def f_M_endSession (S : AS) (a0 : Option Nat) (a1 : Int32) : Option (Int32 × AS) :=
  (gR S 39 35 a0).bind fun v16 =>
  (bZ S v16 a1 (0 : Int32) 47).bind fun S17 =>
  (kr_rv S17 39 a0).bind fun u18 =>
  (f_M_write S17 a0 (1 : Int32) a1).bind fun S19 =>
  f_M_endSession_L17 kr_FU S19 a0 a1 (1 : Int32) (0 : Int32)
def f_M_pass_B198 (k45 : AS → Option Nat → Int32 → Int32 → Int32 → Option (Int32 × AS)) (k121 : AS → Option Nat → Int32 → Int32 → Int32 → Int32 → Option (Int32 × AS)) (S : AS) (x0 : Option Nat) (x1 : Int32) (x4 : Int32) (x5 : Int32) (y0 : Int32) (y1 : Int32) : Option (Int32 × AS) :=
  (some (y0 + y1)).bind fun i1 =>
  (some (x5 + (1 : Int32))).bind fun i2 =>
  k121 S x0 x1 i1 x4 i2
def f_M_pass_B180 (k45 : AS → Option Nat → Int32 → Int32 → Int32 → Option (Int32 × AS)) (k121 : AS → Option Nat → Int32 → Int32 → Int32 → Int32 → Option (Int32 × AS)) (S : AS) (x0 : Option Nat) (x1 : Int32) (x3 : Int32) (x4 : Int32) (x5 : Int32) (y0 : Int32) : Option (Int32 × AS) :=
  if y0 = 0 then
  f_M_pass_B198 k45 k121 S x0 x1 x4 x5 x3 (0 : Int32)
  else
  (kr_rv S 39 x0).bind fun u3 =>
  kr_b2 (f_M_endSession S x0 x5) fun v5 S4 =>
  f_M_pass_B198 k45 k121 S4 x0 x1 x4 x5 x3 v5
def f_M_pass_B175 (k45 : AS → Option Nat → Int32 → Int32 → Int32 → Option (Int32 × AS)) (k121 : AS → Option Nat → Int32 → Int32 → Int32 → Int32 → Option (Int32 × AS)) (S : AS) (x0 : Option Nat) (x1 : Int32) (x3 : Int32) (x4 : Int32) (x5 : Int32) : Option (Int32 × AS) :=
  f_M_pass_B180 k45 k121 S x0 x1 x3 x4 x5 (1 : Int32)
def f_M_pass_B179 (k45 : AS → Option Nat → Int32 → Int32 → Int32 → Option (Int32 × AS)) (k121 : AS → Option Nat → Int32 → Int32 → Int32 → Int32 → Option (Int32 × AS)) (S : AS) (x0 : Option Nat) (x1 : Int32) (x3 : Int32) (x4 : Int32) (x5 : Int32) : Option (Int32 × AS) :=
  f_M_pass_B180 k45 k121 S x0 x1 x3 x4 x5 (0 : Int32)
def f_M_pass_C121 (k45 : AS → Option Nat → Int32 → Int32 → Int32 → Option (Int32 × AS)) (k121 : AS → Option Nat → Int32 → Int32 → Int32 → Int32 → Option (Int32 × AS)) (S : AS) (x0 : Option Nat) (x1 : Int32) (x3 : Int32) (x4 : Int32) (x5 : Int32) : Option (Int32 × AS) :=
  (gI S 39 30 x0).bind fun v6 =>
  if v6 ≤ x5 then
  (some (x4 + (1 : Int32))).bind fun i7 =>
  k45 S x0 x1 x3 i7
  else
  (gR S 39 35 x0).bind fun v8 =>
  (aI S 47 v8 x5).bind fun v9 =>
  if v9 = 0 then
  f_M_pass_B179 k45 k121 S x0 x1 x3 x4 x5
  else
  (gI S 39 0 x0).bind fun v10 =>
  (gR S 39 33 x0).bind fun v11 =>
  (aI S 46 v11 x5).bind fun v12 =>
  if (30 : Int32) < (v10 - v12) then
  f_M_pass_B175 k45 k121 S x0 x1 x3 x4 x5
  else
  (gI S 39 0 x0).bind fun v13 =>
  (gR S 39 32 x0).bind fun v14 =>
  (aI S 46 v14 x5).bind fun v15 =>
  if (v13 - v15) ≤ (480 : Int32) then
  f_M_pass_B179 k45 k121 S x0 x1 x3 x4 x5
  else
  f_M_pass_B175 k45 k121 S x0 x1 x3 x4 x5
def f_M_pass_L121 (k45 : AS → Option Nat → Int32 → Int32 → Int32 → Option (Int32 × AS)) : Nat → AS → Option Nat → Int32 → Int32 → Int32 → Int32 → Option (Int32 × AS)
  | 0, S, x0, x1, x3, x4, x5 => none
  | n + 1, S, x0, x1, x3, x4, x5 => f_M_pass_C121 k45 (f_M_pass_L121 k45 n) S x0 x1 x3 x4 x5
def f_M_pass_B118 (k45 : AS → Option Nat → Int32 → Int32 → Int32 → Option (Int32 × AS)) (S : AS) (x0 : Option Nat) (x1 : Int32) (x3 : Int32) (x4 : Int32) : Option (Int32 × AS) :=
  f_M_pass_L121 k45 kr_FU S x0 x1 x3 x4 (0 : Int32)
def f_M_pass_C45 (k45 : AS → Option Nat → Int32 → Int32 → Int32 → Option (Int32 × AS)) (S : AS) (x0 : Option Nat) (x1 : Int32) (x3 : Int32) (x4 : Int32) : Option (Int32 × AS) :=
  if x1 ≤ x4 then
  some (x3, S)
  else
  (gI S 39 0 x0).bind fun v16 =>
  (pI S 39 0 x0 (v16 + (1 : Int32))).bind fun S17 =>
  (gI S17 39 62 x0).bind fun v18 =>
  if v18 = (-1 : Int32) then
  f_M_pass_B118 k45 S17 x0 x1 x3 x4
  else
  (gI S17 39 0 x0).bind fun v19 =>
  (gI S17 39 63 x0).bind fun v20 =>
  if v19 < v20 then
  f_M_pass_B118 k45 S17 x0 x1 x3 x4
  else
  (gR S17 39 65 x0).bind fun v21 =>
  (gI S17 39 61 x0).bind fun v22 =>
  (gI S17 39 0 x0).bind fun v23 =>
  (bI S17 v21 v22 (v23 + (20 : Int32)) 46).bind fun S24 =>
  (gI S24 39 62 x0).bind fun v25 =>
  (pI S24 39 61 x0 v25).bind fun S26 =>
  (pI S26 39 62 x0 (-1 : Int32)).bind fun S27 =>
  (gI S27 39 61 x0).bind fun v28 =>
  (kr_rv S27 39 x0).bind fun u29 =>
  (f_M_write S27 x0 (5 : Int32) v28).bind fun S30 =>
  f_M_pass_B118 k45 S30 x0 x1 x3 x4
def f_M_pass_L45 : Nat → AS → Option Nat → Int32 → Int32 → Int32 → Option (Int32 × AS)
  | 0, S, x0, x1, x3, x4 => none
  | n + 1, S, x0, x1, x3, x4 => f_M_pass_C45 (f_M_pass_L45 n) S x0 x1 x3 x4
def f_M_pass_B32 (S : AS) (x0 : Option Nat) (x1 : Int32) (y0 : Option Nat) (y1 : Int32) (y2 : Int32) : Option (Int32 × AS) :=
  (kr_rv S 39 y0).bind fun u31 =>
  kr_b2 (f_M_mayBoth S y0 y1 y2) fun v33 S32 =>
  if v33 = 0 then
  some ((0 : Int32), S32)
  else
  f_M_pass_L45 kr_FU S32 x0 x1 (0 : Int32) (0 : Int32)
def f_M_pass_B31 (S : AS) (x0 : Option Nat) (x1 : Int32) (y0 : Option Nat) (y1 : Int32) : Option (Int32 × AS) :=
  f_M_pass_B32 S x0 x1 y0 y1 (0 : Int32)
def f_M_pass (S : AS) (a0 : Option Nat) (a1 : Int32) : Option (Int32 × AS) :=
  kr_b2 (f_M_isIn S a1 (1 : Int32) (600 : Int32)) fun v35 S34 =>
  if v35 = 0 then
  f_M_pass_B31 S34 a0 a1 a0 v35
  else
  (gI S34 39 0 a0).bind fun v36 =>
  if (30000 : Int32) < (v36 + a1) then
  f_M_pass_B31 S34 a0 a1 a0 v35
  else
  f_M_pass_B32 S34 a0 a1 a0 v35 (1 : Int32)
def f_M_thrown (S : AS) (a0 : Option Nat) : Option (Int32 × AS) :=
  (gI S 39 82 a0).bind fun v1 =>
  some (v1, S)
def f_M_isSix (S : AS) (a0 : Int32) : Option (Int32 × AS) :=
  kr_b2 (f_M_isIn S a0 (0 : Int32) (5 : Int32)) fun v2 S1 =>
  (kr_z v2).bind fun u3 =>
  some (v2, S1)
def f_M_isFactor (S : AS) (a0 : Int32) : Option (Int32 × AS) :=
  kr_b2 (f_M_isIn S a0 (0 : Int32) (2 : Int32)) fun v2 S1 =>
  (kr_z v2).bind fun u3 =>
  some (v2, S1)
def f_M_ready (S : AS) (a0 : Option Nat) (a1 : Int32) (a2 : Int32) : Option AS :=
  (gR S 39 1 a0).bind fun v1 =>
  (bI S v1 (((3 : Int32) * a1) + a2) (1 : Int32) 46).bind fun S2 =>
  (gR S2 39 2 a0).bind fun v3 =>
  (bI S2 v3 (((3 : Int32) * a1) + a2) (0 : Int32) 46).bind fun S4 =>
  if a2 = (2 : Int32) then
  (gR S4 39 3 a0).bind fun v5 =>
  (bI S4 v5 a1 (0 : Int32) 46).bind fun S6 =>
  some S6
  else
  some S4
def f_M_enroll (S : AS) (a0 : Option Nat) (a1 : Int32) (a2 : Int32) : Option (Int32 × AS) :=
  kr_b2 (f_M_isSix S a1) fun v2 S1 =>
  kr_b2 (f_M_isFactor S1 a2) fun v4 S3 =>
  (kr_rv S3 39 a0).bind fun u5 =>
  kr_b2 (f_M_mayBoth S3 a0 v2 v4) fun v7 S6 =>
  if v7 = 0 then
  some ((0 : Int32), S6)
  else
  (gR S6 39 1 a0).bind fun v8 =>
  (aI S6 46 v8 (((3 : Int32) * a1) + a2)).bind fun v9 =>
  (kr_rv S6 39 a0).bind fun u10 =>
  (f_M_ready S6 a0 a1 a2).bind fun S11 =>
  some (v9, S11)
def f_M_factor (S : AS) (a0 : Option Nat) (a1 : Int32) (a2 : Int32) : Option (Int32 × AS) :=
  kr_b2 (f_M_isSix S a1) fun v2 S1 =>
  kr_b2 (f_M_isFactor S1 a2) fun v4 S3 =>
  (kr_rv S3 39 a0).bind fun u5 =>
  kr_b2 (f_M_mayBoth S3 a0 v2 v4) fun v7 S6 =>
  if v7 = 0 then
  some ((0 : Int32), S6)
  else
  (gR S6 39 1 a0).bind fun v8 =>
  (aI S6 46 v8 (((3 : Int32) * a1) + a2)).bind fun v9 =>
  some (v9, S6)
def f_M_isNext (S : AS) (a0 : Int32) : Option (Int32 × AS) :=
  kr_b2 (f_M_isIn S a0 (-1 : Int32) (11 : Int32)) fun v2 S1 =>
  (kr_z v2).bind fun u3 =>
  some (v2, S1)
def f_M_step_B136 (S : AS) (x0 : Option Nat) (x1 : Int32) (x2 : Int32) (x3 : Int32) (x4 : Int32) (x5 : Int32) (y0 : Option Nat) (y1 : Int32) (y2 : Int32) : Option (Int32 × AS) :=
  (kr_rv S 39 y0).bind fun u1 =>
  kr_b2 (f_M_mayBoth S y0 y1 y2) fun v3 S2 =>
  if v3 = 0 then
  some ((0 : Int32), S2)
  else
  (gR S2 39 10 x0).bind fun v4 =>
  (aI S2 46 v4 (8 : Int32)).bind fun v5 =>
  (some ((96 : Int32) + v5)).bind fun i6 =>
  (gR S2 39 11 x0).bind fun v7 =>
  (bI S2 v7 i6 x1 46).bind fun S8 =>
  (gR S8 39 12 x0).bind fun v9 =>
  (bI S8 v9 i6 x2 46).bind fun S10 =>
  (gR S10 39 13 x0).bind fun v11 =>
  (bI S10 v11 i6 x3 46).bind fun S12 =>
  (gR S12 39 14 x0).bind fun v13 =>
  (bI S12 v13 i6 x4 46).bind fun S14 =>
  (gR S14 39 15 x0).bind fun v15 =>
  (bI S14 v15 i6 x5 46).bind fun S16 =>
  (gR S16 39 10 x0).bind fun v17 =>
  (aI S16 46 v17 (8 : Int32)).bind fun v18 =>
  (bI S16 v17 (8 : Int32) (v18 + (1 : Int32)) 46).bind fun S19 =>
  (gR S19 39 10 x0).bind fun v20 =>
  (aI S19 46 v20 (8 : Int32)).bind fun v21 =>
  some (v21 - (1 : Int32), S19)
def f_M_step_B114 (S : AS) (x0 : Option Nat) (x1 : Int32) (x2 : Int32) (x3 : Int32) (x4 : Int32) (x5 : Int32) (y0 : Int32) : Option (Int32 × AS) :=
  (gR S 39 10 x0).bind fun v22 =>
  (aI S 46 v22 (8 : Int32)).bind fun v23 =>
  if (12 : Int32) ≤ v23 then
  f_M_step_B136 S x0 x1 x2 x3 x4 x5 x0 y0 (0 : Int32)
  else
  f_M_step_B136 S x0 x1 x2 x3 x4 x5 x0 y0 (1 : Int32)
def f_M_step_B109 (S : AS) (x0 : Option Nat) (x1 : Int32) (x2 : Int32) (x3 : Int32) (x4 : Int32) (x5 : Int32) : Option (Int32 × AS) :=
  f_M_step_B114 S x0 x1 x2 x3 x4 x5 (1 : Int32)
def f_M_step_B113 (S : AS) (x0 : Option Nat) (x1 : Int32) (x2 : Int32) (x3 : Int32) (x4 : Int32) (x5 : Int32) : Option (Int32 × AS) :=
  f_M_step_B114 S x0 x1 x2 x3 x4 x5 (0 : Int32)
def f_M_step_B81 (S : AS) (x0 : Option Nat) (x1 : Int32) (x2 : Int32) (x3 : Int32) (x4 : Int32) (x5 : Int32) (y0 : Int32) : Option (Int32 × AS) :=
  if y0 = 0 then
  f_M_step_B113 S x0 x1 x2 x3 x4 x5
  else
  if (5 : Int32) ≤ x1 then
  f_M_step_B109 S x0 x1 x2 x3 x4 x5
  else
  kr_b2 (f_M_isNext S x4) fun v25 S24 =>
  if v25 = 0 then
  f_M_step_B113 S24 x0 x1 x2 x3 x4 x5
  else
  kr_b2 (f_M_isNext S24 x5) fun v27 S26 =>
  if v27 = 0 then
  f_M_step_B113 S26 x0 x1 x2 x3 x4 x5
  else
  f_M_step_B109 S26 x0 x1 x2 x3 x4 x5
def f_M_step_B76 (S : AS) (x0 : Option Nat) (x1 : Int32) (x2 : Int32) (x3 : Int32) (x4 : Int32) (x5 : Int32) : Option (Int32 × AS) :=
  f_M_step_B81 S x0 x1 x2 x3 x4 x5 (1 : Int32)
def f_M_step_B80 (S : AS) (x0 : Option Nat) (x1 : Int32) (x2 : Int32) (x3 : Int32) (x4 : Int32) (x5 : Int32) : Option (Int32 × AS) :=
  f_M_step_B81 S x0 x1 x2 x3 x4 x5 (0 : Int32)
def f_M_step_B34 (S : AS) (x0 : Option Nat) (x1 : Int32) (x2 : Int32) (x3 : Int32) (x4 : Int32) (x5 : Int32) (y0 : Int32) : Option (Int32 × AS) :=
  kr_b2 (f_M_isIn S x1 (0 : Int32) (6 : Int32)) fun v29 S28 =>
  if v29 = 0 then
  f_M_step_B80 S28 x0 x1 x2 x3 x4 x5
  else
  kr_b2 (f_M_isIn S28 x2 (0 : Int32) y0) fun v31 S30 =>
  if v31 = 0 then
  f_M_step_B80 S30 x0 x1 x2 x3 x4 x5
  else
  if x1 = 0 then
  kr_b2 (f_M_isIn S30 x3 (1 : Int32) (3 : Int32)) fun v33 S32 =>
  if v33 = 0 then
  f_M_step_B80 S32 x0 x1 x2 x3 x4 x5
  else
  f_M_step_B76 S32 x0 x1 x2 x3 x4 x5
  else
  if x3 = 0 then
  f_M_step_B76 S30 x0 x1 x2 x3 x4 x5
  else
  f_M_step_B80 S30 x0 x1 x2 x3 x4 x5
def f_M_step_B9 (S : AS) (x0 : Option Nat) (x1 : Int32) (x2 : Int32) (x3 : Int32) (x4 : Int32) (x5 : Int32) : Option (Int32 × AS) :=
  f_M_step_B34 S x0 x1 x2 x3 x4 x5 (2 : Int32)
def f_M_step (S : AS) (a0 : Option Nat) (a1 : Int32) (a2 : Int32) (a3 : Int32) (a4 : Int32) (a5 : Int32) : Option (Int32 × AS) :=
  if a1 = 0 then
  f_M_step_B9 S a0 a1 a2 a3 a4 a5
  else
  if a1 = (3 : Int32) then
  f_M_step_B9 S a0 a1 a2 a3 a4 a5
  else
  if a1 = (2 : Int32) then
  f_M_step_B34 S a0 a1 a2 a3 a4 a5 (20 : Int32)
  else
  if a1 = (4 : Int32) then
  f_M_step_B34 S a0 a1 a2 a3 a4 a5 (6 : Int32)
  else
  f_M_step_B34 S a0 a1 a2 a3 a4 a5 (0 : Int32)
def f_M_clear (S : AS) (a0 : Option Nat) : Option (Int32 × AS) :=
  (pI S 39 82 a0 (0 : Int32)).bind fun S1 =>
  (gR S1 39 10 a0).bind fun v2 =>
  (aI S1 46 v2 (8 : Int32)).bind fun v3 =>
  (gR S1 39 10 a0).bind fun v4 =>
  (bI S1 v4 (8 : Int32) (0 : Int32) 46).bind fun S5 =>
  some (v3, S5)
def f_M_isTest (S : AS) (a0 : Int32) : Option (Int32 × AS) :=
  if a0 < (1 : Int32) then
  some ((0 : Int32), S)
  else
  if (4 : Int32) < a0 then
  some ((0 : Int32), S)
  else
  some ((1 : Int32), S)
def f_M_circles_B137 (k9 : AS → Option Nat → Int32 → Int32 → Int32 → Int32 → Option (Int32 × AS)) (k19 : AS → Option Nat → Int32 → Int32 → Int32 → Int32 → Int32 → Option (Int32 × AS)) (S : AS) (x0 : Option Nat) (x1 : Int32) (x2 : Int32) (x3 : Int32) (x4 : Int32) (x5 : Int32) : Option (Int32 × AS) :=
  (some (x5 + (1 : Int32))).bind fun i1 =>
  k19 S x0 x1 x2 x3 x4 i1
def f_M_circles_B135 (k9 : AS → Option Nat → Int32 → Int32 → Int32 → Int32 → Option (Int32 × AS)) (k19 : AS → Option Nat → Int32 → Int32 → Int32 → Int32 → Int32 → Option (Int32 × AS)) (S : AS) (x0 : Option Nat) (x1 : Int32) (x2 : Int32) (x4 : Int32) (x5 : Int32) (y0 : Int32) (y1 : Int32) : Option (Int32 × AS) :=
  (some (y0 ||| y1)).bind fun i2 =>
  f_M_circles_B137 k9 k19 S x0 x1 x2 i2 x4 x5
def f_M_circles_B119 (k9 : AS → Option Nat → Int32 → Int32 → Int32 → Int32 → Option (Int32 × AS)) (k19 : AS → Option Nat → Int32 → Int32 → Int32 → Int32 → Int32 → Option (Int32 × AS)) (S : AS) (x0 : Option Nat) (x1 : Int32) (x2 : Int32) (x4 : Int32) (x5 : Int32) (x7 : Int32) (y0 : Int32) (y1 : Int32) : Option (Int32 × AS) :=
  (some (y0 ||| y1)).bind fun i3 =>
  if x7 < 0 then
  f_M_circles_B135 k9 k19 S x0 x1 x2 x4 x5 i3 (0 : Int32)
  else
  f_M_circles_B135 k9 k19 S x0 x1 x2 x4 x5 i3 ((1 : Int32) <<< (x7 &&& 31))
def f_M_circles_B103 (k9 : AS → Option Nat → Int32 → Int32 → Int32 → Int32 → Option (Int32 × AS)) (k19 : AS → Option Nat → Int32 → Int32 → Int32 → Int32 → Int32 → Option (Int32 × AS)) (S : AS) (x0 : Option Nat) (x1 : Int32) (x2 : Int32) (x3 : Int32) (x5 : Int32) (x6 : Int32) (x7 : Int32) (y0 : Int32) : Option (Int32 × AS) :=
  if x6 < 0 then
  f_M_circles_B119 k9 k19 S x0 x1 x2 y0 x5 x7 x3 (0 : Int32)
  else
  f_M_circles_B119 k9 k19 S x0 x1 x2 y0 x5 x7 x3 ((1 : Int32) <<< (x6 &&& 31))
def f_M_circles_B98 (k9 : AS → Option Nat → Int32 → Int32 → Int32 → Int32 → Option (Int32 × AS)) (k19 : AS → Option Nat → Int32 → Int32 → Int32 → Int32 → Int32 → Option (Int32 × AS)) (S : AS) (x0 : Option Nat) (x1 : Int32) (x2 : Int32) (x3 : Int32) (x5 : Int32) (x6 : Int32) (x7 : Int32) : Option (Int32 × AS) :=
  f_M_circles_B103 k9 k19 S x0 x1 x2 x3 x5 x6 x7 (1 : Int32)
def f_M_circles_C19 (k9 : AS → Option Nat → Int32 → Int32 → Int32 → Int32 → Option (Int32 × AS)) (k19 : AS → Option Nat → Int32 → Int32 → Int32 → Int32 → Int32 → Option (Int32 × AS)) (S : AS) (x0 : Option Nat) (x1 : Int32) (x2 : Int32) (x3 : Int32) (x4 : Int32) (x5 : Int32) : Option (Int32 × AS) :=
  (gR S 39 10 x0).bind fun v4 =>
  (aI S 46 v4 (8 : Int32)).bind fun v5 =>
  if v5 ≤ x5 then
  k9 S x0 x1 x2 x3 x4
  else
  if ((x2 >>> (x5 &&& 31)) &&& (1 : Int32)) = (1 : Int32) then
  (gR S 39 11 x0).bind fun v6 =>
  (aI S 46 v6 ((96 : Int32) + x5)).bind fun v7 =>
  kr_b2 (f_M_isTest S v7) fun v9 S8 =>
  if v9 = 0 then
  f_M_circles_B137 k9 k19 S8 x0 x1 x2 x3 x4 x5
  else
  (gR S8 39 14 x0).bind fun v10 =>
  (aI S8 46 v10 ((96 : Int32) + x5)).bind fun v11 =>
  (gR S8 39 15 x0).bind fun v12 =>
  (aI S8 46 v12 ((96 : Int32) + x5)).bind fun v13 =>
  if x4 = 0 then
  if v11 = x1 then
  f_M_circles_B98 k9 k19 S8 x0 x1 x2 x3 x5 v11 v13
  else
  if v13 = x1 then
  f_M_circles_B98 k9 k19 S8 x0 x1 x2 x3 x5 v11 v13
  else
  f_M_circles_B103 k9 k19 S8 x0 x1 x2 x3 x5 v11 v13 (0 : Int32)
  else
  f_M_circles_B98 k9 k19 S8 x0 x1 x2 x3 x5 v11 v13
  else
  f_M_circles_B137 k9 k19 S x0 x1 x2 x3 x4 x5
def f_M_circles_L19 (k9 : AS → Option Nat → Int32 → Int32 → Int32 → Int32 → Option (Int32 × AS)) : Nat → AS → Option Nat → Int32 → Int32 → Int32 → Int32 → Int32 → Option (Int32 × AS)
  | 0, S, x0, x1, x2, x3, x4, x5 => none
  | n + 1, S, x0, x1, x2, x3, x4, x5 => f_M_circles_C19 k9 (f_M_circles_L19 k9 n) S x0 x1 x2 x3 x4 x5
def f_M_circles_C9 (k9 : AS → Option Nat → Int32 → Int32 → Int32 → Int32 → Option (Int32 × AS)) (S : AS) (x0 : Option Nat) (x1 : Int32) (x2 : Int32) (x3 : Int32) (x4 : Int32) : Option (Int32 × AS) :=
  if x3 = x2 then
  (kr_z x4).bind fun u14 =>
  some (x4, S)
  else
  f_M_circles_L19 k9 kr_FU S x0 x1 x3 x3 x4 (0 : Int32)
def f_M_circles_L9 : Nat → AS → Option Nat → Int32 → Int32 → Int32 → Int32 → Option (Int32 × AS)
  | 0, S, x0, x1, x2, x3, x4 => none
  | n + 1, S, x0, x1, x2, x3, x4 => f_M_circles_C9 (f_M_circles_L9 n) S x0 x1 x2 x3 x4
def f_M_circles (S : AS) (a0 : Option Nat) (a1 : Int32) : Option (Int32 × AS) :=
  (some ((1 : Int32) <<< (a1 &&& 31))).bind fun i15 =>
  f_M_circles_L9 kr_FU S a0 a1 (0 : Int32) i15 (0 : Int32)
def f_M_may (S : AS) (a0 : Option Nat) (a1 : Int32) : Option (Int32 × AS) :=
  if a1 = 0 then
  (pI S 39 82 a0 (1 : Int32)).bind fun S1 =>
  (kr_z a1).bind fun u2 =>
  some (a1, S1)
  else
  (pI S 39 82 a0 (0 : Int32)).bind fun S3 =>
  (kr_z a1).bind fun u4 =>
  some (a1, S3)
def f_M_publish_B94 (k27 : AS → Option Nat → Int32 → Int32 → Option (Int32 × AS)) (S : AS) (x0 : Option Nat) (x2 : Int32) (y0 : Int32) : Option (Int32 × AS) :=
  (some (x2 + (1 : Int32))).bind fun i1 =>
  k27 S x0 y0 i1
def f_M_publish_B89 (k27 : AS → Option Nat → Int32 → Int32 → Option (Int32 × AS)) (S : AS) (x0 : Option Nat) (x2 : Int32) : Option (Int32 × AS) :=
  f_M_publish_B94 k27 S x0 x2 (1 : Int32)
def f_M_publish_B93 (k27 : AS → Option Nat → Int32 → Int32 → Option (Int32 × AS)) (S : AS) (x0 : Option Nat) (x2 : Int32) : Option (Int32 × AS) :=
  f_M_publish_B94 k27 S x0 x2 (0 : Int32)
def f_M_publish_B146 (k103 : AS → Option Nat → Int32 → Int32 → Option (Int32 × AS)) (S : AS) (x0 : Option Nat) (x2 : Int32) (y0 : Int32) : Option (Int32 × AS) :=
  (some (x2 + (1 : Int32))).bind fun i2 =>
  k103 S x0 y0 i2
def f_M_publish_B141 (k103 : AS → Option Nat → Int32 → Int32 → Option (Int32 × AS)) (S : AS) (x0 : Option Nat) (x2 : Int32) : Option (Int32 × AS) :=
  f_M_publish_B146 k103 S x0 x2 (1 : Int32)
def f_M_publish_C165 (k165 : AS → Option Nat → Int32 → Option (Int32 × AS)) (S : AS) (x0 : Option Nat) (x2 : Int32) : Option (Int32 × AS) :=
  (gR S 39 10 x0).bind fun v3 =>
  (aI S 46 v3 (8 : Int32)).bind fun v4 =>
  if v4 ≤ x2 then
  (gR S 39 10 x0).bind fun v5 =>
  (gI S 39 9 x0).bind fun v6 =>
  (gR S 39 10 x0).bind fun v7 =>
  (aI S 46 v7 (8 : Int32)).bind fun v8 =>
  (bI S v5 v6 v8 46).bind fun S9 =>
  (gR S9 39 10 x0).bind fun v10 =>
  (bI S9 v10 (8 : Int32) (0 : Int32) 46).bind fun S11 =>
  (gI S11 39 9 x0).bind fun v12 =>
  (pI S11 39 9 x0 (v12 + (1 : Int32))).bind fun S13 =>
  (gI S13 39 9 x0).bind fun v14 =>
  some (v14 - (1 : Int32), S13)
  else
  (gI S 39 9 x0).bind fun v15 =>
  (some (((12 : Int32) * v15) + x2)).bind fun i16 =>
  (gR S 39 11 x0).bind fun v17 =>
  (gR S 39 11 x0).bind fun v18 =>
  (aI S 46 v18 ((96 : Int32) + x2)).bind fun v19 =>
  (bI S v17 i16 v19 46).bind fun S20 =>
  (gR S20 39 12 x0).bind fun v21 =>
  (gR S20 39 12 x0).bind fun v22 =>
  (aI S20 46 v22 ((96 : Int32) + x2)).bind fun v23 =>
  (bI S20 v21 i16 v23 46).bind fun S24 =>
  (gR S24 39 13 x0).bind fun v25 =>
  (gR S24 39 13 x0).bind fun v26 =>
  (aI S24 46 v26 ((96 : Int32) + x2)).bind fun v27 =>
  (bI S24 v25 i16 v27 46).bind fun S28 =>
  (gR S28 39 14 x0).bind fun v29 =>
  (gR S28 39 14 x0).bind fun v30 =>
  (aI S28 46 v30 ((96 : Int32) + x2)).bind fun v31 =>
  (bI S28 v29 i16 v31 46).bind fun S32 =>
  (gR S32 39 15 x0).bind fun v33 =>
  (gR S32 39 15 x0).bind fun v34 =>
  (aI S32 46 v34 ((96 : Int32) + x2)).bind fun v35 =>
  (bI S32 v33 i16 v35 46).bind fun S36 =>
  (some (x2 + (1 : Int32))).bind fun i37 =>
  k165 S36 x0 i37
def f_M_publish_L165 : Nat → AS → Option Nat → Int32 → Option (Int32 × AS)
  | 0, S, x0, x2 => none
  | n + 1, S, x0, x2 => f_M_publish_C165 (f_M_publish_L165 n) S x0 x2
def f_M_publish_B153 (S : AS) (x0 : Option Nat) (x1 : Int32) : Option (Int32 × AS) :=
  (kr_rv S 39 x0).bind fun u38 =>
  kr_b2 (f_M_may S x0 x1) fun v40 S39 =>
  if v40 = 0 then
  some ((0 : Int32), S39)
  else
  f_M_publish_L165 kr_FU S39 x0 (0 : Int32)
def f_M_publish_C103 (k103 : AS → Option Nat → Int32 → Int32 → Option (Int32 × AS)) (S : AS) (x0 : Option Nat) (x1 : Int32) (x2 : Int32) : Option (Int32 × AS) :=
  (gR S 39 10 x0).bind fun v41 =>
  (aI S 46 v41 (8 : Int32)).bind fun v42 =>
  if v42 ≤ x2 then
  f_M_publish_B153 S x0 x1
  else
  if x1 = 0 then
  f_M_publish_B153 S x0 x1
  else
  (gR S 39 11 x0).bind fun v43 =>
  (aI S 46 v43 ((96 : Int32) + x2)).bind fun v44 =>
  kr_b2 (f_M_isTest S v44) fun v46 S45 =>
  if v46 = 0 then
  f_M_publish_B141 k103 S45 x0 x2
  else
  (kr_rv S45 39 x0).bind fun u47 =>
  kr_b2 (f_M_circles S45 x0 x2) fun v49 S48 =>
  if v49 = 0 then
  f_M_publish_B141 k103 S48 x0 x2
  else
  f_M_publish_B146 k103 S48 x0 x2 (0 : Int32)
def f_M_publish_L103 : Nat → AS → Option Nat → Int32 → Int32 → Option (Int32 × AS)
  | 0, S, x0, x1, x2 => none
  | n + 1, S, x0, x1, x2 => f_M_publish_C103 (f_M_publish_L103 n) S x0 x1 x2
def f_M_publish_C27 (k27 : AS → Option Nat → Int32 → Int32 → Option (Int32 × AS)) (S : AS) (x0 : Option Nat) (x1 : Int32) (x2 : Int32) : Option (Int32 × AS) :=
  (gR S 39 10 x0).bind fun v50 =>
  (aI S 46 v50 (8 : Int32)).bind fun v51 =>
  if v51 ≤ x2 then
  f_M_publish_L103 kr_FU S x0 x1 (0 : Int32)
  else
  (some ((96 : Int32) + x2)).bind fun i52 =>
  if x1 = 0 then
  f_M_publish_B93 k27 S x0 x2
  else
  (gR S 39 11 x0).bind fun v53 =>
  (aI S 46 v53 i52).bind fun v54 =>
  if (5 : Int32) ≤ v54 then
  f_M_publish_B89 k27 S x0 x2
  else
  (gR S 39 14 x0).bind fun v55 =>
  (aI S 46 v55 i52).bind fun v56 =>
  (gR S 39 10 x0).bind fun v57 =>
  (aI S 46 v57 (8 : Int32)).bind fun v58 =>
  if v58 ≤ v56 then
  f_M_publish_B93 k27 S x0 x2
  else
  (gR S 39 15 x0).bind fun v59 =>
  (aI S 46 v59 i52).bind fun v60 =>
  (gR S 39 10 x0).bind fun v61 =>
  (aI S 46 v61 (8 : Int32)).bind fun v62 =>
  if v62 ≤ v60 then
  f_M_publish_B93 k27 S x0 x2
  else
  f_M_publish_B89 k27 S x0 x2
def f_M_publish_L27 : Nat → AS → Option Nat → Int32 → Int32 → Option (Int32 × AS)
  | 0, S, x0, x1, x2 => none
  | n + 1, S, x0, x1, x2 => f_M_publish_C27 (f_M_publish_L27 n) S x0 x1 x2
def f_M_publish_B24 (S : AS) (x0 : Option Nat) (y0 : Int32) : Option (Int32 × AS) :=
  f_M_publish_L27 kr_FU S x0 y0 (0 : Int32)
def f_M_publish_B23 (S : AS) (x0 : Option Nat) : Option (Int32 × AS) :=
  f_M_publish_B24 S x0 (0 : Int32)
def f_M_publish (S : AS) (a0 : Option Nat) : Option (Int32 × AS) :=
  (gR S 39 10 a0).bind fun v63 =>
  (aI S 46 v63 (8 : Int32)).bind fun v64 =>
  if v64 ≤ 0 then
  f_M_publish_B23 S a0
  else
  (gI S 39 9 a0).bind fun v65 =>
  if (8 : Int32) ≤ v65 then
  f_M_publish_B23 S a0
  else
  f_M_publish_B24 S a0 (1 : Int32)
def f_M_levelOf (S : AS) (a0 : Int32) : Option (Int32 × AS) :=
  some (((a0 &&& (1 : Int32)) + (a0 &&& (2 : Int32))) + ((3 : Int32) * ((a0 >>> ((2 : Int32) &&& 31)) &&& (1 : Int32))), S)
def f_M_meet (S : AS) (a0 : Option Nat) (a1 : Int32) (a2 : Int32) : Option AS :=
  if a1 < 0 then
  some S
  else
  (gR S 39 16 a0).bind fun v1 =>
  (bZ S v1 (((8 : Int32) * a1) + a2) (1 : Int32) 47).bind fun S2 =>
  some S2
def f_M_weakest_B212 (k50 : AS → Option Nat → Int32 → Int32 → Option (Int32 × AS)) (k58 : AS → Option Nat → Int32 → Int32 → Int32 → Option (Int32 × AS)) (S : AS) (x0 : Option Nat) (x1 : Int32) (x2 : Int32) (x3 : Int32) : Option (Int32 × AS) :=
  (some (x3 + (1 : Int32))).bind fun i1 =>
  k58 S x0 x1 x2 i1
def f_M_weakest_B199 (k50 : AS → Option Nat → Int32 → Int32 → Option (Int32 × AS)) (k58 : AS → Option Nat → Int32 → Int32 → Int32 → Option (Int32 × AS)) (S : AS) (x0 : Option Nat) (x1 : Int32) (x2 : Int32) (x3 : Int32) (x4 : Int32) (x5 : Int32) : Option (Int32 × AS) :=
  (gR S 39 15 x0).bind fun v2 =>
  (aI S 46 v2 x4).bind fun v3 =>
  (kr_rv S 39 x0).bind fun u4 =>
  (f_M_meet S x0 v3 x5).bind fun S5 =>
  f_M_weakest_B212 k50 k58 S5 x0 x1 x2 x3
def f_M_weakest_B189 (k50 : AS → Option Nat → Int32 → Int32 → Option (Int32 × AS)) (k58 : AS → Option Nat → Int32 → Int32 → Int32 → Option (Int32 × AS)) (S : AS) (x0 : Option Nat) (x1 : Int32) (x2 : Int32) (x3 : Int32) (x4 : Int32) (x5 : Int32) (x6 : Int32) (x7 : Int32) : Option (Int32 × AS) :=
  if x6 = 0 then
  f_M_weakest_B199 k50 k58 S x0 x1 x2 x3 x4 x5
  else
  if x7 = 0 then
  f_M_weakest_B199 k50 k58 S x0 x1 x2 x3 x4 x5
  else
  f_M_weakest_B212 k50 k58 S x0 x1 x2 x3
def f_M_weakest_B186 (k50 : AS → Option Nat → Int32 → Int32 → Option (Int32 × AS)) (k58 : AS → Option Nat → Int32 → Int32 → Int32 → Option (Int32 × AS)) (S : AS) (x0 : Option Nat) (x1 : Int32) (x2 : Int32) (x3 : Int32) (x4 : Int32) (x5 : Int32) (x6 : Int32) (x7 : Int32) (y0 : Option Nat) (y1 : Int32) (y2 : Int32) : Option (Int32 × AS) :=
  (kr_rv S 39 y0).bind fun u6 =>
  (f_M_meet S y0 y1 y2).bind fun S7 =>
  f_M_weakest_B189 k50 k58 S7 x0 x1 x2 x3 x4 x5 x6 x7
def f_M_weakest_B151 (k50 : AS → Option Nat → Int32 → Int32 → Option (Int32 × AS)) (k58 : AS → Option Nat → Int32 → Int32 → Int32 → Option (Int32 × AS)) (S : AS) (x0 : Option Nat) (x1 : Int32) (x2 : Int32) (x3 : Int32) (x4 : Int32) (x5 : Int32) (x6 : Int32) (x7 : Int32) : Option (Int32 × AS) :=
  (gR S 39 14 x0).bind fun v8 =>
  (aI S 46 v8 x4).bind fun v9 =>
  (gR S 39 11 x0).bind fun v10 =>
  (aI S 46 v10 x4).bind fun v11 =>
  if v11 = 0 then
  (gR S 39 12 x0).bind fun v12 =>
  (aI S 46 v12 x4).bind fun v13 =>
  f_M_weakest_B186 k50 k58 S x0 x1 x2 x3 x4 x5 x6 x7 x0 v9 (x5 ||| ((1 : Int32) <<< (v13 &&& 31)))
  else
  f_M_weakest_B186 k50 k58 S x0 x1 x2 x3 x4 x5 x6 x7 x0 v9 x5
def f_M_weakest_B139 (k50 : AS → Option Nat → Int32 → Int32 → Option (Int32 × AS)) (k58 : AS → Option Nat → Int32 → Int32 → Int32 → Option (Int32 × AS)) (S : AS) (x0 : Option Nat) (x1 : Int32) (x2 : Int32) (x3 : Int32) (x4 : Int32) (x5 : Int32) (x6 : Int32) (y0 : Int32) : Option (Int32 × AS) :=
  if x6 = 0 then
  f_M_weakest_B151 k50 k58 S x0 x1 x2 x3 x4 x5 x6 y0
  else
  if y0 = 0 then
  f_M_weakest_B189 k50 k58 S x0 x1 x2 x3 x4 x5 x6 y0
  else
  f_M_weakest_B151 k50 k58 S x0 x1 x2 x3 x4 x5 x6 y0
def f_M_weakest_B117 (k50 : AS → Option Nat → Int32 → Int32 → Option (Int32 × AS)) (k58 : AS → Option Nat → Int32 → Int32 → Int32 → Option (Int32 × AS)) (S : AS) (x0 : Option Nat) (x1 : Int32) (x2 : Int32) (x3 : Int32) (x4 : Int32) (x5 : Int32) (y0 : Int32) : Option (Int32 × AS) :=
  kr_b2 (f_M_levelOf S x5) fun v15 S14 =>
  (gR S14 39 12 x0).bind fun v16 =>
  (aI S14 46 v16 x4).bind fun v17 =>
  if v15 < v17 then
  f_M_weakest_B139 k50 k58 S14 x0 x1 x2 x3 x4 x5 y0 (0 : Int32)
  else
  f_M_weakest_B139 k50 k58 S14 x0 x1 x2 x3 x4 x5 y0 (1 : Int32)
def f_M_weakest_C58 (k50 : AS → Option Nat → Int32 → Int32 → Option (Int32 × AS)) (k58 : AS → Option Nat → Int32 → Int32 → Int32 → Option (Int32 × AS)) (S : AS) (x0 : Option Nat) (x1 : Int32) (x2 : Int32) (x3 : Int32) : Option (Int32 × AS) :=
  if (96 : Int32) ≤ x3 then
  (some (x2 + (1 : Int32))).bind fun i18 =>
  k50 S x0 x1 i18
  else
  (some (((12 : Int32) * x1) + (x3 / (8 : Int32)))).bind fun i19 =>
  (some (x3 - x3 / (8 : Int32) * (8 : Int32))).bind fun i20 =>
  (gR S 39 16 x0).bind fun v21 =>
  (aI S 47 v21 x3).bind fun v22 =>
  if v22 = 0 then
  f_M_weakest_B212 k50 k58 S x0 x1 x2 x3
  else
  (gR S 39 11 x0).bind fun v23 =>
  (aI S 46 v23 i19).bind fun v24 =>
  if (5 : Int32) ≤ v24 then
  f_M_weakest_B212 k50 k58 S x0 x1 x2 x3
  else
  (gR S 39 11 x0).bind fun v25 =>
  (aI S 46 v25 i19).bind fun v26 =>
  if v26 = (4 : Int32) then
  f_M_weakest_B117 k50 k58 S x0 x1 x2 x3 i19 i20 (1 : Int32)
  else
  f_M_weakest_B117 k50 k58 S x0 x1 x2 x3 i19 i20 (0 : Int32)
def f_M_weakest_L58 (k50 : AS → Option Nat → Int32 → Int32 → Option (Int32 × AS)) : Nat → AS → Option Nat → Int32 → Int32 → Int32 → Option (Int32 × AS)
  | 0, S, x0, x1, x2, x3 => none
  | n + 1, S, x0, x1, x2, x3 => f_M_weakest_C58 k50 (f_M_weakest_L58 k50 n) S x0 x1 x2 x3
def f_M_weakest_B300 (k228 : AS → Option Nat → Int32 → Int32 → Int32 → Option (Int32 × AS)) (S : AS) (x0 : Option Nat) (x1 : Int32) (x3 : Int32) (y0 : Int32) : Option (Int32 × AS) :=
  (some (x3 + (1 : Int32))).bind fun i27 =>
  k228 S x0 x1 y0 i27
def f_M_weakest_B289 (k228 : AS → Option Nat → Int32 → Int32 → Int32 → Option (Int32 × AS)) (S : AS) (x0 : Option Nat) (x1 : Int32) (x3 : Int32) : Option (Int32 × AS) :=
  kr_b2 (f_M_levelOf S (x3 - x3 / (8 : Int32) * (8 : Int32))) fun v29 S28 =>
  f_M_weakest_B300 k228 S28 x0 x1 x3 v29
def f_M_weakest_B299 (k228 : AS → Option Nat → Int32 → Int32 → Int32 → Option (Int32 × AS)) (S : AS) (x0 : Option Nat) (x1 : Int32) (x2 : Int32) (x3 : Int32) : Option (Int32 × AS) :=
  f_M_weakest_B300 k228 S x0 x1 x3 x2
def f_M_weakest_B266 (k228 : AS → Option Nat → Int32 → Int32 → Int32 → Option (Int32 × AS)) (S : AS) (x0 : Option Nat) (x1 : Int32) (x2 : Int32) (x3 : Int32) (y0 : Int32) : Option (Int32 × AS) :=
  if y0 = 0 then
  f_M_weakest_B299 k228 S x0 x1 x2 x3
  else
  if x2 = (-1 : Int32) then
  f_M_weakest_B289 k228 S x0 x1 x3
  else
  kr_b2 (f_M_levelOf S (x3 - x3 / (8 : Int32) * (8 : Int32))) fun v31 S30 =>
  if x2 ≤ v31 then
  f_M_weakest_B299 k228 S30 x0 x1 x2 x3
  else
  f_M_weakest_B289 k228 S30 x0 x1 x3
def f_M_weakest_B265 (k228 : AS → Option Nat → Int32 → Int32 → Int32 → Option (Int32 × AS)) (S : AS) (x0 : Option Nat) (x1 : Int32) (x2 : Int32) (x3 : Int32) : Option (Int32 × AS) :=
  f_M_weakest_B266 k228 S x0 x1 x2 x3 (0 : Int32)
def f_M_weakest_C228 (k228 : AS → Option Nat → Int32 → Int32 → Int32 → Option (Int32 × AS)) (S : AS) (x0 : Option Nat) (x1 : Int32) (x2 : Int32) (x3 : Int32) : Option (Int32 × AS) :=
  if (96 : Int32) ≤ x3 then
  some (x2, S)
  else
  (gR S 39 16 x0).bind fun v32 =>
  (aI S 47 v32 x3).bind fun v33 =>
  if v33 = 0 then
  f_M_weakest_B265 k228 S x0 x1 x2 x3
  else
  (gR S 39 11 x0).bind fun v34 =>
  (aI S 46 v34 (((12 : Int32) * x1) + (x3 / (8 : Int32)))).bind fun v35 =>
  if v35 = (5 : Int32) then
  f_M_weakest_B266 k228 S x0 x1 x2 x3 (1 : Int32)
  else
  f_M_weakest_B265 k228 S x0 x1 x2 x3
def f_M_weakest_L228 : Nat → AS → Option Nat → Int32 → Int32 → Int32 → Option (Int32 × AS)
  | 0, S, x0, x1, x2, x3 => none
  | n + 1, S, x0, x1, x2, x3 => f_M_weakest_C228 (f_M_weakest_L228 n) S x0 x1 x2 x3
def f_M_weakest_C50 (k50 : AS → Option Nat → Int32 → Int32 → Option (Int32 × AS)) (S : AS) (x0 : Option Nat) (x1 : Int32) (x2 : Int32) : Option (Int32 × AS) :=
  if (96 : Int32) ≤ x2 then
  f_M_weakest_L228 kr_FU S x0 x1 (-1 : Int32) (0 : Int32)
  else
  f_M_weakest_L58 k50 kr_FU S x0 x1 x2 (0 : Int32)
def f_M_weakest_L50 : Nat → AS → Option Nat → Int32 → Int32 → Option (Int32 × AS)
  | 0, S, x0, x1, x2 => none
  | n + 1, S, x0, x1, x2 => f_M_weakest_C50 (f_M_weakest_L50 n) S x0 x1 x2
def f_M_weakest_C22 (k22 : AS → Option Nat → Int32 → Int32 → Option (Int32 × AS)) (S : AS) (x0 : Option Nat) (x1 : Int32) (x2 : Int32) : Option (Int32 × AS) :=
  if (96 : Int32) ≤ x2 then
  (gR S 39 16 x0).bind fun v36 =>
  (bZ S v36 (0 : Int32) (1 : Int32) 47).bind fun S37 =>
  f_M_weakest_L50 kr_FU S37 x0 x1 (0 : Int32)
  else
  (gR S 39 16 x0).bind fun v38 =>
  (bZ S v38 x2 (0 : Int32) 47).bind fun S39 =>
  (some (x2 + (1 : Int32))).bind fun i40 =>
  k22 S39 x0 x1 i40
def f_M_weakest_L22 : Nat → AS → Option Nat → Int32 → Int32 → Option (Int32 × AS)
  | 0, S, x0, x1, x2 => none
  | n + 1, S, x0, x1, x2 => f_M_weakest_C22 (f_M_weakest_L22 n) S x0 x1 x2
def f_M_weakest (S : AS) (a0 : Option Nat) (a1 : Int32) : Option (Int32 × AS) :=
  (gI S 39 9 a0).bind fun v41 =>
  kr_b2 (f_M_isIn S a1 (0 : Int32) (v41 - (1 : Int32))) fun v43 S42 =>
  (kr_rv S42 39 a0).bind fun u44 =>
  kr_b2 (f_M_may S42 a0 v43) fun v46 S45 =>
  if v46 = 0 then
  some ((0 : Int32), S45)
  else
  f_M_weakest_L22 kr_FU S45 a0 a1 (0 : Int32)
def f_M_points_B59 (S : AS) (x0 : Option Nat) (x1 : Int32) (x2 : Int32) (x3 : Int32) (y0 : Int32) : Option (Int32 × AS) :=
  if x3 = 0 then
  (gR S 39 17 x0).bind fun v1 =>
  (bI S v1 x1 x2 46).bind fun S2 =>
  some (y0, S2)
  else
  (gR S 39 18 x0).bind fun v3 =>
  (bI S v3 x1 x2 46).bind fun S4 =>
  some (y0, S4)
def f_M_points_B32 (S : AS) (x0 : Option Nat) (x1 : Int32) (x2 : Int32) (x3 : Int32) (y0 : Option Nat) (y1 : Int32) : Option (Int32 × AS) :=
  (kr_rv S 39 y0).bind fun u5 =>
  kr_b2 (f_M_may S y0 y1) fun v7 S6 =>
  if v7 = 0 then
  some ((0 : Int32), S6)
  else
  if x3 = 0 then
  (gR S6 39 17 x0).bind fun v8 =>
  (aI S6 46 v8 x1).bind fun v9 =>
  f_M_points_B59 S6 x0 x1 x2 x3 v9
  else
  (gR S6 39 18 x0).bind fun v10 =>
  (aI S6 46 v10 x1).bind fun v11 =>
  f_M_points_B59 S6 x0 x1 x2 x3 v11
def f_M_points_B31 (S : AS) (x0 : Option Nat) (x1 : Int32) (x2 : Int32) (x3 : Int32) (y0 : Option Nat) : Option (Int32 × AS) :=
  f_M_points_B32 S x0 x1 x2 x3 y0 (0 : Int32)
def f_M_points_B20 (S : AS) (x0 : Option Nat) (x1 : Int32) (x2 : Int32) (x3 : Int32) (y0 : Option Nat) (y1 : Int32) (y2 : Int32) : Option (Int32 × AS) :=
  kr_b2 (f_M_isIn S y1 y2 (5 : Int32)) fun v13 S12 =>
  if v13 = 0 then
  f_M_points_B31 S12 x0 x1 x2 x3 y0
  else
  f_M_points_B32 S12 x0 x1 x2 x3 y0 (1 : Int32)
def f_M_points (S : AS) (a0 : Option Nat) (a1 : Int32) (a2 : Int32) (a3 : Int32) : Option (Int32 × AS) :=
  kr_b2 (f_M_isIn S a1 (0 : Int32) (2 : Int32)) fun v15 S14 =>
  if v15 = 0 then
  f_M_points_B31 S14 a0 a1 a2 a3 a0
  else
  if a3 = 0 then
  f_M_points_B20 S14 a0 a1 a2 a3 a0 a2 (0 : Int32)
  else
  f_M_points_B20 S14 a0 a1 a2 a3 a0 a2 (-1 : Int32)
def f_M_wrongs_B35 (k4 : AS → Option Nat → Int32 → Int32 → Int32 → Option (Int32 × AS)) (S : AS) (x0 : Option Nat) (x1 : Int32) (x3 : Int32) (y0 : Int32) (y1 : Int32) : Option (Int32 × AS) :=
  (some (y0 + y1)).bind fun i1 =>
  (some (x3 + (1 : Int32))).bind fun i2 =>
  k4 S x0 x1 i1 i2
def f_M_wrongs_C4 (k4 : AS → Option Nat → Int32 → Int32 → Int32 → Option (Int32 × AS)) (S : AS) (x0 : Option Nat) (x1 : Int32) (x2 : Int32) (x3 : Int32) : Option (Int32 × AS) :=
  if (3 : Int32) ≤ x3 then
  some (x2, S)
  else
  (gI S 39 0 x0).bind fun v3 =>
  (gR S 39 4 x0).bind fun v4 =>
  (aI S 46 v4 (((3 : Int32) * x1) + x3)).bind fun v5 =>
  if (60 : Int32) ≤ (v3 - v5) then
  f_M_wrongs_B35 k4 S x0 x1 x3 x2 (0 : Int32)
  else
  f_M_wrongs_B35 k4 S x0 x1 x3 x2 (1 : Int32)
def f_M_wrongs_L4 : Nat → AS → Option Nat → Int32 → Int32 → Int32 → Option (Int32 × AS)
  | 0, S, x0, x1, x2, x3 => none
  | n + 1, S, x0, x1, x2, x3 => f_M_wrongs_C4 (f_M_wrongs_L4 n) S x0 x1 x2 x3
def f_M_wrongs (S : AS) (a0 : Option Nat) (a1 : Int32) : Option (Int32 × AS) :=
  f_M_wrongs_L4 kr_FU S a0 a1 (0 : Int32) (0 : Int32)
def f_M_pointsOf_B23 (S : AS) (x0 : Option Nat) (x1 : Int32) : Option (Int32 × AS) :=
  (gR S 39 17 x0).bind fun v1 =>
  (aI S 46 v1 x1).bind fun v2 =>
  some (v2, S)
def f_M_pointsOf (S : AS) (a0 : Option Nat) (a1 : Int32) (a2 : Int32) : Option (Int32 × AS) :=
  if a2 = 0 then
  f_M_pointsOf_B23 S a0 a1
  else
  (gR S 39 18 a0).bind fun v3 =>
  (aI S 46 v3 a1).bind fun v4 =>
  if v4 = (-1 : Int32) then
  f_M_pointsOf_B23 S a0 a1
  else
  (gR S 39 18 a0).bind fun v5 =>
  (aI S 46 v5 a1).bind fun v6 =>
  some (v6, S)
def f_M_riskOf_B52 (S : AS) (x0 : Option Nat) (x1 : Int32) (x2 : Int32) (x3 : Int32) (y0 : Int32) (y1 : Int32) : Option (Int32 × AS) :=
  (some (y0 + y1)).bind fun i1 =>
  (gR S 39 6 x0).bind fun v2 =>
  (gR S 39 22 x0).bind fun v3 =>
  (aI S 46 v3 x1).bind fun v4 =>
  (aI S 47 v2 (((6 : Int32) * x3) + v4)).bind fun v5 =>
  if v5 = 0 then
  (kr_rv S 39 x0).bind fun u6 =>
  kr_b2 (f_M_pointsOf S x0 (1 : Int32) x2) fun v8 S7 =>
  some (i1 + v8, S7)
  else
  some (i1 + (0 : Int32), S)
def f_M_riskOf (S : AS) (a0 : Option Nat) (a1 : Int32) (a2 : Int32) : Option (Int32 × AS) :=
  (gR S 39 20 a0).bind fun v9 =>
  (aI S 46 v9 a1).bind fun v10 =>
  (kr_rv S 39 a0).bind fun u11 =>
  kr_b2 (f_M_wrongs S a0 v10) fun v13 S12 =>
  (kr_rv S12 39 a0).bind fun u14 =>
  kr_b2 (f_M_pointsOf S12 a0 (2 : Int32) a2) fun v16 S15 =>
  (some (v13 * v16)).bind fun i17 =>
  (gR S15 39 5 a0).bind fun v18 =>
  (gR S15 39 21 a0).bind fun v19 =>
  (aI S15 46 v19 a1).bind fun v20 =>
  (aI S15 47 v18 (((6 : Int32) * v10) + v20)).bind fun v21 =>
  if v21 = 0 then
  (kr_rv S15 39 a0).bind fun u22 =>
  kr_b2 (f_M_pointsOf S15 a0 (0 : Int32) a2) fun v24 S23 =>
  f_M_riskOf_B52 S23 a0 a1 a2 v10 i17 v24
  else
  f_M_riskOf_B52 S15 a0 a1 a2 v10 i17 (0 : Int32)
def f_M_shownIn_B31 (k4 : AS → Option Nat → Int32 → Int32 → Int32 → Option (Int32 × AS)) (S : AS) (x0 : Option Nat) (x1 : Int32) (x3 : Int32) (y0 : Int32) (y1 : Int32) : Option (Int32 × AS) :=
  (some (y0 ||| y1)).bind fun i1 =>
  (some (x3 + (1 : Int32))).bind fun i2 =>
  k4 S x0 x1 i1 i2
def f_M_shownIn_C4 (k4 : AS → Option Nat → Int32 → Int32 → Int32 → Option (Int32 × AS)) (S : AS) (x0 : Option Nat) (x1 : Int32) (x2 : Int32) (x3 : Int32) : Option (Int32 × AS) :=
  if (3 : Int32) ≤ x3 then
  some (x2, S)
  else
  (gR S 39 29 x0).bind fun v3 =>
  (aI S 46 v3 (((3 : Int32) * x1) + x3)).bind fun v4 =>
  if v4 = (-1 : Int32) then
  f_M_shownIn_B31 k4 S x0 x1 x3 x2 (0 : Int32)
  else
  f_M_shownIn_B31 k4 S x0 x1 x3 x2 ((1 : Int32) <<< (x3 &&& 31))
def f_M_shownIn_L4 : Nat → AS → Option Nat → Int32 → Int32 → Int32 → Option (Int32 × AS)
  | 0, S, x0, x1, x2, x3 => none
  | n + 1, S, x0, x1, x2, x3 => f_M_shownIn_C4 (f_M_shownIn_L4 n) S x0 x1 x2 x3
def f_M_shownIn (S : AS) (a0 : Option Nat) (a1 : Int32) : Option (Int32 × AS) :=
  f_M_shownIn_L4 kr_FU S a0 a1 (0 : Int32) (0 : Int32)
def f_M_holds (S : AS) (a0 : Option Nat) (a1 : Int32) (a2 : Int32) : Option (Int32 × AS) :=
  (gR S 39 20 a0).bind fun v1 =>
  (aI S 46 v1 a1).bind fun v2 =>
  (gR S 39 11 a0).bind fun v3 =>
  (aI S 46 v3 a2).bind fun v4 =>
  if v4 = (1 : Int32) then
  (gR S 39 5 a0).bind fun v5 =>
  (gR S 39 21 a0).bind fun v6 =>
  (aI S 46 v6 a1).bind fun v7 =>
  (aI S 47 v5 (((6 : Int32) * v2) + v7)).bind fun v8 =>
  (kr_z v8).bind fun u9 =>
  some (v8, S)
  else
  (gR S 39 11 a0).bind fun v10 =>
  (aI S 46 v10 a2).bind fun v11 =>
  if v11 = (2 : Int32) then
  (kr_rv S 39 a0).bind fun u12 =>
  kr_b2 (f_M_riskOf S a0 a1 (0 : Int32)) fun v14 S13 =>
  (gR S13 39 12 a0).bind fun v15 =>
  (aI S13 46 v15 a2).bind fun v16 =>
  if v14 < v16 then
  some ((0 : Int32), S13)
  else
  some ((1 : Int32), S13)
  else
  (gR S 39 11 a0).bind fun v17 =>
  (aI S 46 v17 a2).bind fun v18 =>
  if v18 = (3 : Int32) then
  (gR S 39 1 a0).bind fun v19 =>
  (gR S 39 12 a0).bind fun v20 =>
  (aI S 46 v20 a2).bind fun v21 =>
  (aI S 46 v19 (((3 : Int32) * v2) + v21)).bind fun v22 =>
  if v22 = (1 : Int32) then
  some ((1 : Int32), S)
  else
  some ((0 : Int32), S)
  else
  (kr_rv S 39 a0).bind fun u23 =>
  kr_b2 (f_M_shownIn S a0 a1) fun v25 S24 =>
  kr_b2 (f_M_levelOf S24 v25) fun v27 S26 =>
  (gR S26 39 12 a0).bind fun v28 =>
  (aI S26 46 v28 a2).bind fun v29 =>
  if v27 < v29 then
  some ((0 : Int32), S26)
  else
  some ((1 : Int32), S26)
def f_M_newSession_C49 (k49 : AS → Option Nat → Int32 → Int32 → Option (Int32 × AS)) (S : AS) (x0 : Option Nat) (x3 : Int32) (x4 : Int32) : Option (Int32 × AS) :=
  if (3 : Int32) ≤ x4 then
  (gI S 39 30 x0).bind fun v1 =>
  (pI S 39 30 x0 (v1 + (1 : Int32))).bind fun S2 =>
  (kr_rv S2 39 x0).bind fun u3 =>
  (f_M_write S2 x0 (0 : Int32) x3).bind fun S4 =>
  some (x3, S4)
  else
  (gR S 39 36 x0).bind fun v5 =>
  (bI S v5 (((3 : Int32) * x3) + x4) (-1 : Int32) 46).bind fun S6 =>
  (some (x4 + (1 : Int32))).bind fun i7 =>
  k49 S6 x0 x3 i7
def f_M_newSession_L49 : Nat → AS → Option Nat → Int32 → Int32 → Option (Int32 × AS)
  | 0, S, x0, x3, x4 => none
  | n + 1, S, x0, x3, x4 => f_M_newSession_C49 (f_M_newSession_L49 n) S x0 x3 x4
def f_M_newSession (S : AS) (a0 : Option Nat) (a1 : Int32) (a2 : Int32) : Option (Int32 × AS) :=
  (gI S 39 30 a0).bind fun v8 =>
  (gR S 39 31 a0).bind fun v9 =>
  (bI S v9 v8 a1 46).bind fun S10 =>
  (gR S10 39 32 a0).bind fun v11 =>
  (gI S10 39 0 a0).bind fun v12 =>
  (bI S10 v11 v8 v12 46).bind fun S13 =>
  (gR S13 39 33 a0).bind fun v14 =>
  (gI S13 39 0 a0).bind fun v15 =>
  (bI S13 v14 v8 v15 46).bind fun S16 =>
  (gR S16 39 34 a0).bind fun v17 =>
  (bI S16 v17 v8 a2 46).bind fun S18 =>
  (gR S18 39 35 a0).bind fun v19 =>
  (bZ S18 v19 v8 (1 : Int32) 47).bind fun S20 =>
  f_M_newSession_L49 kr_FU S20 a0 v8 (0 : Int32)
def f_M_grant_C45 (k45 : AS → Option Nat → Int32 → Int32 → Int32 → Option AS) (S : AS) (x0 : Option Nat) (x1 : Int32) (x2 : Int32) (x3 : Int32) : Option AS :=
  if (3 : Int32) ≤ x3 then
  (gR S 39 5 x0).bind fun v1 =>
  (gR S 39 21 x0).bind fun v2 =>
  (aI S 46 v2 x1).bind fun v3 =>
  (bZ S v1 (((6 : Int32) * x2) + v3) (1 : Int32) 47).bind fun S4 =>
  (gR S4 39 6 x0).bind fun v5 =>
  (gR S4 39 22 x0).bind fun v6 =>
  (aI S4 46 v6 x1).bind fun v7 =>
  (bZ S4 v5 (((6 : Int32) * x2) + v7) (1 : Int32) 47).bind fun S8 =>
  some S8
  else
  (gR S 39 36 x0).bind fun v9 =>
  (gR S 39 28 x0).bind fun v10 =>
  (aI S 46 v10 x1).bind fun v11 =>
  (gR S 39 29 x0).bind fun v12 =>
  (aI S 46 v12 (((3 : Int32) * x1) + x3)).bind fun v13 =>
  (bI S v9 (((3 : Int32) * v11) + x3) v13 46).bind fun S14 =>
  (some (x3 + (1 : Int32))).bind fun i15 =>
  k45 S14 x0 x1 x2 i15
def f_M_grant_L45 : Nat → AS → Option Nat → Int32 → Int32 → Int32 → Option AS
  | 0, S, x0, x1, x2, x3 => none
  | n + 1, S, x0, x1, x2, x3 => f_M_grant_C45 (f_M_grant_L45 n) S x0 x1 x2 x3
def f_M_grant (S : AS) (a0 : Option Nat) (a1 : Int32) : Option AS :=
  (gI S 39 30 a0).bind fun v16 =>
  if v16 = (60 : Int32) then
  (gR S 39 25 a0).bind fun v17 =>
  (bI S v17 a1 (2 : Int32) 46).bind fun S18 =>
  some S18
  else
  (gR S 39 20 a0).bind fun v19 =>
  (aI S 46 v19 a1).bind fun v20 =>
  (gR S 39 25 a0).bind fun v21 =>
  (bI S v21 a1 (1 : Int32) 46).bind fun S22 =>
  (gR S22 39 28 a0).bind fun v23 =>
  (kr_rv S22 39 a0).bind fun u24 =>
  kr_b2 (f_M_newSession S22 a0 v20 (-1 : Int32)) fun v26 S25 =>
  (bI S25 v23 a1 v26 46).bind fun S27 =>
  f_M_grant_L45 kr_FU S27 a0 a1 v20 (0 : Int32)
def f_M_go_B60 (k15 : AS → Option Nat → Int32 → Int32 → Int32 → Option AS) (S : AS) (x0 : Option Nat) (x1 : Int32) (y0 : Int32) : Option AS :=
  (gR S 39 23 x0).bind fun v1 =>
  (aI S 46 v1 x1).bind fun v2 =>
  (some (((12 : Int32) * v2) + y0)).bind fun i3 =>
  k15 S x0 x1 y0 i3
def f_M_go_B108 (S : AS) (x0 : Option Nat) (x1 : Int32) : Option AS :=
  (gR S 39 25 x0).bind fun v4 =>
  (bI S v4 x1 (2 : Int32) 46).bind fun S5 =>
  some S5
def f_M_go_B77 (S : AS) (x0 : Option Nat) (x1 : Int32) (x3 : Int32) (x4 : Int32) : Option AS :=
  (gR S 39 24 x0).bind fun v6 =>
  (bI S v6 x1 x3 46).bind fun S7 =>
  (gR S7 39 26 x0).bind fun v8 =>
  (bI S7 v8 x1 (0 : Int32) 46).bind fun S9 =>
  if x3 = (-1 : Int32) then
  f_M_go_B108 S9 x0 x1
  else
  (gR S9 39 11 x0).bind fun v10 =>
  (aI S9 46 v10 x4).bind fun v11 =>
  if v11 = (6 : Int32) then
  f_M_go_B108 S9 x0 x1
  else
  (gR S9 39 11 x0).bind fun v12 =>
  (aI S9 46 v12 x4).bind fun v13 =>
  if v13 = (5 : Int32) then
  (kr_rv S9 39 x0).bind fun u14 =>
  (f_M_grant S9 x0 x1).bind fun S15 =>
  some S15
  else
  some S9
def f_M_go_C15 (k15 : AS → Option Nat → Int32 → Int32 → Int32 → Option AS) (S : AS) (x0 : Option Nat) (x1 : Int32) (x3 : Int32) (x4 : Int32) : Option AS :=
  if x3 = (-1 : Int32) then
  f_M_go_B77 S x0 x1 x3 x4
  else
  (gR S 39 11 x0).bind fun v16 =>
  (aI S 46 v16 x4).bind fun v17 =>
  kr_b2 (f_M_isTest S v17) fun v19 S18 =>
  if v19 = 0 then
  f_M_go_B77 S18 x0 x1 x3 x4
  else
  (kr_rv S18 39 x0).bind fun u20 =>
  kr_b2 (f_M_holds S18 x0 x1 x4) fun v22 S21 =>
  if v22 = 0 then
  (gR S21 39 15 x0).bind fun v23 =>
  (aI S21 46 v23 x4).bind fun v24 =>
  f_M_go_B60 k15 S21 x0 x1 v24
  else
  (gR S21 39 14 x0).bind fun v25 =>
  (aI S21 46 v25 x4).bind fun v26 =>
  f_M_go_B60 k15 S21 x0 x1 v26
def f_M_go_L15 : Nat → AS → Option Nat → Int32 → Int32 → Int32 → Option AS
  | 0, S, x0, x1, x3, x4 => none
  | n + 1, S, x0, x1, x3, x4 => f_M_go_C15 (f_M_go_L15 n) S x0 x1 x3 x4
def f_M_go (S : AS) (a0 : Option Nat) (a1 : Int32) (a2 : Int32) : Option AS :=
  (gR S 39 23 a0).bind fun v27 =>
  (aI S 46 v27 a1).bind fun v28 =>
  (some (((12 : Int32) * v28) + a2)).bind fun i29 =>
  f_M_go_L15 kr_FU S a0 a1 a2 i29
def f_M_begin_C136 (k136 : AS → Option Nat → Int32 → Int32 → Option (Int32 × AS)) (S : AS) (x0 : Option Nat) (x5 : Int32) (x6 : Int32) : Option (Int32 × AS) :=
  if (3 : Int32) ≤ x6 then
  (gI S 39 19 x0).bind fun v1 =>
  (pI S 39 19 x0 (v1 + (1 : Int32))).bind fun S2 =>
  (kr_rv S2 39 x0).bind fun u3 =>
  (f_M_go S2 x0 x5 (0 : Int32)).bind fun S4 =>
  some (x5, S4)
  else
  (gR S 39 29 x0).bind fun v5 =>
  (bI S v5 (((3 : Int32) * x5) + x6) (-1 : Int32) 46).bind fun S6 =>
  (some (x6 + (1 : Int32))).bind fun i7 =>
  k136 S6 x0 x5 i7
def f_M_begin_L136 : Nat → AS → Option Nat → Int32 → Int32 → Option (Int32 × AS)
  | 0, S, x0, x5, x6 => none
  | n + 1, S, x0, x5, x6 => f_M_begin_C136 (f_M_begin_L136 n) S x0 x5 x6
def f_M_begin_B66 (S : AS) (x0 : Option Nat) (x1 : Int32) (x2 : Int32) (x3 : Int32) (y0 : Option Nat) (y1 : Int32) (y2 : Int32) : Option (Int32 × AS) :=
  (kr_rv S 39 y0).bind fun u8 =>
  kr_b2 (f_M_mayBoth S y0 y1 y2) fun v10 S9 =>
  if v10 = 0 then
  some ((0 : Int32), S9)
  else
  (gI S9 39 19 x0).bind fun v11 =>
  (gR S9 39 20 x0).bind fun v12 =>
  (bI S9 v12 v11 x1 46).bind fun S13 =>
  (gR S13 39 21 x0).bind fun v14 =>
  (bI S13 v14 v11 x2 46).bind fun S15 =>
  (gR S15 39 22 x0).bind fun v16 =>
  (bI S15 v16 v11 x3 46).bind fun S17 =>
  (gR S17 39 23 x0).bind fun v18 =>
  (gI S17 39 9 x0).bind fun v19 =>
  (bI S17 v18 v11 (v19 - (1 : Int32)) 46).bind fun S20 =>
  (gR S20 39 25 x0).bind fun v21 =>
  (bI S20 v21 v11 (0 : Int32) 46).bind fun S22 =>
  (gR S22 39 28 x0).bind fun v23 =>
  (bI S22 v23 v11 (-1 : Int32) 46).bind fun S24 =>
  f_M_begin_L136 kr_FU S24 x0 v11 (0 : Int32)
def f_M_begin_B65 (S : AS) (x0 : Option Nat) (x1 : Int32) (x2 : Int32) (x3 : Int32) (y0 : Option Nat) (y1 : Int32) : Option (Int32 × AS) :=
  f_M_begin_B66 S x0 x1 x2 x3 y0 y1 (0 : Int32)
def f_M_begin_B26 (S : AS) (x0 : Option Nat) (x1 : Int32) (x2 : Int32) (x3 : Int32) (y0 : Int32) : Option (Int32 × AS) :=
  if y0 = 0 then
  f_M_begin_B65 S x0 x1 x2 x3 x0 y0
  else
  (gI S 39 9 x0).bind fun v25 =>
  if v25 ≤ 0 then
  f_M_begin_B65 S x0 x1 x2 x3 x0 y0
  else
  (gR S 39 7 x0).bind fun v26 =>
  (aI S 47 v26 x1).bind fun v27 =>
  if v27 = 0 then
  (gI S 39 19 x0).bind fun v28 =>
  if (60 : Int32) ≤ v28 then
  f_M_begin_B65 S x0 x1 x2 x3 x0 y0
  else
  f_M_begin_B66 S x0 x1 x2 x3 x0 y0 (1 : Int32)
  else
  f_M_begin_B65 S x0 x1 x2 x3 x0 y0
def f_M_begin_B25 (S : AS) (x0 : Option Nat) (x1 : Int32) (x2 : Int32) (x3 : Int32) : Option (Int32 × AS) :=
  f_M_begin_B26 S x0 x1 x2 x3 (0 : Int32)
def f_M_begin (S : AS) (a0 : Option Nat) (a1 : Int32) (a2 : Int32) (a3 : Int32) : Option (Int32 × AS) :=
  kr_b2 (f_M_isSix S a1) fun v30 S29 =>
  if v30 = 0 then
  f_M_begin_B25 S29 a0 a1 a2 a3
  else
  kr_b2 (f_M_isSix S29 a2) fun v32 S31 =>
  if v32 = 0 then
  f_M_begin_B25 S31 a0 a1 a2 a3
  else
  kr_b2 (f_M_isSix S31 a3) fun v34 S33 =>
  if v34 = 0 then
  f_M_begin_B25 S33 a0 a1 a2 a3
  else
  f_M_begin_B26 S33 a0 a1 a2 a3 (1 : Int32)
def f_M_isAttempt (S : AS) (a0 : Option Nat) (a1 : Int32) : Option (Int32 × AS) :=
  (gI S 39 19 a0).bind fun v1 =>
  kr_b2 (f_M_isIn S a1 (0 : Int32) (v1 - (1 : Int32))) fun v3 S2 =>
  (kr_z v3).bind fun u4 =>
  some (v3, S2)
def f_M_mayAll_B26 (S : AS) (x0 : Option Nat) (y0 : Option Nat) (y1 : Int32) : Option (Int32 × AS) :=
  (pI S 39 82 y0 y1).bind fun S1 =>
  (gI S1 39 82 x0).bind fun v2 =>
  if v2 = 0 then
  some ((1 : Int32), S1)
  else
  some ((0 : Int32), S1)
def f_M_mayAll (S : AS) (a0 : Option Nat) (a1 : Int32) (a2 : Int32) (a3 : Int32) : Option (Int32 × AS) :=
  if a1 = 0 then
  f_M_mayAll_B26 S a0 a0 (1 : Int32)
  else
  if a2 = 0 then
  f_M_mayAll_B26 S a0 a0 (2 : Int32)
  else
  if a3 = 0 then
  f_M_mayAll_B26 S a0 a0 (3 : Int32)
  else
  f_M_mayAll_B26 S a0 a0 (0 : Int32)
def f_M_suspend (S : AS) (a0 : Option Nat) (a1 : Int32) (a2 : Int32) : Option AS :=
  (gR S 39 1 a0).bind fun v1 =>
  (bI S v1 (((3 : Int32) * a1) + a2) (2 : Int32) 46).bind fun S2 =>
  (kr_rv S2 39 a0).bind fun u3 =>
  (f_M_write S2 a0 (4 : Int32) (((3 : Int32) * a1) + a2)).bind fun S4 =>
  some S4
def f_M_answers_B118 (S : AS) (x0 : Option Nat) (x1 : Int32) : Option (Int32 × AS) :=
  (gR S 39 4 x0).bind fun v1 =>
  (gR S 39 4 x0).bind fun v2 =>
  (aI S 46 v2 (((3 : Int32) * x1) + (1 : Int32))).bind fun v3 =>
  (bI S v1 ((3 : Int32) * x1) v3 46).bind fun S4 =>
  (gR S4 39 4 x0).bind fun v5 =>
  (gR S4 39 4 x0).bind fun v6 =>
  (aI S4 46 v6 (((3 : Int32) * x1) + (2 : Int32))).bind fun v7 =>
  (bI S4 v5 (((3 : Int32) * x1) + (1 : Int32)) v7 46).bind fun S8 =>
  (gR S8 39 4 x0).bind fun v9 =>
  (gI S8 39 0 x0).bind fun v10 =>
  (bI S8 v9 (((3 : Int32) * x1) + (2 : Int32)) v10 46).bind fun S11 =>
  some ((0 : Int32), S11)
def f_M_answers_B112 (S : AS) (x0 : Option Nat) (x1 : Int32) (x2 : Int32) : Option (Int32 × AS) :=
  (kr_rv S 39 x0).bind fun u12 =>
  (f_M_suspend S x0 x1 x2).bind fun S13 =>
  f_M_answers_B118 S13 x0 x1
def f_M_answers_B94 (S : AS) (x0 : Option Nat) (x1 : Int32) (x2 : Int32) (x5 : Int32) (x6 : Int32) (y0 : Option Nat) (y1 : Int32) (y2 : Int32) (y3 : Int32) : Option (Int32 × AS) :=
  (bI S y0 y1 (y2 + y3) 46).bind fun S14 =>
  if x6 = 0 then
  (gR S14 39 2 x0).bind fun v15 =>
  (aI S14 46 v15 x5).bind fun v16 =>
  if v16 = (5 : Int32) then
  f_M_answers_B112 S14 x0 x1 x2
  else
  f_M_answers_B118 S14 x0 x1
  else
  f_M_answers_B112 S14 x0 x1 x2
def f_M_answers_B77 (S : AS) (x0 : Option Nat) (x1 : Int32) (x2 : Int32) (x3 : Int32) (x5 : Int32) (x6 : Int32) : Option (Int32 × AS) :=
  (gR S 39 2 x0).bind fun v17 =>
  (aI S 46 v17 x5).bind fun v18 =>
  if x3 = 0 then
  f_M_answers_B94 S x0 x1 x2 x5 x6 v17 x5 v18 (1 : Int32)
  else
  f_M_answers_B94 S x0 x1 x2 x5 x6 v17 x5 v18 (0 : Int32)
def f_M_answers_B43 (S : AS) (x0 : Option Nat) (x1 : Int32) (x2 : Int32) (x3 : Int32) (x4 : Int32) (x5 : Int32) (y0 : Int32) : Option (Int32 × AS) :=
  if x3 = 0 then
  f_M_answers_B77 S x0 x1 x2 x3 x5 y0
  else
  if y0 = 0 then
  (gR S 39 2 x0).bind fun v19 =>
  (bI S v19 x5 (0 : Int32) 46).bind fun S20 =>
  if x2 = (2 : Int32) then
  (gR S20 39 3 x0).bind fun v21 =>
  (bI S20 v21 x1 x4 46).bind fun S22 =>
  some ((1 : Int32), S22)
  else
  some ((1 : Int32), S20)
  else
  f_M_answers_B77 S x0 x1 x2 x3 x5 y0
def f_M_answers_B42 (S : AS) (x0 : Option Nat) (x1 : Int32) (x2 : Int32) (x3 : Int32) (x4 : Int32) (x5 : Int32) : Option (Int32 × AS) :=
  f_M_answers_B43 S x0 x1 x2 x3 x4 x5 (0 : Int32)
def f_M_answers (S : AS) (a0 : Option Nat) (a1 : Int32) (a2 : Int32) (a3 : Int32) (a4 : Int32) : Option (Int32 × AS) :=
  (some (((3 : Int32) * a1) + a2)).bind fun i23 =>
  (gR S 39 1 a0).bind fun v24 =>
  (aI S 46 v24 i23).bind fun v25 =>
  if v25 = (1 : Int32) then
  if a2 = (2 : Int32) then
  if a3 = 0 then
  f_M_answers_B42 S a0 a1 a2 a3 a4 i23
  else
  (gR S 39 3 a0).bind fun v26 =>
  (aI S 46 v26 a1).bind fun v27 =>
  if v27 < a4 then
  f_M_answers_B42 S a0 a1 a2 a3 a4 i23
  else
  f_M_answers_B43 S a0 a1 a2 a3 a4 i23 (1 : Int32)
  else
  f_M_answers_B42 S a0 a1 a2 a3 a4 i23
  else
  f_M_answers_B118 S a0 a1
def f_M_answer_B195 (S : AS) (x0 : Option Nat) (x1 : Int32) : Option (Int32 × AS) :=
  (gR S 39 25 x0).bind fun v1 =>
  (aI S 46 v1 x1).bind fun v2 =>
  some (v2, S)
def f_M_answer_B168 (S : AS) (x0 : Option Nat) (x1 : Int32) : Option (Int32 × AS) :=
  (gR S 39 25 x0).bind fun v3 =>
  (aI S 46 v3 x1).bind fun v4 =>
  if v4 = 0 then
  (gR S 39 27 x0).bind fun v5 =>
  (aI S 46 v5 x1).bind fun v6 =>
  if v6 = (12 : Int32) then
  (gR S 39 25 x0).bind fun v7 =>
  (bI S v7 x1 (2 : Int32) 46).bind fun S8 =>
  f_M_answer_B195 S8 x0 x1
  else
  f_M_answer_B195 S x0 x1
  else
  f_M_answer_B195 S x0 x1
def f_M_answer_B37 (S : AS) (x0 : Option Nat) (x1 : Int32) (x2 : Int32) (x3 : Int32) (y0 : Option Nat) (y1 : Int32) (y2 : Int32) (y3 : Int32) : Option (Int32 × AS) :=
  (kr_rv S 39 y0).bind fun u9 =>
  kr_b2 (f_M_mayAll S y0 y1 y2 y3) fun v11 S10 =>
  if v11 = 0 then
  some ((0 : Int32), S10)
  else
  (gR S10 39 23 x0).bind fun v12 =>
  (aI S10 46 v12 x1).bind fun v13 =>
  (gR S10 39 24 x0).bind fun v14 =>
  (aI S10 46 v14 x1).bind fun v15 =>
  (some (((12 : Int32) * v13) + v15)).bind fun i16 =>
  (gR S10 39 27 x0).bind fun v17 =>
  (aI S10 46 v17 x1).bind fun v18 =>
  (bI S10 v17 x1 (v18 + (1 : Int32)) 46).bind fun S19 =>
  (gR S19 39 20 x0).bind fun v20 =>
  (aI S19 46 v20 x1).bind fun v21 =>
  (gR S19 39 12 x0).bind fun v22 =>
  (aI S19 46 v22 i16).bind fun v23 =>
  (kr_rv S19 39 x0).bind fun u24 =>
  kr_b2 (f_M_answers S19 x0 v21 v23 x2 x3) fun v26 S25 =>
  if v26 = 0 then
  (gR S25 39 26 x0).bind fun v27 =>
  (aI S25 46 v27 x1).bind fun v28 =>
  (bI S25 v27 x1 (v28 + (1 : Int32)) 46).bind fun S29 =>
  (gR S29 39 26 x0).bind fun v30 =>
  (aI S29 46 v30 x1).bind fun v31 =>
  (gR S29 39 13 x0).bind fun v32 =>
  (aI S29 46 v32 i16).bind fun v33 =>
  if v31 = v33 then
  (gR S29 39 15 x0).bind fun v34 =>
  (aI S29 46 v34 i16).bind fun v35 =>
  (kr_rv S29 39 x0).bind fun u36 =>
  (f_M_go S29 x0 x1 v35).bind fun S37 =>
  f_M_answer_B168 S37 x0 x1
  else
  f_M_answer_B168 S29 x0 x1
  else
  (gR S25 39 29 x0).bind fun v38 =>
  (gR S25 39 12 x0).bind fun v39 =>
  (aI S25 46 v39 i16).bind fun v40 =>
  (gI S25 39 0 x0).bind fun v41 =>
  (bI S25 v38 (((3 : Int32) * x1) + v40) v41 46).bind fun S42 =>
  (gR S42 39 14 x0).bind fun v43 =>
  (aI S42 46 v43 i16).bind fun v44 =>
  (kr_rv S42 39 x0).bind fun u45 =>
  (f_M_go S42 x0 x1 v44).bind fun S46 =>
  f_M_answer_B168 S46 x0 x1
def f_M_answer_B36 (S : AS) (x0 : Option Nat) (x1 : Int32) (x2 : Int32) (x3 : Int32) (y0 : Option Nat) (y1 : Int32) (y2 : Int32) : Option (Int32 × AS) :=
  f_M_answer_B37 S x0 x1 x2 x3 y0 y1 y2 (0 : Int32)
def f_M_answer (S : AS) (a0 : Option Nat) (a1 : Int32) (a2 : Int32) (a3 : Int32) : Option (Int32 × AS) :=
  (kr_rv S 39 a0).bind fun u47 =>
  kr_b2 (f_M_isAttempt S a0 a1) fun v49 S48 =>
  kr_b2 (f_M_isIn S48 a3 (0 : Int32) (9999 : Int32)) fun v51 S50 =>
  if v49 = 0 then
  f_M_answer_B36 S50 a0 a1 a2 a3 a0 v49 v51
  else
  (gR S50 39 25 a0).bind fun v52 =>
  (aI S50 46 v52 a1).bind fun v53 =>
  if v53 = 0 then
  f_M_answer_B37 S50 a0 a1 a2 a3 a0 v49 v51 (1 : Int32)
  else
  f_M_answer_B36 S50 a0 a1 a2 a3 a0 v49 v51
def f_M_state (S : AS) (a0 : Option Nat) (a1 : Int32) : Option (Int32 × AS) :=
  (kr_rv S 39 a0).bind fun u1 =>
  kr_b2 (f_M_isAttempt S a0 a1) fun v3 S2 =>
  (kr_rv S2 39 a0).bind fun u4 =>
  kr_b2 (f_M_may S2 a0 v3) fun v6 S5 =>
  if v6 = 0 then
  some ((0 : Int32), S5)
  else
  (gR S5 39 25 a0).bind fun v7 =>
  (aI S5 46 v7 a1).bind fun v8 =>
  some (v8, S5)
def f_M_asked (S : AS) (a0 : Option Nat) (a1 : Int32) : Option (Int32 × AS) :=
  (kr_rv S 39 a0).bind fun u1 =>
  kr_b2 (f_M_isAttempt S a0 a1) fun v3 S2 =>
  (kr_rv S2 39 a0).bind fun u4 =>
  kr_b2 (f_M_may S2 a0 v3) fun v6 S5 =>
  if v6 = 0 then
  some ((0 : Int32), S5)
  else
  (gR S5 39 25 a0).bind fun v7 =>
  (aI S5 46 v7 a1).bind fun v8 =>
  if v8 = 0 then
  (gR S5 39 12 a0).bind fun v9 =>
  (gR S5 39 23 a0).bind fun v10 =>
  (aI S5 46 v10 a1).bind fun v11 =>
  (gR S5 39 24 a0).bind fun v12 =>
  (aI S5 46 v12 a1).bind fun v13 =>
  (aI S5 46 v9 (((12 : Int32) * v11) + v13)).bind fun v14 =>
  some (v14, S5)
  else
  some ((-1 : Int32), S5)
def f_M_sessionOf (S : AS) (a0 : Option Nat) (a1 : Int32) : Option (Int32 × AS) :=
  (kr_rv S 39 a0).bind fun u1 =>
  kr_b2 (f_M_isAttempt S a0 a1) fun v3 S2 =>
  (kr_rv S2 39 a0).bind fun u4 =>
  kr_b2 (f_M_may S2 a0 v3) fun v6 S5 =>
  if v6 = 0 then
  some ((0 : Int32), S5)
  else
  (gR S5 39 28 a0).bind fun v7 =>
  (aI S5 46 v7 a1).bind fun v8 =>
  some (v8, S5)
def f_M_risk (S : AS) (a0 : Option Nat) (a1 : Int32) : Option (Int32 × AS) :=
  (kr_rv S 39 a0).bind fun u1 =>
  kr_b2 (f_M_isAttempt S a0 a1) fun v3 S2 =>
  (kr_rv S2 39 a0).bind fun u4 =>
  kr_b2 (f_M_may S2 a0 v3) fun v6 S5 =>
  if v6 = 0 then
  some ((0 : Int32), S5)
  else
  (kr_rv S5 39 a0).bind fun u7 =>
  kr_b2 (f_M_riskOf S5 a0 a1 (0 : Int32)) fun v9 S8 =>
  some (v9, S8)
def f_M_trialRisk (S : AS) (a0 : Option Nat) (a1 : Int32) : Option (Int32 × AS) :=
  (kr_rv S 39 a0).bind fun u1 =>
  kr_b2 (f_M_isAttempt S a0 a1) fun v3 S2 =>
  (kr_rv S2 39 a0).bind fun u4 =>
  kr_b2 (f_M_may S2 a0 v3) fun v6 S5 =>
  if v6 = 0 then
  some ((0 : Int32), S5)
  else
  (kr_rv S5 39 a0).bind fun u7 =>
  kr_b2 (f_M_riskOf S5 a0 a1 (1 : Int32)) fun v9 S8 =>
  some (v9, S8)
def f_M_sessions (S : AS) (a0 : Option Nat) : Option (Int32 × AS) :=
  (pI S 39 82 a0 (0 : Int32)).bind fun S1 =>
  (gI S1 39 30 a0).bind fun v2 =>
  some (v2, S1)
def f_M_isSession (S : AS) (a0 : Option Nat) (a1 : Int32) : Option (Int32 × AS) :=
  (gI S 39 30 a0).bind fun v1 =>
  kr_b2 (f_M_isIn S a1 (0 : Int32) (v1 - (1 : Int32))) fun v3 S2 =>
  (kr_z v3).bind fun u4 =>
  some (v3, S2)
def f_M_isLive (S : AS) (a0 : Option Nat) (a1 : Int32) : Option (Int32 × AS) :=
  (kr_rv S 39 a0).bind fun u1 =>
  kr_b2 (f_M_isSession S a0 a1) fun v3 S2 =>
  (kr_rv S2 39 a0).bind fun u4 =>
  kr_b2 (f_M_may S2 a0 v3) fun v6 S5 =>
  if v6 = 0 then
  some ((0 : Int32), S5)
  else
  (gR S5 39 35 a0).bind fun v7 =>
  (aI S5 47 v7 a1).bind fun v8 =>
  if v8 = 0 then
  some ((0 : Int32), S5)
  else
  some ((1 : Int32), S5)
def f_M_isLiveByAudit_B64 (k18 : AS → Option Nat → Int32 → Int32 → Int32 → Option (Int32 × AS)) (S : AS) (x0 : Option Nat) (x1 : Int32) (x3 : Int32) (y0 : Int32) : Option (Int32 × AS) :=
  (some (x3 + (1 : Int32))).bind fun i1 =>
  k18 S x0 x1 y0 i1
def f_M_isLiveByAudit_B63 (k18 : AS → Option Nat → Int32 → Int32 → Int32 → Option (Int32 × AS)) (S : AS) (x0 : Option Nat) (x1 : Int32) (x2 : Int32) (x3 : Int32) : Option (Int32 × AS) :=
  f_M_isLiveByAudit_B64 k18 S x0 x1 x3 x2
def f_M_isLiveByAudit_C18 (k18 : AS → Option Nat → Int32 → Int32 → Int32 → Option (Int32 × AS)) (S : AS) (x0 : Option Nat) (x1 : Int32) (x2 : Int32) (x3 : Int32) : Option (Int32 × AS) :=
  (gI S 39 77 x0).bind fun v2 =>
  if v2 ≤ x3 then
  (kr_z x2).bind fun u3 =>
  some (x2, S)
  else
  (gR S 39 79 x0).bind fun v4 =>
  (aI S 46 v4 x3).bind fun v5 =>
  if v5 = x1 then
  (gR S 39 78 x0).bind fun v6 =>
  (aI S 46 v6 x3).bind fun v7 =>
  if (2 : Int32) ≤ v7 then
  f_M_isLiveByAudit_B63 k18 S x0 x1 x2 x3
  else
  (gR S 39 78 x0).bind fun v8 =>
  (aI S 46 v8 x3).bind fun v9 =>
  if v9 = 0 then
  f_M_isLiveByAudit_B64 k18 S x0 x1 x3 (1 : Int32)
  else
  f_M_isLiveByAudit_B64 k18 S x0 x1 x3 (0 : Int32)
  else
  f_M_isLiveByAudit_B63 k18 S x0 x1 x2 x3
def f_M_isLiveByAudit_L18 : Nat → AS → Option Nat → Int32 → Int32 → Int32 → Option (Int32 × AS)
  | 0, S, x0, x1, x2, x3 => none
  | n + 1, S, x0, x1, x2, x3 => f_M_isLiveByAudit_C18 (f_M_isLiveByAudit_L18 n) S x0 x1 x2 x3
def f_M_isLiveByAudit (S : AS) (a0 : Option Nat) (a1 : Int32) : Option (Int32 × AS) :=
  (kr_rv S 39 a0).bind fun u10 =>
  kr_b2 (f_M_isSession S a0 a1) fun v12 S11 =>
  (kr_rv S11 39 a0).bind fun u13 =>
  kr_b2 (f_M_may S11 a0 v12) fun v15 S14 =>
  if v15 = 0 then
  some ((0 : Int32), S14)
  else
  f_M_isLiveByAudit_L18 kr_FU S14 a0 a1 (0 : Int32) (0 : Int32)
def f_M_levelNow_B47 (k4 : AS → Option Nat → Int32 → Int32 → Int32 → Option (Int32 × AS)) (S : AS) (x0 : Option Nat) (x1 : Int32) (x3 : Int32) (y0 : Int32) (y1 : Int32) : Option (Int32 × AS) :=
  (some (y0 ||| y1)).bind fun i1 =>
  (some (x3 + (1 : Int32))).bind fun i2 =>
  k4 S x0 x1 i1 i2
def f_M_levelNow_B46 (k4 : AS → Option Nat → Int32 → Int32 → Int32 → Option (Int32 × AS)) (S : AS) (x0 : Option Nat) (x1 : Int32) (x3 : Int32) (y0 : Int32) : Option (Int32 × AS) :=
  f_M_levelNow_B47 k4 S x0 x1 x3 y0 (0 : Int32)
def f_M_levelNow_C4 (k4 : AS → Option Nat → Int32 → Int32 → Int32 → Option (Int32 × AS)) (S : AS) (x0 : Option Nat) (x1 : Int32) (x2 : Int32) (x3 : Int32) : Option (Int32 × AS) :=
  if (3 : Int32) ≤ x3 then
  kr_b2 (f_M_levelOf S x2) fun v4 S3 =>
  some (v4, S3)
  else
  (gR S 39 36 x0).bind fun v5 =>
  (aI S 46 v5 (((3 : Int32) * x1) + x3)).bind fun v6 =>
  if v6 = (-1 : Int32) then
  f_M_levelNow_B46 k4 S x0 x1 x3 x2
  else
  (gI S 39 0 x0).bind fun v7 =>
  if (120 : Int32) < (v7 - v6) then
  f_M_levelNow_B46 k4 S x0 x1 x3 x2
  else
  f_M_levelNow_B47 k4 S x0 x1 x3 x2 ((1 : Int32) <<< (x3 &&& 31))
def f_M_levelNow_L4 : Nat → AS → Option Nat → Int32 → Int32 → Int32 → Option (Int32 × AS)
  | 0, S, x0, x1, x2, x3 => none
  | n + 1, S, x0, x1, x2, x3 => f_M_levelNow_C4 (f_M_levelNow_L4 n) S x0 x1 x2 x3
def f_M_levelNow (S : AS) (a0 : Option Nat) (a1 : Int32) : Option (Int32 × AS) :=
  f_M_levelNow_L4 kr_FU S a0 a1 (0 : Int32) (0 : Int32)
def f_M_level (S : AS) (a0 : Option Nat) (a1 : Int32) : Option (Int32 × AS) :=
  (kr_rv S 39 a0).bind fun u1 =>
  kr_b2 (f_M_isSession S a0 a1) fun v3 S2 =>
  (kr_rv S2 39 a0).bind fun u4 =>
  kr_b2 (f_M_may S2 a0 v3) fun v6 S5 =>
  if v6 = 0 then
  some ((0 : Int32), S5)
  else
  (kr_rv S5 39 a0).bind fun u7 =>
  kr_b2 (f_M_levelNow S5 a0 a1) fun v9 S8 =>
  some (v9, S8)
def f_M_stepUp_B112 (S : AS) (x0 : Option Nat) (x1 : Int32) : Option (Int32 × AS) :=
  (kr_rv S 39 x0).bind fun u1 =>
  kr_b2 (f_M_levelNow S x0 x1) fun v3 S2 =>
  some (v3, S2)
def f_M_stepUp_B63 (S : AS) (x0 : Option Nat) (x1 : Int32) (x2 : Int32) (x3 : Int32) (x4 : Int32) (y0 : Option Nat) (y1 : Int32) (y2 : Int32) (y3 : Int32) : Option (Int32 × AS) :=
  (kr_rv S 39 y0).bind fun u4 =>
  kr_b2 (f_M_mayAll S y0 y1 y2 y3) fun v6 S5 =>
  if v6 = 0 then
  some ((0 : Int32), S5)
  else
  (gR S5 39 33 x0).bind fun v7 =>
  (gI S5 39 0 x0).bind fun v8 =>
  (bI S5 v7 x1 v8 46).bind fun S9 =>
  (gR S9 39 31 x0).bind fun v10 =>
  (aI S9 46 v10 x1).bind fun v11 =>
  (kr_rv S9 39 x0).bind fun u12 =>
  kr_b2 (f_M_answers S9 x0 v11 x2 x3 x4) fun v14 S13 =>
  if v14 = 0 then
  f_M_stepUp_B112 S13 x0 x1
  else
  (gR S13 39 36 x0).bind fun v15 =>
  (gI S13 39 0 x0).bind fun v16 =>
  (bI S13 v15 (((3 : Int32) * x1) + x2) v16 46).bind fun S17 =>
  f_M_stepUp_B112 S17 x0 x1
def f_M_stepUp_B62 (S : AS) (x0 : Option Nat) (x1 : Int32) (x2 : Int32) (x3 : Int32) (x4 : Int32) (y0 : Option Nat) (y1 : Int32) (y2 : Int32) : Option (Int32 × AS) :=
  f_M_stepUp_B63 S x0 x1 x2 x3 x4 y0 y1 y2 (0 : Int32)
def f_M_stepUp_B34 (S : AS) (x0 : Option Nat) (x1 : Int32) (x2 : Int32) (x3 : Int32) (x4 : Int32) (x5 : Int32) (y0 : Option Nat) (y1 : Int32) (y2 : Int32) : Option (Int32 × AS) :=
  if x5 = 0 then
  f_M_stepUp_B62 S x0 x1 x2 x3 x4 y0 y1 y2
  else
  (gR S 39 35 x0).bind fun v18 =>
  (aI S 47 v18 x1).bind fun v19 =>
  if v19 = 0 then
  f_M_stepUp_B62 S x0 x1 x2 x3 x4 y0 y1 y2
  else
  (gR S 39 34 x0).bind fun v20 =>
  (aI S 46 v20 x1).bind fun v21 =>
  if v21 = (-1 : Int32) then
  f_M_stepUp_B63 S x0 x1 x2 x3 x4 y0 y1 y2 (1 : Int32)
  else
  f_M_stepUp_B62 S x0 x1 x2 x3 x4 y0 y1 y2
def f_M_stepUp_B33 (S : AS) (x0 : Option Nat) (x1 : Int32) (x2 : Int32) (x3 : Int32) (x4 : Int32) (x5 : Int32) (y0 : Option Nat) (y1 : Int32) : Option (Int32 × AS) :=
  f_M_stepUp_B34 S x0 x1 x2 x3 x4 x5 y0 y1 (0 : Int32)
def f_M_stepUp (S : AS) (a0 : Option Nat) (a1 : Int32) (a2 : Int32) (a3 : Int32) (a4 : Int32) : Option (Int32 × AS) :=
  (kr_rv S 39 a0).bind fun u22 =>
  kr_b2 (f_M_isSession S a0 a1) fun v24 S23 =>
  kr_b2 (f_M_isFactor S23 a2) fun v26 S25 =>
  if v26 = 0 then
  f_M_stepUp_B33 S25 a0 a1 a2 a3 a4 v24 a0 v24
  else
  kr_b2 (f_M_isIn S25 a4 (0 : Int32) (9999 : Int32)) fun v28 S27 =>
  if v28 = 0 then
  f_M_stepUp_B33 S27 a0 a1 a2 a3 a4 v24 a0 v24
  else
  f_M_stepUp_B34 S27 a0 a1 a2 a3 a4 v24 a0 v24 (1 : Int32)
def f_M_signOut_B26 (S : AS) (x0 : Option Nat) (x1 : Int32) (y0 : Option Nat) (y1 : Int32) (y2 : Int32) : Option (Int32 × AS) :=
  (kr_rv S 39 y0).bind fun u1 =>
  kr_b2 (f_M_mayBoth S y0 y1 y2) fun v3 S2 =>
  if v3 = 0 then
  some ((0 : Int32), S2)
  else
  (kr_rv S2 39 x0).bind fun u4 =>
  kr_b2 (f_M_endSession S2 x0 x1) fun v6 S5 =>
  some (v6, S5)
def f_M_signOut_B25 (S : AS) (x0 : Option Nat) (x1 : Int32) (y0 : Option Nat) (y1 : Int32) : Option (Int32 × AS) :=
  f_M_signOut_B26 S x0 x1 y0 y1 (0 : Int32)
def f_M_signOut (S : AS) (a0 : Option Nat) (a1 : Int32) : Option (Int32 × AS) :=
  (kr_rv S 39 a0).bind fun u7 =>
  kr_b2 (f_M_isSession S a0 a1) fun v9 S8 =>
  if v9 = 0 then
  f_M_signOut_B25 S8 a0 a1 a0 v9
  else
  (gR S8 39 35 a0).bind fun v10 =>
  (aI S8 47 v10 a1).bind fun v11 =>
  if v11 = 0 then
  f_M_signOut_B25 S8 a0 a1 a0 v9
  else
  f_M_signOut_B26 S8 a0 a1 a0 v9 (1 : Int32)
def f_M_helper_B32 (S : AS) (x0 : Option Nat) (x1 : Int32) (y0 : Option Nat) (y1 : Int32) (y2 : Int32) : Option (Int32 × AS) :=
  (bZ S y0 y1 y2 47).bind fun S1 =>
  (gR S1 39 8 x0).bind fun v2 =>
  (aI S1 47 v2 x1).bind fun v3 =>
  (kr_z v3).bind fun u4 =>
  some (v3, S1)
def f_M_helper (S : AS) (a0 : Option Nat) (a1 : Int32) : Option (Int32 × AS) :=
  kr_b2 (f_M_isSix S a1) fun v6 S5 =>
  (kr_rv S5 39 a0).bind fun u7 =>
  kr_b2 (f_M_may S5 a0 v6) fun v9 S8 =>
  if v9 = 0 then
  some ((0 : Int32), S8)
  else
  (gR S8 39 8 a0).bind fun v10 =>
  (gR S8 39 8 a0).bind fun v11 =>
  (aI S8 47 v11 a1).bind fun v12 =>
  if v12 = 0 then
  f_M_helper_B32 S8 a0 a1 v10 a1 (1 : Int32)
  else
  f_M_helper_B32 S8 a0 a1 v10 a1 (0 : Int32)
def f_M_act_C137 (k137 : AS → Option Nat → Int32 → Int32 → Int32 → Option (Int32 × AS)) (S : AS) (x0 : Option Nat) (x1 : Int32) (x5 : Int32) (x6 : Int32) : Option (Int32 × AS) :=
  if (3 : Int32) ≤ x6 then
  some (x5, S)
  else
  (gR S 39 36 x0).bind fun v1 =>
  (gR S 39 36 x0).bind fun v2 =>
  (aI S 46 v2 (((3 : Int32) * x1) + x6)).bind fun v3 =>
  (bI S v1 (((3 : Int32) * x5) + x6) v3 46).bind fun S4 =>
  (some (x6 + (1 : Int32))).bind fun i5 =>
  k137 S4 x0 x1 x5 i5
def f_M_act_L137 : Nat → AS → Option Nat → Int32 → Int32 → Int32 → Option (Int32 × AS)
  | 0, S, x0, x1, x5, x6 => none
  | n + 1, S, x0, x1, x5, x6 => f_M_act_C137 (f_M_act_L137 n) S x0 x1 x5 x6
def f_M_act_B112 (S : AS) (x0 : Option Nat) (x1 : Int32) (x2 : Int32) (x3 : Int32) (y0 : Int32) : Option (Int32 × AS) :=
  (kr_rv S 39 x0).bind fun u6 =>
  kr_b2 (f_M_mayBoth S x0 x3 y0) fun v8 S7 =>
  if v8 = 0 then
  some ((0 : Int32), S7)
  else
  (kr_rv S7 39 x0).bind fun u9 =>
  kr_b2 (f_M_newSession S7 x0 x2 x1) fun v11 S10 =>
  f_M_act_L137 kr_FU S10 x0 x1 v11 (0 : Int32)
def f_M_act_B111 (S : AS) (x0 : Option Nat) (x1 : Int32) (x2 : Int32) (x3 : Int32) : Option (Int32 × AS) :=
  f_M_act_B112 S x0 x1 x2 x3 (0 : Int32)
def f_M_act_B72 (S : AS) (x0 : Option Nat) (x1 : Int32) (x2 : Int32) (x3 : Int32) (y0 : Int32) : Option (Int32 × AS) :=
  if y0 = 0 then
  f_M_act_B111 S x0 x1 x2 x3
  else
  (gR S 39 31 x0).bind fun v12 =>
  (aI S 46 v12 x1).bind fun v13 =>
  if v13 = x2 then
  f_M_act_B111 S x0 x1 x2 x3
  else
  (gR S 39 7 x0).bind fun v14 =>
  (aI S 47 v14 x2).bind fun v15 =>
  if v15 = 0 then
  (gI S 39 30 x0).bind fun v16 =>
  if (60 : Int32) ≤ v16 then
  f_M_act_B111 S x0 x1 x2 x3
  else
  f_M_act_B112 S x0 x1 x2 x3 (1 : Int32)
  else
  f_M_act_B111 S x0 x1 x2 x3
def f_M_act_B71 (S : AS) (x0 : Option Nat) (x1 : Int32) (x2 : Int32) (x3 : Int32) : Option (Int32 × AS) :=
  f_M_act_B72 S x0 x1 x2 x3 (0 : Int32)
def f_M_act_B20 (S : AS) (x0 : Option Nat) (x1 : Int32) (x2 : Int32) (y0 : Int32) : Option (Int32 × AS) :=
  if y0 = 0 then
  f_M_act_B71 S x0 x1 x2 y0
  else
  (gR S 39 35 x0).bind fun v17 =>
  (aI S 47 v17 x1).bind fun v18 =>
  if v18 = 0 then
  f_M_act_B71 S x0 x1 x2 y0
  else
  (gR S 39 34 x0).bind fun v19 =>
  (aI S 46 v19 x1).bind fun v20 =>
  if v20 = (-1 : Int32) then
  (kr_rv S 39 x0).bind fun u21 =>
  kr_b2 (f_M_levelNow S x0 x1) fun v23 S22 =>
  if v23 < (3 : Int32) then
  f_M_act_B71 S22 x0 x1 x2 y0
  else
  (gR S22 39 8 x0).bind fun v24 =>
  (gR S22 39 31 x0).bind fun v25 =>
  (aI S22 46 v25 x1).bind fun v26 =>
  (aI S22 47 v24 v26).bind fun v27 =>
  if v27 = 0 then
  f_M_act_B71 S22 x0 x1 x2 y0
  else
  f_M_act_B72 S22 x0 x1 x2 y0 (1 : Int32)
  else
  f_M_act_B71 S x0 x1 x2 y0
def f_M_act_B19 (S : AS) (x0 : Option Nat) (x1 : Int32) (x2 : Int32) : Option (Int32 × AS) :=
  f_M_act_B20 S x0 x1 x2 (0 : Int32)
def f_M_act (S : AS) (a0 : Option Nat) (a1 : Int32) (a2 : Int32) : Option (Int32 × AS) :=
  (kr_rv S 39 a0).bind fun u28 =>
  kr_b2 (f_M_isSession S a0 a1) fun v30 S29 =>
  if v30 = 0 then
  f_M_act_B19 S29 a0 a1 a2
  else
  kr_b2 (f_M_isSix S29 a2) fun v32 S31 =>
  if v32 = 0 then
  f_M_act_B19 S31 a0 a1 a2
  else
  f_M_act_B20 S31 a0 a1 a2 (1 : Int32)
def f_M_isService (S : AS) (a0 : Int32) : Option (Int32 × AS) :=
  kr_b2 (f_M_isIn S a0 (0 : Int32) (3 : Int32)) fun v2 S1 =>
  (kr_z v2).bind fun u3 =>
  some (v2, S1)
def f_M_consent_B53 (S : AS) (x0 : Option Nat) (x2 : Int32) (x3 : Int32) (y0 : Int32) (y1 : Int32) : Option (Int32 × AS) :=
  (some ((y0 * y1) + x2)).bind fun i1 =>
  (gR S 39 37 x0).bind fun v2 =>
  (aI S 46 v2 i1).bind fun v3 =>
  (bI S v2 i1 (v3 ||| x3) 46).bind fun S4 =>
  (gR S4 39 37 x0).bind fun v5 =>
  (aI S4 46 v5 i1).bind fun v6 =>
  some (v6, S4)
def f_M_consent_B21 (S : AS) (x0 : Option Nat) (x1 : Int32) (x2 : Int32) (x3 : Int32) (y0 : Int32) : Option (Int32 × AS) :=
  kr_b2 (f_M_isIn S x3 (0 : Int32) (15 : Int32)) fun v8 S7 =>
  (kr_rv S7 39 x0).bind fun u9 =>
  kr_b2 (f_M_mayBoth S7 x0 y0 v8) fun v11 S10 =>
  if v11 = 0 then
  some ((0 : Int32), S10)
  else
  if x1 = (-1 : Int32) then
  f_M_consent_B53 S10 x0 x2 x3 (4 : Int32) (6 : Int32)
  else
  f_M_consent_B53 S10 x0 x2 x3 (4 : Int32) x1
def f_M_consent_B20 (S : AS) (x0 : Option Nat) (x1 : Int32) (x2 : Int32) (x3 : Int32) : Option (Int32 × AS) :=
  f_M_consent_B21 S x0 x1 x2 x3 (0 : Int32)
def f_M_consent (S : AS) (a0 : Option Nat) (a1 : Int32) (a2 : Int32) (a3 : Int32) : Option (Int32 × AS) :=
  kr_b2 (f_M_isIn S a1 (-1 : Int32) (5 : Int32)) fun v13 S12 =>
  if v13 = 0 then
  f_M_consent_B20 S12 a0 a1 a2 a3
  else
  kr_b2 (f_M_isService S12 a2) fun v15 S14 =>
  if v15 = 0 then
  f_M_consent_B20 S14 a0 a1 a2 a3
  else
  f_M_consent_B21 S14 a0 a1 a2 a3 (1 : Int32)
def f_M_withdraw_B131 (k44 : AS → Option Nat → Int32 → Int32 → Int32 → Int32 → Option (Int32 × AS)) (S : AS) (x0 : Option Nat) (x1 : Int32) (x2 : Int32) (x3 : Int32) (x4 : Int32) : Option (Int32 × AS) :=
  (some (x4 + (1 : Int32))).bind fun i1 =>
  k44 S x0 x1 x2 x3 i1
def f_M_withdraw_B118 (k44 : AS → Option Nat → Int32 → Int32 → Int32 → Int32 → Option (Int32 × AS)) (S : AS) (x0 : Option Nat) (x1 : Int32) (x2 : Int32) (x4 : Int32) (x5 : Int32) (y0 : Int32) (y1 : Int32) : Option (Int32 × AS) :=
  (some (y0 + y1)).bind fun i2 =>
  if x5 = 0 then
  f_M_withdraw_B131 k44 S x0 x1 x2 i2 x4
  else
  (kr_rv S 39 x0).bind fun u3 =>
  (f_M_endFamily S x0 x4).bind fun S4 =>
  f_M_withdraw_B131 k44 S4 x0 x1 x2 i2 x4
def f_M_withdraw_B105 (k44 : AS → Option Nat → Int32 → Int32 → Int32 → Int32 → Option (Int32 × AS)) (S : AS) (x0 : Option Nat) (x1 : Int32) (x2 : Int32) (x3 : Int32) (x4 : Int32) (y0 : Int32) : Option (Int32 × AS) :=
  if y0 = 0 then
  f_M_withdraw_B118 k44 S x0 x1 x2 x4 y0 x3 (0 : Int32)
  else
  f_M_withdraw_B118 k44 S x0 x1 x2 x4 y0 x3 (1 : Int32)
def f_M_withdraw_B104 (k44 : AS → Option Nat → Int32 → Int32 → Int32 → Int32 → Option (Int32 × AS)) (S : AS) (x0 : Option Nat) (x1 : Int32) (x2 : Int32) (x3 : Int32) (x4 : Int32) : Option (Int32 × AS) :=
  f_M_withdraw_B105 k44 S x0 x1 x2 x3 x4 (0 : Int32)
def f_M_withdraw_C44 (k44 : AS → Option Nat → Int32 → Int32 → Int32 → Int32 → Option (Int32 × AS)) (S : AS) (x0 : Option Nat) (x1 : Int32) (x2 : Int32) (x3 : Int32) (x4 : Int32) : Option (Int32 × AS) :=
  (gI S 39 46 x0).bind fun v5 =>
  if v5 ≤ x4 then
  some (x3, S)
  else
  (gR S 39 51 x0).bind fun v6 =>
  (aI S 47 v6 x4).bind fun v7 =>
  if v7 = 0 then
  f_M_withdraw_B104 k44 S x0 x1 x2 x3 x4
  else
  (gR S 39 31 x0).bind fun v8 =>
  (gR S 39 40 x0).bind fun v9 =>
  (gR S 39 47 x0).bind fun v10 =>
  (aI S 46 v10 x4).bind fun v11 =>
  (aI S 46 v9 v11).bind fun v12 =>
  (aI S 46 v8 v12).bind fun v13 =>
  if v13 = x1 then
  (gR S 39 41 x0).bind fun v14 =>
  (gR S 39 47 x0).bind fun v15 =>
  (aI S 46 v15 x4).bind fun v16 =>
  (aI S 46 v14 v16).bind fun v17 =>
  if v17 = x2 then
  f_M_withdraw_B105 k44 S x0 x1 x2 x3 x4 (1 : Int32)
  else
  f_M_withdraw_B104 k44 S x0 x1 x2 x3 x4
  else
  f_M_withdraw_B104 k44 S x0 x1 x2 x3 x4
def f_M_withdraw_L44 : Nat → AS → Option Nat → Int32 → Int32 → Int32 → Int32 → Option (Int32 × AS)
  | 0, S, x0, x1, x2, x3, x4 => none
  | n + 1, S, x0, x1, x2, x3, x4 => f_M_withdraw_C44 (f_M_withdraw_L44 n) S x0 x1 x2 x3 x4
def f_M_withdraw_B20 (S : AS) (x0 : Option Nat) (x1 : Int32) (x2 : Int32) (y0 : Option Nat) (y1 : Int32) : Option (Int32 × AS) :=
  (kr_rv S 39 y0).bind fun u18 =>
  kr_b2 (f_M_may S y0 y1) fun v20 S19 =>
  if v20 = 0 then
  some ((0 : Int32), S19)
  else
  (gR S19 39 37 x0).bind fun v21 =>
  (bI S19 v21 (((4 : Int32) * x1) + x2) (0 : Int32) 46).bind fun S22 =>
  f_M_withdraw_L44 kr_FU S22 x0 x1 x2 (0 : Int32) (0 : Int32)
def f_M_withdraw_B19 (S : AS) (x0 : Option Nat) (x1 : Int32) (x2 : Int32) (y0 : Option Nat) : Option (Int32 × AS) :=
  f_M_withdraw_B20 S x0 x1 x2 y0 (0 : Int32)
def f_M_withdraw (S : AS) (a0 : Option Nat) (a1 : Int32) (a2 : Int32) : Option (Int32 × AS) :=
  kr_b2 (f_M_isSix S a1) fun v24 S23 =>
  if v24 = 0 then
  f_M_withdraw_B19 S23 a0 a1 a2 a0
  else
  kr_b2 (f_M_isService S23 a2) fun v26 S25 =>
  if v26 = 0 then
  f_M_withdraw_B19 S25 a0 a1 a2 a0
  else
  f_M_withdraw_B20 S25 a0 a1 a2 a0 (1 : Int32)
def f_M_need (S : AS) (a0 : Option Nat) (a1 : Int32) (a2 : Int32) : Option (Int32 × AS) :=
  kr_b2 (f_M_isService S a1) fun v2 S1 =>
  kr_b2 (f_M_isIn S1 a2 (0 : Int32) (6 : Int32)) fun v4 S3 =>
  (kr_rv S3 39 a0).bind fun u5 =>
  kr_b2 (f_M_mayBoth S3 a0 v2 v4) fun v7 S6 =>
  if v7 = 0 then
  some ((0 : Int32), S6)
  else
  (gR S6 39 38 a0).bind fun v8 =>
  (aI S6 46 v8 a1).bind fun v9 =>
  (gR S6 39 38 a0).bind fun v10 =>
  (bI S6 v10 a1 a2 46).bind fun S11 =>
  some (v9, S11)
def f_M_authorize_B68 (S : AS) (x0 : Option Nat) (x1 : Int32) (x2 : Int32) (x3 : Int32) (x4 : Int32) (y0 : Option Nat) (y1 : Int32) (y2 : Int32) (y3 : Int32) : Option (Int32 × AS) :=
  (kr_rv S 39 y0).bind fun u1 =>
  kr_b2 (f_M_mayAll S y0 y1 y2 y3) fun v3 S2 =>
  if v3 = 0 then
  some ((0 : Int32), S2)
  else
  (gR S2 39 33 x0).bind fun v4 =>
  (gI S2 39 0 x0).bind fun v5 =>
  (bI S2 v4 x1 v5 46).bind fun S6 =>
  (gR S6 39 37 x0).bind fun v7 =>
  (gR S6 39 31 x0).bind fun v8 =>
  (aI S6 46 v8 x1).bind fun v9 =>
  (aI S6 46 v7 (((4 : Int32) * v9) + x2)).bind fun v10 =>
  (gR S6 39 37 x0).bind fun v11 =>
  (aI S6 46 v11 ((24 : Int32) + x2)).bind fun v12 =>
  (some (v10 ||| v12)).bind fun i13 =>
  if (x4 &&& (i13 ^^^ (-1 : Int32))) = 0 then
  (kr_rv S6 39 x0).bind fun u14 =>
  kr_b2 (f_M_levelNow S6 x0 x1) fun v16 S15 =>
  (gR S15 39 38 x0).bind fun v17 =>
  (aI S15 46 v17 x3).bind fun v18 =>
  if v18 ≤ v16 then
  (gR S15 39 40 x0).bind fun v19 =>
  (gI S15 39 39 x0).bind fun v20 =>
  (bI S15 v19 v20 x1 46).bind fun S21 =>
  (gR S21 39 41 x0).bind fun v22 =>
  (gI S21 39 39 x0).bind fun v23 =>
  (bI S21 v22 v23 x2 46).bind fun S24 =>
  (gR S24 39 42 x0).bind fun v25 =>
  (gI S24 39 39 x0).bind fun v26 =>
  (bI S24 v25 v26 x3 46).bind fun S27 =>
  (gR S27 39 43 x0).bind fun v28 =>
  (gI S27 39 39 x0).bind fun v29 =>
  (bI S27 v28 v29 x4 46).bind fun S30 =>
  (gR S30 39 44 x0).bind fun v31 =>
  (gI S30 39 39 x0).bind fun v32 =>
  (gI S30 39 0 x0).bind fun v33 =>
  (bI S30 v31 v32 v33 46).bind fun S34 =>
  (gR S34 39 45 x0).bind fun v35 =>
  (gI S34 39 39 x0).bind fun v36 =>
  (bI S34 v35 v36 (-1 : Int32) 46).bind fun S37 =>
  (gI S37 39 39 x0).bind fun v38 =>
  (pI S37 39 39 x0 (v38 + (1 : Int32))).bind fun S39 =>
  (gI S39 39 39 x0).bind fun v40 =>
  some (v40 - (1 : Int32), S39)
  else
  some ((-2 : Int32), S15)
  else
  some ((-3 : Int32), S6)
def f_M_authorize_B67 (S : AS) (x0 : Option Nat) (x1 : Int32) (x2 : Int32) (x3 : Int32) (x4 : Int32) (y0 : Option Nat) (y1 : Int32) (y2 : Int32) : Option (Int32 × AS) :=
  f_M_authorize_B68 S x0 x1 x2 x3 x4 y0 y1 y2 (0 : Int32)
def f_M_authorize_B27 (S : AS) (x0 : Option Nat) (x1 : Int32) (x2 : Int32) (x3 : Int32) (x4 : Int32) (y0 : Int32) : Option (Int32 × AS) :=
  kr_b2 (f_M_isIn S x4 (1 : Int32) (15 : Int32)) fun v42 S41 =>
  if y0 = 0 then
  f_M_authorize_B67 S41 x0 x1 x2 x3 x4 x0 y0 v42
  else
  (gR S41 39 35 x0).bind fun v43 =>
  (aI S41 47 v43 x1).bind fun v44 =>
  if v44 = 0 then
  f_M_authorize_B67 S41 x0 x1 x2 x3 x4 x0 y0 v42
  else
  (gI S41 39 39 x0).bind fun v45 =>
  if (60 : Int32) ≤ v45 then
  f_M_authorize_B67 S41 x0 x1 x2 x3 x4 x0 y0 v42
  else
  f_M_authorize_B68 S41 x0 x1 x2 x3 x4 x0 y0 v42 (1 : Int32)
def f_M_authorize_B26 (S : AS) (x0 : Option Nat) (x1 : Int32) (x2 : Int32) (x3 : Int32) (x4 : Int32) : Option (Int32 × AS) :=
  f_M_authorize_B27 S x0 x1 x2 x3 x4 (0 : Int32)
def f_M_authorize (S : AS) (a0 : Option Nat) (a1 : Int32) (a2 : Int32) (a3 : Int32) (a4 : Int32) : Option (Int32 × AS) :=
  (kr_rv S 39 a0).bind fun u46 =>
  kr_b2 (f_M_isSession S a0 a1) fun v48 S47 =>
  if v48 = 0 then
  f_M_authorize_B26 S47 a0 a1 a2 a3 a4
  else
  kr_b2 (f_M_isService S47 a2) fun v50 S49 =>
  if v50 = 0 then
  f_M_authorize_B26 S49 a0 a1 a2 a3 a4
  else
  kr_b2 (f_M_isService S49 a3) fun v52 S51 =>
  if v52 = 0 then
  f_M_authorize_B26 S51 a0 a1 a2 a3 a4
  else
  f_M_authorize_B27 S51 a0 a1 a2 a3 a4 (1 : Int32)
def f_M_newToken (S : AS) (a0 : Option Nat) (a1 : Int32) (a2 : Int32) (a3 : Int32) (a4 : Int32) (a5 : Int32) (a6 : Int32) : Option (Int32 × AS) :=
  (gI S 39 52 a0).bind fun v1 =>
  (gR S 39 57 a0).bind fun v2 =>
  (bI S v2 v1 a1 46).bind fun S3 =>
  (gR S3 39 53 a0).bind fun v4 =>
  (bI S3 v4 v1 a2 46).bind fun S5 =>
  (gR S5 39 54 a0).bind fun v6 =>
  (bI S5 v6 v1 a3 46).bind fun S7 =>
  (gR S7 39 55 a0).bind fun v8 =>
  (bI S7 v8 v1 a4 46).bind fun S9 =>
  (gR S9 39 56 a0).bind fun v10 =>
  (bI S9 v10 v1 a5 46).bind fun S11 =>
  (gR S11 39 59 a0).bind fun v12 =>
  (bI S11 v12 v1 a6 46).bind fun S13 =>
  (gR S13 39 58 a0).bind fun v14 =>
  (gI S13 39 61 a0).bind fun v15 =>
  (bI S13 v14 v1 v15 46).bind fun S16 =>
  (gR S16 39 50 a0).bind fun v17 =>
  (bI S16 v17 a1 v1 46).bind fun S18 =>
  (gI S18 39 52 a0).bind fun v19 =>
  (pI S18 39 52 a0 (v19 + (1 : Int32))).bind fun S20 =>
  some (v1, S20)
def f_M_firstToken (S : AS) (a0 : Option Nat) (a1 : Int32) : Option AS :=
  (gR S 39 47 a0).bind fun v1 =>
  (aI S 46 v1 a1).bind fun v2 =>
  (gR S 39 41 a0).bind fun v3 =>
  (aI S 46 v3 v2).bind fun v4 =>
  (gR S 39 42 a0).bind fun v5 =>
  (aI S 46 v5 v2).bind fun v6 =>
  (gR S 39 43 a0).bind fun v7 =>
  (aI S 46 v7 v2).bind fun v8 =>
  (gI S 39 0 a0).bind fun v9 =>
  (kr_rv S 39 a0).bind fun u10 =>
  kr_b2 (f_M_newToken S a0 a1 v4 v6 v8 (0 : Int32) (v9 + (10 : Int32))) fun v12 S11 =>
  some S11
def f_M_redeem_B82 (S : AS) (x0 : Option Nat) (x1 : Int32) (x3 : Int32) (y0 : Option Nat) (y1 : Int32) (y2 : Int32) : Option (Int32 × AS) :=
  (kr_rv S 39 y0).bind fun u1 =>
  kr_b2 (f_M_mayBoth S y0 y1 y2) fun v3 S2 =>
  if v3 = 0 then
  some ((0 : Int32), S2)
  else
  if x3 = 0 then
  (gR S2 39 45 x0).bind fun v4 =>
  (aI S2 46 v4 x1).bind fun v5 =>
  if v5 = (-1 : Int32) then
  some ((-1 : Int32), S2)
  else
  (gR S2 39 45 x0).bind fun v6 =>
  (aI S2 46 v6 x1).bind fun v7 =>
  (kr_rv S2 39 x0).bind fun u8 =>
  (f_M_endFamily S2 x0 v7).bind fun S9 =>
  some ((-1 : Int32), S9)
  else
  (gI S2 39 46 x0).bind fun v10 =>
  (gR S2 39 47 x0).bind fun v11 =>
  (bI S2 v11 v10 x1 46).bind fun S12 =>
  (gR S12 39 48 x0).bind fun v13 =>
  (bI S12 v13 v10 (0 : Int32) 46).bind fun S14 =>
  (gR S14 39 49 x0).bind fun v15 =>
  (gI S14 39 0 x0).bind fun v16 =>
  (bI S14 v15 v10 v16 46).bind fun S17 =>
  (gR S17 39 51 x0).bind fun v18 =>
  (bZ S17 v18 v10 (1 : Int32) 47).bind fun S19 =>
  (gR S19 39 45 x0).bind fun v20 =>
  (bI S19 v20 x1 v10 46).bind fun S21 =>
  (gI S21 39 46 x0).bind fun v22 =>
  (pI S21 39 46 x0 (v22 + (1 : Int32))).bind fun S23 =>
  (kr_rv S23 39 x0).bind fun u24 =>
  (f_M_write S23 x0 (2 : Int32) v10).bind fun S25 =>
  (kr_rv S25 39 x0).bind fun u26 =>
  (f_M_firstToken S25 x0 v10).bind fun S27 =>
  some (v10, S27)
def f_M_redeem_B77 (S : AS) (x0 : Option Nat) (x1 : Int32) (x3 : Int32) (y0 : Option Nat) (y1 : Int32) : Option (Int32 × AS) :=
  f_M_redeem_B82 S x0 x1 x3 y0 y1 (1 : Int32)
def f_M_redeem_B60 (S : AS) (x0 : Option Nat) (x1 : Int32) (x2 : Int32) (y0 : Int32) : Option (Int32 × AS) :=
  if y0 = 0 then
  f_M_redeem_B77 S x0 x1 y0 x0 x2
  else
  (gI S 39 52 x0).bind fun v28 =>
  if (200 : Int32) ≤ v28 then
  f_M_redeem_B82 S x0 x1 y0 x0 x2 (0 : Int32)
  else
  f_M_redeem_B77 S x0 x1 y0 x0 x2
def f_M_redeem_B59 (S : AS) (x0 : Option Nat) (x1 : Int32) (x2 : Int32) : Option (Int32 × AS) :=
  f_M_redeem_B60 S x0 x1 x2 (0 : Int32)
def f_M_redeem (S : AS) (a0 : Option Nat) (a1 : Int32) : Option (Int32 × AS) :=
  (gI S 39 39 a0).bind fun v29 =>
  kr_b2 (f_M_isIn S a1 (0 : Int32) (v29 - (1 : Int32))) fun v31 S30 =>
  if v31 = 0 then
  f_M_redeem_B59 S30 a0 a1 v31
  else
  (gR S30 39 45 a0).bind fun v32 =>
  (aI S30 46 v32 a1).bind fun v33 =>
  if v33 = (-1 : Int32) then
  (gI S30 39 0 a0).bind fun v34 =>
  (gR S30 39 44 a0).bind fun v35 =>
  (aI S30 46 v35 a1).bind fun v36 =>
  if (5 : Int32) < (v34 - v36) then
  f_M_redeem_B59 S30 a0 a1 v31
  else
  (gR S30 39 35 a0).bind fun v37 =>
  (gR S30 39 40 a0).bind fun v38 =>
  (aI S30 46 v38 a1).bind fun v39 =>
  (aI S30 47 v37 v39).bind fun v40 =>
  if v40 = 0 then
  f_M_redeem_B59 S30 a0 a1 v31
  else
  f_M_redeem_B60 S30 a0 a1 v31 (1 : Int32)
  else
  f_M_redeem_B59 S30 a0 a1 v31
def f_M_isFamily (S : AS) (a0 : Option Nat) (a1 : Int32) : Option (Int32 × AS) :=
  (gI S 39 46 a0).bind fun v1 =>
  kr_b2 (f_M_isIn S a1 (0 : Int32) (v1 - (1 : Int32))) fun v3 S2 =>
  (kr_z v3).bind fun u4 =>
  some (v3, S2)
def f_M_refresh_B227 (S : AS) (x0 : Option Nat) (x1 : Int32) : Option (Int32 × AS) :=
  (kr_rv S 39 x0).bind fun u1 =>
  (f_M_endFamily S x0 x1).bind fun S2 =>
  some ((-1 : Int32), S2)
def f_M_refresh_B121 (S : AS) (x0 : Option Nat) (x1 : Int32) (x2 : Int32) (x5 : Int32) (x6 : Int32) (y0 : Option Nat) (y1 : Int32) (y2 : Int32) (y3 : Int32) : Option (Int32 × AS) :=
  (kr_rv S 39 y0).bind fun u3 =>
  kr_b2 (f_M_mayAll S y0 y1 y2 y3) fun v5 S4 =>
  if v5 = 0 then
  some ((0 : Int32), S4)
  else
  if x5 = 0 then
  some ((-1 : Int32), S4)
  else
  if x6 = 0 then
  (gR S4 39 48 x0).bind fun v6 =>
  (aI S4 46 v6 x1).bind fun v7 =>
  if x2 = (v7 - (1 : Int32)) then
  (gI S4 39 0 x0).bind fun v8 =>
  (gR S4 39 49 x0).bind fun v9 =>
  (aI S4 46 v9 x1).bind fun v10 =>
  if (1 : Int32) < (v8 - v10) then
  f_M_refresh_B227 S4 x0 x1
  else
  (gR S4 39 48 x0).bind fun v11 =>
  (aI S4 46 v11 x1).bind fun v12 =>
  some (v12, S4)
  else
  f_M_refresh_B227 S4 x0 x1
  else
  (gR S4 39 48 x0).bind fun v13 =>
  (aI S4 46 v13 x1).bind fun v14 =>
  (bI S4 v13 x1 (v14 + (1 : Int32)) 46).bind fun S15 =>
  (gR S15 39 49 x0).bind fun v16 =>
  (gI S15 39 0 x0).bind fun v17 =>
  (bI S15 v16 x1 v17 46).bind fun S18 =>
  (kr_rv S18 39 x0).bind fun u19 =>
  (f_M_firstToken S18 x0 x1).bind fun S20 =>
  (gR S20 39 33 x0).bind fun v21 =>
  (gR S20 39 40 x0).bind fun v22 =>
  (gR S20 39 47 x0).bind fun v23 =>
  (aI S20 46 v23 x1).bind fun v24 =>
  (aI S20 46 v22 v24).bind fun v25 =>
  (gI S20 39 0 x0).bind fun v26 =>
  (bI S20 v21 v25 v26 46).bind fun S27 =>
  (gR S27 39 48 x0).bind fun v28 =>
  (aI S27 46 v28 x1).bind fun v29 =>
  some (v29, S27)
def f_M_refresh_B116 (S : AS) (x0 : Option Nat) (x1 : Int32) (x2 : Int32) (x5 : Int32) (x6 : Int32) (y0 : Option Nat) (y1 : Int32) (y2 : Int32) : Option (Int32 × AS) :=
  f_M_refresh_B121 S x0 x1 x2 x5 x6 y0 y1 y2 (1 : Int32)
def f_M_refresh_B95 (S : AS) (x0 : Option Nat) (x1 : Int32) (x2 : Int32) (x3 : Int32) (x4 : Int32) (x5 : Int32) (y0 : Int32) : Option (Int32 × AS) :=
  if y0 = 0 then
  f_M_refresh_B116 S x0 x1 x2 x5 y0 x0 x3 x4
  else
  (gI S 39 52 x0).bind fun v30 =>
  if (200 : Int32) ≤ v30 then
  f_M_refresh_B121 S x0 x1 x2 x5 y0 x0 x3 x4 (0 : Int32)
  else
  f_M_refresh_B116 S x0 x1 x2 x5 y0 x0 x3 x4
def f_M_refresh_B94 (S : AS) (x0 : Option Nat) (x1 : Int32) (x2 : Int32) (x3 : Int32) (x4 : Int32) (x5 : Int32) : Option (Int32 × AS) :=
  f_M_refresh_B95 S x0 x1 x2 x3 x4 x5 (0 : Int32)
def f_M_refresh_B68 (S : AS) (x0 : Option Nat) (x1 : Int32) (x2 : Int32) (x3 : Int32) (x4 : Int32) (y0 : Int32) : Option (Int32 × AS) :=
  if x4 = 0 then
  f_M_refresh_B94 S x0 x1 x2 x3 x4 y0
  else
  if y0 = 0 then
  f_M_refresh_B94 S x0 x1 x2 x3 x4 y0
  else
  (gR S 39 48 x0).bind fun v31 =>
  (aI S 46 v31 x1).bind fun v32 =>
  if x2 = v32 then
  f_M_refresh_B95 S x0 x1 x2 x3 x4 y0 (1 : Int32)
  else
  f_M_refresh_B94 S x0 x1 x2 x3 x4 y0
def f_M_refresh_B67 (S : AS) (x0 : Option Nat) (x1 : Int32) (x2 : Int32) (x3 : Int32) (x4 : Int32) : Option (Int32 × AS) :=
  f_M_refresh_B68 S x0 x1 x2 x3 x4 (0 : Int32)
def f_M_refresh_B29 (S : AS) (x0 : Option Nat) (x1 : Int32) (x2 : Int32) (x3 : Int32) (y0 : Int32) : Option (Int32 × AS) :=
  if x3 = 0 then
  f_M_refresh_B67 S x0 x1 x2 x3 y0
  else
  (gR S 39 51 x0).bind fun v33 =>
  (aI S 47 v33 x1).bind fun v34 =>
  if v34 = 0 then
  f_M_refresh_B67 S x0 x1 x2 x3 y0
  else
  (gR S 39 35 x0).bind fun v35 =>
  (gR S 39 40 x0).bind fun v36 =>
  (gR S 39 47 x0).bind fun v37 =>
  (aI S 46 v37 x1).bind fun v38 =>
  (aI S 46 v36 v38).bind fun v39 =>
  (aI S 47 v35 v39).bind fun v40 =>
  if v40 = 0 then
  f_M_refresh_B67 S x0 x1 x2 x3 y0
  else
  f_M_refresh_B68 S x0 x1 x2 x3 y0 (1 : Int32)
def f_M_refresh_B28 (S : AS) (x0 : Option Nat) (x1 : Int32) (x2 : Int32) (x3 : Int32) : Option (Int32 × AS) :=
  f_M_refresh_B29 S x0 x1 x2 x3 (0 : Int32)
def f_M_refresh (S : AS) (a0 : Option Nat) (a1 : Int32) (a2 : Int32) : Option (Int32 × AS) :=
  (kr_rv S 39 a0).bind fun u41 =>
  kr_b2 (f_M_isFamily S a0 a1) fun v43 S42 =>
  if v43 = 0 then
  f_M_refresh_B28 S42 a0 a1 a2 v43
  else
  (gR S42 39 48 a0).bind fun v44 =>
  (aI S42 46 v44 a1).bind fun v45 =>
  kr_b2 (f_M_isIn S42 a2 (0 : Int32) v45) fun v47 S46 =>
  if v47 = 0 then
  f_M_refresh_B28 S46 a0 a1 a2 v43
  else
  f_M_refresh_B29 S46 a0 a1 a2 v43 (1 : Int32)
def f_M_isGood (S : AS) (a0 : Option Nat) (a1 : Int32) : Option (Int32 × AS) :=
  (kr_rv S 39 a0).bind fun u1 =>
  kr_b2 (f_M_isFamily S a0 a1) fun v3 S2 =>
  (kr_rv S2 39 a0).bind fun u4 =>
  kr_b2 (f_M_may S2 a0 v3) fun v6 S5 =>
  if v6 = 0 then
  some ((0 : Int32), S5)
  else
  (gR S5 39 51 a0).bind fun v7 =>
  (aI S5 47 v7 a1).bind fun v8 =>
  if v8 = 0 then
  some ((0 : Int32), S5)
  else
  some ((1 : Int32), S5)
def f_M_tokenOf (S : AS) (a0 : Option Nat) (a1 : Int32) : Option (Int32 × AS) :=
  (kr_rv S 39 a0).bind fun u1 =>
  kr_b2 (f_M_isFamily S a0 a1) fun v3 S2 =>
  (kr_rv S2 39 a0).bind fun u4 =>
  kr_b2 (f_M_may S2 a0 v3) fun v6 S5 =>
  if v6 = 0 then
  some ((0 : Int32), S5)
  else
  (gR S5 39 50 a0).bind fun v7 =>
  (aI S5 46 v7 a1).bind fun v8 =>
  some (v8, S5)
def f_M_isToken (S : AS) (a0 : Option Nat) (a1 : Int32) : Option (Int32 × AS) :=
  (gI S 39 52 a0).bind fun v1 =>
  kr_b2 (f_M_isIn S a1 (0 : Int32) (v1 - (1 : Int32))) fun v3 S2 =>
  (kr_z v3).bind fun u4 =>
  some (v3, S2)
def f_M_exchange_B114 (S : AS) (x0 : Option Nat) (x1 : Int32) (x2 : Int32) (x3 : Int32) (x4 : Int32) (x5 : Int32) (y0 : Int32) : Option (Int32 × AS) :=
  (kr_rv S 39 x0).bind fun u1 =>
  kr_b2 (f_M_mayAll S x0 x4 x5 y0) fun v3 S2 =>
  if v3 = 0 then
  some ((0 : Int32), S2)
  else
  (gR S2 39 57 x0).bind fun v4 =>
  (aI S2 46 v4 x1).bind fun v5 =>
  (gR S2 39 40 x0).bind fun v6 =>
  (gR S2 39 47 x0).bind fun v7 =>
  (aI S2 46 v7 v5).bind fun v8 =>
  (aI S2 46 v6 v8).bind fun v9 =>
  (kr_rv S2 39 x0).bind fun u10 =>
  kr_b2 (f_M_levelNow S2 x0 v9) fun v12 S11 =>
  (gR S11 39 38 x0).bind fun v13 =>
  (aI S11 46 v13 x2).bind fun v14 =>
  if v14 ≤ v12 then
  (gR S11 39 54 x0).bind fun v15 =>
  (aI S11 46 v15 x1).bind fun v16 =>
  (gR S11 39 56 x0).bind fun v17 =>
  (aI S11 46 v17 x1).bind fun v18 =>
  (gR S11 39 59 x0).bind fun v19 =>
  (aI S11 46 v19 x1).bind fun v20 =>
  (kr_rv S11 39 x0).bind fun u21 =>
  kr_b2 (f_M_newToken S11 x0 v5 v16 x2 x3 (v18 + (1 : Int32)) v20) fun v23 S22 =>
  some (v23, S22)
  else
  some ((-2 : Int32), S11)
def f_M_exchange_B113 (S : AS) (x0 : Option Nat) (x1 : Int32) (x2 : Int32) (x3 : Int32) (x4 : Int32) (x5 : Int32) : Option (Int32 × AS) :=
  f_M_exchange_B114 S x0 x1 x2 x3 x4 x5 (0 : Int32)
def f_M_exchange_B55 (S : AS) (x0 : Option Nat) (x1 : Int32) (x2 : Int32) (x3 : Int32) (x4 : Int32) (y0 : Int32) : Option (Int32 × AS) :=
  if x4 = 0 then
  f_M_exchange_B113 S x0 x1 x2 x3 x4 y0
  else
  (gI S 39 0 x0).bind fun v24 =>
  (gR S 39 59 x0).bind fun v25 =>
  (aI S 46 v25 x1).bind fun v26 =>
  if v26 < v24 then
  f_M_exchange_B113 S x0 x1 x2 x3 x4 y0
  else
  (gR S 39 51 x0).bind fun v27 =>
  (gR S 39 57 x0).bind fun v28 =>
  (aI S 46 v28 x1).bind fun v29 =>
  (aI S 47 v27 v29).bind fun v30 =>
  if v30 = 0 then
  f_M_exchange_B113 S x0 x1 x2 x3 x4 y0
  else
  (gR S 39 56 x0).bind fun v31 =>
  (aI S 46 v31 x1).bind fun v32 =>
  if (3 : Int32) ≤ v32 then
  f_M_exchange_B113 S x0 x1 x2 x3 x4 y0
  else
  (gI S 39 52 x0).bind fun v33 =>
  if (200 : Int32) ≤ v33 then
  f_M_exchange_B113 S x0 x1 x2 x3 x4 y0
  else
  f_M_exchange_B114 S x0 x1 x2 x3 x4 y0 (1 : Int32)
def f_M_exchange_B54 (S : AS) (x0 : Option Nat) (x1 : Int32) (x2 : Int32) (x3 : Int32) (x4 : Int32) : Option (Int32 × AS) :=
  f_M_exchange_B55 S x0 x1 x2 x3 x4 (0 : Int32)
def f_M_exchange_B20 (S : AS) (x0 : Option Nat) (x1 : Int32) (x2 : Int32) (x3 : Int32) (y0 : Int32) : Option (Int32 × AS) :=
  if y0 = 0 then
  f_M_exchange_B54 S x0 x1 x2 x3 y0
  else
  kr_b2 (f_M_isIn S x3 (1 : Int32) (15 : Int32)) fun v35 S34 =>
  if v35 = 0 then
  f_M_exchange_B54 S34 x0 x1 x2 x3 y0
  else
  (gR S34 39 55 x0).bind fun v36 =>
  (aI S34 46 v36 x1).bind fun v37 =>
  if (x3 &&& (v37 ^^^ (-1 : Int32))) = 0 then
  f_M_exchange_B55 S34 x0 x1 x2 x3 y0 (1 : Int32)
  else
  f_M_exchange_B54 S34 x0 x1 x2 x3 y0
def f_M_exchange_B19 (S : AS) (x0 : Option Nat) (x1 : Int32) (x2 : Int32) (x3 : Int32) : Option (Int32 × AS) :=
  f_M_exchange_B20 S x0 x1 x2 x3 (0 : Int32)
def f_M_exchange (S : AS) (a0 : Option Nat) (a1 : Int32) (a2 : Int32) (a3 : Int32) : Option (Int32 × AS) :=
  (kr_rv S 39 a0).bind fun u38 =>
  kr_b2 (f_M_isToken S a0 a1) fun v40 S39 =>
  if v40 = 0 then
  f_M_exchange_B19 S39 a0 a1 a2 a3
  else
  kr_b2 (f_M_isService S39 a2) fun v42 S41 =>
  if v42 = 0 then
  f_M_exchange_B19 S41 a0 a1 a2 a3
  else
  f_M_exchange_B20 S41 a0 a1 a2 a3 (1 : Int32)
def f_M_token (S : AS) (a0 : Option Nat) (a1 : Int32) : Option (Int32 × AS) :=
  (kr_rv S 39 a0).bind fun u1 =>
  kr_b2 (f_M_isToken S a0 a1) fun v3 S2 =>
  (kr_rv S2 39 a0).bind fun u4 =>
  kr_b2 (f_M_may S2 a0 v3) fun v6 S5 =>
  if v6 = 0 then
  some ((0 : Int32), S5)
  else
  (gR S5 39 59 a0).bind fun v7 =>
  (aI S5 46 v7 a1).bind fun v8 =>
  (gR S5 39 53 a0).bind fun v9 =>
  (aI S5 46 v9 a1).bind fun v10 =>
  (gR S5 39 54 a0).bind fun v11 =>
  (aI S5 46 v11 a1).bind fun v12 =>
  (gR S5 39 56 a0).bind fun v13 =>
  (aI S5 46 v13 a1).bind fun v14 =>
  some (((((1000 : Int32) * v8) + ((100 : Int32) * v10)) + ((10 : Int32) * v12)) + v14, S5)
def f_M_turn_B23 (S : AS) (x0 : Option Nat) (y0 : Option Nat) (y1 : Int32) : Option (Int32 × AS) :=
  (kr_rv S 39 y0).bind fun u1 =>
  kr_b2 (f_M_may S y0 y1) fun v3 S2 =>
  if v3 = 0 then
  some ((0 : Int32), S2)
  else
  (gI S2 39 60 x0).bind fun v4 =>
  (pI S2 39 62 x0 v4).bind fun S5 =>
  (gI S5 39 0 x0).bind fun v6 =>
  (pI S5 39 63 x0 (v6 + (5 : Int32))).bind fun S7 =>
  (gI S7 39 60 x0).bind fun v8 =>
  (pI S7 39 60 x0 (v8 + (1 : Int32))).bind fun S9 =>
  (gI S9 39 62 x0).bind fun v10 =>
  some (v10, S9)
def f_M_turn_B22 (S : AS) (x0 : Option Nat) (y0 : Option Nat) : Option (Int32 × AS) :=
  f_M_turn_B23 S x0 y0 (0 : Int32)
def f_M_turn (S : AS) (a0 : Option Nat) : Option (Int32 × AS) :=
  (gI S 39 62 a0).bind fun v11 =>
  if v11 = (-1 : Int32) then
  (gI S 39 60 a0).bind fun v12 =>
  if (20 : Int32) ≤ v12 then
  f_M_turn_B22 S a0 a0
  else
  f_M_turn_B23 S a0 a0 (1 : Int32)
  else
  f_M_turn_B22 S a0 a0
def f_M_emergency_B67 (S : AS) (x0 : Option Nat) : Option (Int32 × AS) :=
  (gI S 39 62 x0).bind fun v1 =>
  (pI S 39 61 x0 v1).bind fun S2 =>
  (pI S2 39 62 x0 (-1 : Int32)).bind fun S3 =>
  (gI S3 39 61 x0).bind fun v4 =>
  (kr_rv S3 39 x0).bind fun u5 =>
  (f_M_write S3 x0 (5 : Int32) v4).bind fun S6 =>
  (gI S6 39 61 x0).bind fun v7 =>
  some (v7, S6)
def f_M_emergency_B23 (S : AS) (x0 : Option Nat) (y0 : Option Nat) (y1 : Int32) : Option (Int32 × AS) :=
  (kr_rv S 39 y0).bind fun u8 =>
  kr_b2 (f_M_may S y0 y1) fun v10 S9 =>
  if v10 = 0 then
  some ((0 : Int32), S9)
  else
  (gR S9 39 64 x0).bind fun v11 =>
  (gI S9 39 61 x0).bind fun v12 =>
  (bZ S9 v11 v12 (1 : Int32) 47).bind fun S13 =>
  (gI S13 39 62 x0).bind fun v14 =>
  if v14 = (-1 : Int32) then
  (gI S13 39 60 x0).bind fun v15 =>
  (pI S13 39 62 x0 v15).bind fun S16 =>
  (gI S16 39 60 x0).bind fun v17 =>
  (pI S16 39 60 x0 (v17 + (1 : Int32))).bind fun S18 =>
  f_M_emergency_B67 S18 x0
  else
  f_M_emergency_B67 S13 x0
def f_M_emergency_B18 (S : AS) (x0 : Option Nat) (y0 : Option Nat) : Option (Int32 × AS) :=
  f_M_emergency_B23 S x0 y0 (1 : Int32)
def f_M_emergency (S : AS) (a0 : Option Nat) : Option (Int32 × AS) :=
  (gI S 39 62 a0).bind fun v19 =>
  if v19 = (-1 : Int32) then
  (gI S 39 60 a0).bind fun v20 =>
  if (20 : Int32) ≤ v20 then
  f_M_emergency_B23 S a0 a0 (0 : Int32)
  else
  f_M_emergency_B18 S a0 a0
  else
  f_M_emergency_B18 S a0 a0
def f_M_signing (S : AS) (a0 : Option Nat) : Option (Int32 × AS) :=
  (pI S 39 82 a0 (0 : Int32)).bind fun S1 =>
  (gI S1 39 61 a0).bind fun v2 =>
  some (v2, S1)
def f_M_isOpenKey_B40 (S : AS) : Option (Int32 × AS) :=
  some ((1 : Int32), S)
def f_M_isOpenKey (S : AS) (a0 : Option Nat) (a1 : Int32) : Option (Int32 × AS) :=
  (gI S 39 60 a0).bind fun v1 =>
  if v1 ≤ a1 then
  some ((0 : Int32), S)
  else
  (gR S 39 64 a0).bind fun v2 =>
  (aI S 47 v2 a1).bind fun v3 =>
  if v3 = 0 then
  (gR S 39 65 a0).bind fun v4 =>
  (aI S 46 v4 a1).bind fun v5 =>
  if v5 = (-1 : Int32) then
  f_M_isOpenKey_B40 S
  else
  (gI S 39 0 a0).bind fun v6 =>
  (gR S 39 65 a0).bind fun v7 =>
  (aI S 46 v7 a1).bind fun v8 =>
  if v8 ≤ v6 then
  some ((0 : Int32), S)
  else
  f_M_isOpenKey_B40 S
  else
  some ((0 : Int32), S)
def f_M_isPublished (S : AS) (a0 : Option Nat) (a1 : Int32) : Option (Int32 × AS) :=
  (gI S 39 60 a0).bind fun v1 =>
  kr_b2 (f_M_isIn S a1 (0 : Int32) (v1 - (1 : Int32))) fun v3 S2 =>
  (kr_rv S2 39 a0).bind fun u4 =>
  kr_b2 (f_M_may S2 a0 v3) fun v6 S5 =>
  if v6 = 0 then
  some ((0 : Int32), S5)
  else
  (kr_rv S5 39 a0).bind fun u7 =>
  kr_b2 (f_M_isOpenKey S5 a0 a1) fun v9 S8 =>
  if v9 = 0 then
  some ((0 : Int32), S8)
  else
  some ((1 : Int32), S8)
def f_M_line_B139 (k37 : AS → Option Nat → Int32 → Int32 → Int32 → Option (Int32 × AS)) (S : AS) (x0 : Option Nat) (x1 : Int32) (x3 : Int32) (y0 : Int32) (y1 : Int32) : Option (Int32 × AS) :=
  (some (y0 + y1)).bind fun i1 =>
  (some (x3 + (1 : Int32))).bind fun i2 =>
  k37 S x0 x1 i1 i2
def f_M_line_B127 (k37 : AS → Option Nat → Int32 → Int32 → Int32 → Option (Int32 × AS)) (S : AS) (x0 : Option Nat) (x1 : Int32) (x2 : Int32) (x3 : Int32) (x4 : Int32) (y0 : Option Nat) (y1 : Int32) (y2 : Int32) : Option (Int32 × AS) :=
  (bZ S y0 y1 y2 47).bind fun S3 =>
  if x4 = 0 then
  f_M_line_B139 k37 S3 x0 x1 x3 x2 (0 : Int32)
  else
  f_M_line_B139 k37 S3 x0 x1 x3 x2 (1 : Int32)
def f_M_line_B122 (k37 : AS → Option Nat → Int32 → Int32 → Int32 → Option (Int32 × AS)) (S : AS) (x0 : Option Nat) (x1 : Int32) (x2 : Int32) (x3 : Int32) (x4 : Int32) (y0 : Option Nat) (y1 : Int32) : Option (Int32 × AS) :=
  f_M_line_B127 k37 S x0 x1 x2 x3 x4 y0 y1 (1 : Int32)
def f_M_line_B91 (k37 : AS → Option Nat → Int32 → Int32 → Int32 → Option (Int32 × AS)) (S : AS) (x0 : Option Nat) (x1 : Int32) (x2 : Int32) (x3 : Int32) (y0 : Int32) : Option (Int32 × AS) :=
  (gR S 39 69 x0).bind fun v4 =>
  (gR S 39 69 x0).bind fun v5 =>
  (aI S 47 v5 (((60 : Int32) * x1) + x3)).bind fun v6 =>
  if v6 = 0 then
  if y0 = 0 then
  f_M_line_B127 k37 S x0 x1 x2 x3 y0 v4 (((60 : Int32) * x1) + x3) (0 : Int32)
  else
  f_M_line_B122 k37 S x0 x1 x2 x3 y0 v4 (((60 : Int32) * x1) + x3)
  else
  f_M_line_B122 k37 S x0 x1 x2 x3 y0 v4 (((60 : Int32) * x1) + x3)
def f_M_line_B90 (k37 : AS → Option Nat → Int32 → Int32 → Int32 → Option (Int32 × AS)) (S : AS) (x0 : Option Nat) (x1 : Int32) (x2 : Int32) (x3 : Int32) : Option (Int32 × AS) :=
  f_M_line_B91 k37 S x0 x1 x2 x3 (0 : Int32)
def f_M_line_C37 (k37 : AS → Option Nat → Int32 → Int32 → Int32 → Option (Int32 × AS)) (S : AS) (x0 : Option Nat) (x1 : Int32) (x2 : Int32) (x3 : Int32) : Option (Int32 × AS) :=
  (gI S 39 46 x0).bind fun v7 =>
  if v7 ≤ x3 then
  some (x2, S)
  else
  (gR S 39 66 x0).bind fun v8 =>
  (aI S 47 v8 x1).bind fun v9 =>
  if v9 = 0 then
  (gR S 39 51 x0).bind fun v10 =>
  (aI S 47 v10 x3).bind fun v11 =>
  if v11 = 0 then
  (gR S 39 69 x0).bind fun v12 =>
  (aI S 47 v12 (((60 : Int32) * x1) + x3)).bind fun v13 =>
  if v13 = 0 then
  (kr_rv S 39 x0).bind fun u14 =>
  kr_b2 (f_M_hears S x0 x1 x3) fun v16 S15 =>
  if v16 = 0 then
  f_M_line_B90 k37 S15 x0 x1 x2 x3
  else
  f_M_line_B91 k37 S15 x0 x1 x2 x3 (1 : Int32)
  else
  f_M_line_B90 k37 S x0 x1 x2 x3
  else
  f_M_line_B90 k37 S x0 x1 x2 x3
  else
  some (x2, S)
def f_M_line_L37 : Nat → AS → Option Nat → Int32 → Int32 → Int32 → Option (Int32 × AS)
  | 0, S, x0, x1, x2, x3 => none
  | n + 1, S, x0, x1, x2, x3 => f_M_line_C37 (f_M_line_L37 n) S x0 x1 x2 x3
def f_M_line_B32 (S : AS) (x0 : Option Nat) (x1 : Int32) (y0 : Option Nat) (y1 : Int32) (y2 : Int32) : Option (Int32 × AS) :=
  (bZ S y0 y1 y2 47).bind fun S17 =>
  f_M_line_L37 kr_FU S17 x0 x1 (0 : Int32) (0 : Int32)
def f_M_line (S : AS) (a0 : Option Nat) (a1 : Int32) : Option (Int32 × AS) :=
  kr_b2 (f_M_isService S a1) fun v19 S18 =>
  (kr_rv S18 39 a0).bind fun u20 =>
  kr_b2 (f_M_may S18 a0 v19) fun v22 S21 =>
  if v22 = 0 then
  some ((0 : Int32), S21)
  else
  (gR S21 39 66 a0).bind fun v23 =>
  (gR S21 39 66 a0).bind fun v24 =>
  (aI S21 47 v24 a1).bind fun v25 =>
  if v25 = 0 then
  f_M_line_B32 S21 a0 a1 v23 a1 (1 : Int32)
  else
  f_M_line_B32 S21 a0 a1 v23 a1 (0 : Int32)
def f_M_check_B150 (k119 : AS → Option Nat → Int32 → Int32 → Int32 → Int32 → Option (Int32 × AS)) (S : AS) (x0 : Option Nat) (x1 : Int32) (x2 : Int32) (x3 : Int32) (x5 : Int32) (y0 : Option Nat) (y1 : Int32) (y2 : Int32) (y3 : Int32) : Option (Int32 × AS) :=
  (bI S y0 y1 (y2 ||| y3) 46).bind fun S1 =>
  (some (x5 + (1 : Int32))).bind fun i2 =>
  k119 S1 x0 x1 x2 x3 i2
def f_M_check_B168 (S : AS) (x0 : Option Nat) (x1 : Int32) (x2 : Int32) (x3 : Int32) : Option (Int32 × AS) :=
  (gR S 39 67 x0).bind fun v3 =>
  (aI S 46 v3 x1).bind fun v4 =>
  (gR S 39 58 x0).bind fun v5 =>
  (aI S 46 v5 x2).bind fun v6 =>
  if ((v4 >>> (v6 &&& 31)) &&& (1 : Int32)) = 0 then
  some ((3 : Int32), S)
  else
  (gR S 39 69 x0).bind fun v7 =>
  (gR S 39 57 x0).bind fun v8 =>
  (aI S 46 v8 x2).bind fun v9 =>
  (aI S 47 v7 (((60 : Int32) * x1) + v9)).bind fun v10 =>
  if v10 = 0 then
  (gR S 39 55 x0).bind fun v11 =>
  (aI S 46 v11 x2).bind fun v12 =>
  if ((v12 >>> (x3 &&& 31)) &&& (1 : Int32)) = 0 then
  some ((5 : Int32), S)
  else
  some ((0 : Int32), S)
  else
  some ((4 : Int32), S)
def f_M_check_C119 (k119 : AS → Option Nat → Int32 → Int32 → Int32 → Int32 → Option (Int32 × AS)) (S : AS) (x0 : Option Nat) (x1 : Int32) (x2 : Int32) (x3 : Int32) (x5 : Int32) : Option (Int32 × AS) :=
  if (20 : Int32) ≤ x5 then
  (gR S 39 68 x0).bind fun v13 =>
  (gI S 39 0 x0).bind fun v14 =>
  (bI S v13 x1 v14 46).bind fun S15 =>
  f_M_check_B168 S15 x0 x1 x2 x3
  else
  (gR S 39 67 x0).bind fun v16 =>
  (aI S 46 v16 x1).bind fun v17 =>
  (kr_rv S 39 x0).bind fun u18 =>
  kr_b2 (f_M_isOpenKey S x0 x5) fun v20 S19 =>
  if v20 = 0 then
  f_M_check_B150 k119 S19 x0 x1 x2 x3 x5 v16 x1 v17 (0 : Int32)
  else
  f_M_check_B150 k119 S19 x0 x1 x2 x3 x5 v16 x1 v17 ((1 : Int32) <<< (x5 &&& 31))
def f_M_check_L119 : Nat → AS → Option Nat → Int32 → Int32 → Int32 → Int32 → Option (Int32 × AS)
  | 0, S, x0, x1, x2, x3, x5 => none
  | n + 1, S, x0, x1, x2, x3, x5 => f_M_check_C119 (f_M_check_L119 n) S x0 x1 x2 x3 x5
def f_M_check_B109 (S : AS) (x0 : Option Nat) (x1 : Int32) (x2 : Int32) (x3 : Int32) : Option (Int32 × AS) :=
  (gR S 39 67 x0).bind fun v21 =>
  (bI S v21 x1 (0 : Int32) 46).bind fun S22 =>
  f_M_check_L119 kr_FU S22 x0 x1 x2 x3 (0 : Int32)
def f_M_check_B20 (S : AS) (x0 : Option Nat) (x1 : Int32) (x2 : Int32) (x3 : Int32) (y0 : Int32) : Option (Int32 × AS) :=
  kr_b2 (f_M_isIn S x3 (0 : Int32) (3 : Int32)) fun v24 S23 =>
  (kr_rv S23 39 x0).bind fun u25 =>
  kr_b2 (f_M_mayBoth S23 x0 y0 v24) fun v27 S26 =>
  if v27 = 0 then
  some ((0 : Int32), S26)
  else
  (gR S26 39 54 x0).bind fun v28 =>
  (aI S26 46 v28 x2).bind fun v29 =>
  if v29 = x1 then
  (gI S26 39 0 x0).bind fun v30 =>
  (gR S26 39 59 x0).bind fun v31 =>
  (aI S26 46 v31 x2).bind fun v32 =>
  if v30 ≤ v32 then
  (gR S26 39 66 x0).bind fun v33 =>
  (aI S26 47 v33 x1).bind fun v34 =>
  if v34 = 0 then
  (gI S26 39 0 x0).bind fun v35 =>
  (gR S26 39 68 x0).bind fun v36 =>
  (aI S26 46 v36 x1).bind fun v37 =>
  if (15 : Int32) < (v35 - v37) then
  f_M_check_B109 S26 x0 x1 x2 x3
  else
  (gR S26 39 67 x0).bind fun v38 =>
  (aI S26 46 v38 x1).bind fun v39 =>
  (gR S26 39 58 x0).bind fun v40 =>
  (aI S26 46 v40 x2).bind fun v41 =>
  if ((v39 >>> (v41 &&& 31)) &&& (1 : Int32)) = 0 then
  f_M_check_B109 S26 x0 x1 x2 x3
  else
  f_M_check_B168 S26 x0 x1 x2 x3
  else
  f_M_check_B168 S26 x0 x1 x2 x3
  else
  some ((2 : Int32), S26)
  else
  some ((1 : Int32), S26)
def f_M_check_B19 (S : AS) (x0 : Option Nat) (x1 : Int32) (x2 : Int32) (x3 : Int32) : Option (Int32 × AS) :=
  f_M_check_B20 S x0 x1 x2 x3 (0 : Int32)
def f_M_check (S : AS) (a0 : Option Nat) (a1 : Int32) (a2 : Int32) (a3 : Int32) : Option (Int32 × AS) :=
  kr_b2 (f_M_isService S a1) fun v43 S42 =>
  if v43 = 0 then
  f_M_check_B19 S42 a0 a1 a2 a3
  else
  (kr_rv S42 39 a0).bind fun u44 =>
  kr_b2 (f_M_isToken S42 a0 a2) fun v46 S45 =>
  if v46 = 0 then
  f_M_check_B19 S45 a0 a1 a2 a3
  else
  f_M_check_B20 S45 a0 a1 a2 a3 (1 : Int32)
def f_M_lag_B70 (S : AS) (x0 : Option Nat) (x1 : Int32) (y0 : Int32) : Option (Int32 × AS) :=
  if y0 = 0 then
  some ((0 : Int32), S)
  else
  (gR S 39 59 x0).bind fun v1 =>
  (aI S 46 v1 x1).bind fun v2 =>
  (gI S 39 0 x0).bind fun v3 =>
  some ((v2 - v3) + (1 : Int32), S)
def f_M_lag_B69 (S : AS) (x0 : Option Nat) (x1 : Int32) : Option (Int32 × AS) :=
  f_M_lag_B70 S x0 x1 (0 : Int32)
def f_M_lag (S : AS) (a0 : Option Nat) (a1 : Int32) : Option (Int32 × AS) :=
  (kr_rv S 39 a0).bind fun u4 =>
  kr_b2 (f_M_isToken S a0 a1) fun v6 S5 =>
  (kr_rv S5 39 a0).bind fun u7 =>
  kr_b2 (f_M_may S5 a0 v6) fun v9 S8 =>
  if v9 = 0 then
  some ((0 : Int32), S8)
  else
  (gR S8 39 51 a0).bind fun v10 =>
  (gR S8 39 57 a0).bind fun v11 =>
  (aI S8 46 v11 a1).bind fun v12 =>
  (aI S8 47 v10 v12).bind fun v13 =>
  if v13 = 0 then
  (gR S8 39 69 a0).bind fun v14 =>
  (gR S8 39 54 a0).bind fun v15 =>
  (aI S8 46 v15 a1).bind fun v16 =>
  (gR S8 39 57 a0).bind fun v17 =>
  (aI S8 46 v17 a1).bind fun v18 =>
  (aI S8 47 v14 (((60 : Int32) * v16) + v18)).bind fun v19 =>
  if v19 = 0 then
  (gI S8 39 0 a0).bind fun v20 =>
  (gR S8 39 59 a0).bind fun v21 =>
  (aI S8 46 v21 a1).bind fun v22 =>
  if v22 < v20 then
  f_M_lag_B69 S8 a0 a1
  else
  f_M_lag_B70 S8 a0 a1 (1 : Int32)
  else
  f_M_lag_B69 S8 a0 a1
  else
  f_M_lag_B69 S8 a0 a1
def f_M_recover_B75 (k36 : AS → Option Nat → Int32 → Int32 → Int32 → Int32 → Option (Int32 × AS)) (S : AS) (x0 : Option Nat) (x1 : Int32) (x2 : Int32) (x4 : Int32) (y0 : Int32) : Option (Int32 × AS) :=
  (some (x4 + (1 : Int32))).bind fun i1 =>
  k36 S x0 x1 x2 y0 i1
def f_M_recover_B70 (k36 : AS → Option Nat → Int32 → Int32 → Int32 → Int32 → Option (Int32 × AS)) (S : AS) (x0 : Option Nat) (x1 : Int32) (x2 : Int32) (x4 : Int32) : Option (Int32 × AS) :=
  f_M_recover_B75 k36 S x0 x1 x2 x4 (1 : Int32)
def f_M_recover_B74 (k36 : AS → Option Nat → Int32 → Int32 → Int32 → Int32 → Option (Int32 × AS)) (S : AS) (x0 : Option Nat) (x1 : Int32) (x2 : Int32) (x4 : Int32) : Option (Int32 × AS) :=
  f_M_recover_B75 k36 S x0 x1 x2 x4 (0 : Int32)
def f_M_recover_C36 (k36 : AS → Option Nat → Int32 → Int32 → Int32 → Int32 → Option (Int32 × AS)) (S : AS) (x0 : Option Nat) (x1 : Int32) (x2 : Int32) (x3 : Int32) (x4 : Int32) : Option (Int32 × AS) :=
  (gI S 39 70 x0).bind fun v2 =>
  if v2 ≤ x4 then
  (kr_rv S 39 x0).bind fun u3 =>
  kr_b2 (f_M_mayBoth S x0 x2 x3) fun v5 S4 =>
  if v5 = 0 then
  some ((0 : Int32), S4)
  else
  (gR S4 39 71 x0).bind fun v6 =>
  (gI S4 39 70 x0).bind fun v7 =>
  (bI S4 v6 v7 x1 46).bind fun S8 =>
  (gR S8 39 72 x0).bind fun v9 =>
  (gI S8 39 70 x0).bind fun v10 =>
  (gI S8 39 0 x0).bind fun v11 =>
  (bI S8 v9 v10 v11 46).bind fun S12 =>
  (gR S12 39 73 x0).bind fun v13 =>
  (gI S12 39 70 x0).bind fun v14 =>
  (bZ S12 v13 v14 (1 : Int32) 47).bind fun S15 =>
  (gI S15 39 70 x0).bind fun v16 =>
  (pI S15 39 70 x0 (v16 + (1 : Int32))).bind fun S17 =>
  (gI S17 39 70 x0).bind fun v18 =>
  some (v18 - (1 : Int32), S17)
  else
  if x3 = 0 then
  f_M_recover_B74 k36 S x0 x1 x2 x4
  else
  (gR S 39 73 x0).bind fun v19 =>
  (aI S 47 v19 x4).bind fun v20 =>
  if v20 = 0 then
  f_M_recover_B70 k36 S x0 x1 x2 x4
  else
  (gR S 39 71 x0).bind fun v21 =>
  (aI S 46 v21 x4).bind fun v22 =>
  if v22 = x1 then
  f_M_recover_B74 k36 S x0 x1 x2 x4
  else
  f_M_recover_B70 k36 S x0 x1 x2 x4
def f_M_recover_L36 : Nat → AS → Option Nat → Int32 → Int32 → Int32 → Int32 → Option (Int32 × AS)
  | 0, S, x0, x1, x2, x3, x4 => none
  | n + 1, S, x0, x1, x2, x3, x4 => f_M_recover_C36 (f_M_recover_L36 n) S x0 x1 x2 x3 x4
def f_M_recover_B32 (S : AS) (x0 : Option Nat) (x1 : Int32) (x2 : Int32) (y0 : Int32) : Option (Int32 × AS) :=
  f_M_recover_L36 kr_FU S x0 x1 x2 y0 (0 : Int32)
def f_M_recover_B31 (S : AS) (x0 : Option Nat) (x1 : Int32) (x2 : Int32) : Option (Int32 × AS) :=
  f_M_recover_B32 S x0 x1 x2 (0 : Int32)
def f_M_recover (S : AS) (a0 : Option Nat) (a1 : Int32) : Option (Int32 × AS) :=
  kr_b2 (f_M_isSix S a1) fun v24 S23 =>
  if v24 = 0 then
  f_M_recover_B31 S23 a0 a1 v24
  else
  (gR S23 39 7 a0).bind fun v25 =>
  (aI S23 47 v25 a1).bind fun v26 =>
  if v26 = 0 then
  (gI S23 39 70 a0).bind fun v27 =>
  if (20 : Int32) ≤ v27 then
  f_M_recover_B31 S23 a0 a1 v24
  else
  f_M_recover_B32 S23 a0 a1 v24 (1 : Int32)
  else
  f_M_recover_B31 S23 a0 a1 v24
def f_M_isRecovery (S : AS) (a0 : Option Nat) (a1 : Int32) : Option (Int32 × AS) :=
  (gI S 39 70 a0).bind fun v1 =>
  kr_b2 (f_M_isIn S a1 (0 : Int32) (v1 - (1 : Int32))) fun v3 S2 =>
  (kr_z v3).bind fun u4 =>
  some (v3, S2)
def f_M_speaks (S : AS) (a0 : Option Nat) (a1 : Int32) : Option (Int32 × AS) :=
  (gR S 39 35 a0).bind fun v1 =>
  (aI S 47 v1 a1).bind fun v2 =>
  if v2 = 0 then
  some ((0 : Int32), S)
  else
  (gR S 39 34 a0).bind fun v3 =>
  (aI S 46 v3 a1).bind fun v4 =>
  if v4 = (-1 : Int32) then
  some ((1 : Int32), S)
  else
  some ((0 : Int32), S)
def f_M_vouch_B104 (S : AS) (x0 : Option Nat) (x1 : Int32) (x2 : Int32) (y0 : Option Nat) (y1 : Int32) (y2 : Int32) : Option (Int32 × AS) :=
  (kr_rv S 39 y0).bind fun u1 =>
  kr_b2 (f_M_mayBoth S y0 y1 y2) fun v3 S2 =>
  if v3 = 0 then
  some ((0 : Int32), S2)
  else
  (gR S2 39 74 x0).bind fun v4 =>
  (aI S2 46 v4 x1).bind fun v5 =>
  (gR S2 39 31 x0).bind fun v6 =>
  (aI S2 46 v6 x2).bind fun v7 =>
  (bI S2 v4 x1 (v5 ||| ((1 : Int32) <<< (v7 &&& 31))) 46).bind fun S8 =>
  (gR S8 39 75 x0).bind fun v9 =>
  (aI S8 46 v9 x1).bind fun v10 =>
  (kr_rv S8 39 x0).bind fun u11 =>
  kr_b2 (f_M_levelNow S8 x0 x2) fun v13 S12 =>
  (bI S12 v9 x1 (v10 + v13) 46).bind fun S14 =>
  (gR S14 39 75 x0).bind fun v15 =>
  (aI S14 46 v15 x1).bind fun v16 =>
  some (v16, S14)
def f_M_vouch_B103 (S : AS) (x0 : Option Nat) (x1 : Int32) (x2 : Int32) (y0 : Option Nat) (y1 : Int32) : Option (Int32 × AS) :=
  f_M_vouch_B104 S x0 x1 x2 y0 y1 (0 : Int32)
def f_M_vouch_B72 (S : AS) (x0 : Option Nat) (x1 : Int32) (x2 : Int32) (x3 : Int32) (y0 : Int32) : Option (Int32 × AS) :=
  if y0 = 0 then
  f_M_vouch_B103 S x0 x1 x2 x0 x3
  else
  (gR S 39 74 x0).bind fun v17 =>
  (aI S 46 v17 x1).bind fun v18 =>
  (gR S 39 31 x0).bind fun v19 =>
  (aI S 46 v19 x2).bind fun v20 =>
  if ((v18 >>> (v20 &&& 31)) &&& (1 : Int32)) = 0 then
  f_M_vouch_B104 S x0 x1 x2 x0 x3 (1 : Int32)
  else
  f_M_vouch_B103 S x0 x1 x2 x0 x3
def f_M_vouch_B71 (S : AS) (x0 : Option Nat) (x1 : Int32) (x2 : Int32) (x3 : Int32) : Option (Int32 × AS) :=
  f_M_vouch_B72 S x0 x1 x2 x3 (0 : Int32)
def f_M_vouch_B21 (S : AS) (x0 : Option Nat) (x1 : Int32) (x2 : Int32) (y0 : Int32) : Option (Int32 × AS) :=
  if y0 = 0 then
  f_M_vouch_B71 S x0 x1 x2 y0
  else
  (gR S 39 73 x0).bind fun v21 =>
  (aI S 47 v21 x1).bind fun v22 =>
  if v22 = 0 then
  f_M_vouch_B71 S x0 x1 x2 y0
  else
  (kr_rv S 39 x0).bind fun u23 =>
  kr_b2 (f_M_speaks S x0 x2) fun v25 S24 =>
  if v25 = 0 then
  f_M_vouch_B71 S24 x0 x1 x2 y0
  else
  (kr_rv S24 39 x0).bind fun u26 =>
  kr_b2 (f_M_levelNow S24 x0 x2) fun v28 S27 =>
  if v28 < (3 : Int32) then
  f_M_vouch_B71 S27 x0 x1 x2 y0
  else
  (gR S27 39 31 x0).bind fun v29 =>
  (aI S27 46 v29 x2).bind fun v30 =>
  (gR S27 39 71 x0).bind fun v31 =>
  (aI S27 46 v31 x1).bind fun v32 =>
  if v30 = v32 then
  f_M_vouch_B71 S27 x0 x1 x2 y0
  else
  f_M_vouch_B72 S27 x0 x1 x2 y0 (1 : Int32)
def f_M_vouch_B20 (S : AS) (x0 : Option Nat) (x1 : Int32) (x2 : Int32) : Option (Int32 × AS) :=
  f_M_vouch_B21 S x0 x1 x2 (0 : Int32)
def f_M_vouch (S : AS) (a0 : Option Nat) (a1 : Int32) (a2 : Int32) : Option (Int32 × AS) :=
  (kr_rv S 39 a0).bind fun u33 =>
  kr_b2 (f_M_isRecovery S a0 a1) fun v35 S34 =>
  if v35 = 0 then
  f_M_vouch_B20 S34 a0 a1 a2
  else
  (kr_rv S34 39 a0).bind fun u36 =>
  kr_b2 (f_M_isSession S34 a0 a2) fun v38 S37 =>
  if v38 = 0 then
  f_M_vouch_B20 S37 a0 a1 a2
  else
  f_M_vouch_B21 S37 a0 a1 a2 (1 : Int32)
def f_M_many_C4 (k4 : AS → Int32 → Int32 → Int32 → Option (Int32 × AS)) (S : AS) (x0 : Int32) (x1 : Int32) (x2 : Int32) : Option (Int32 × AS) :=
  if (6 : Int32) ≤ x2 then
  some (x1, S)
  else
  (some (x1 + ((x0 >>> (x2 &&& 31)) &&& (1 : Int32)))).bind fun i1 =>
  (some (x2 + (1 : Int32))).bind fun i2 =>
  k4 S x0 i1 i2
def f_M_many_L4 : Nat → AS → Int32 → Int32 → Int32 → Option (Int32 × AS)
  | 0, S, x0, x1, x2 => none
  | n + 1, S, x0, x1, x2 => f_M_many_C4 (f_M_many_L4 n) S x0 x1 x2
def f_M_many (S : AS) (a0 : Int32) : Option (Int32 × AS) :=
  f_M_many_L4 kr_FU S a0 (0 : Int32) (0 : Int32)
def f_M_stop_B65 (S : AS) (x0 : Option Nat) (x1 : Int32) (y0 : Option Nat) (y1 : Int32) (y2 : Int32) : Option (Int32 × AS) :=
  (kr_rv S 39 y0).bind fun u1 =>
  kr_b2 (f_M_mayBoth S y0 y1 y2) fun v3 S2 =>
  if v3 = 0 then
  some ((0 : Int32), S2)
  else
  (gR S2 39 73 x0).bind fun v4 =>
  (bZ S2 v4 x1 (0 : Int32) 47).bind fun S5 =>
  (gR S5 39 74 x0).bind fun v6 =>
  (aI S5 46 v6 x1).bind fun v7 =>
  kr_b2 (f_M_many S5 v7) fun v9 S8 =>
  some (v9, S8)
def f_M_stop_B64 (S : AS) (x0 : Option Nat) (x1 : Int32) (y0 : Option Nat) (y1 : Int32) : Option (Int32 × AS) :=
  f_M_stop_B65 S x0 x1 y0 y1 (0 : Int32)
def f_M_stop_B21 (S : AS) (x0 : Option Nat) (x1 : Int32) (x2 : Int32) (y0 : Int32) : Option (Int32 × AS) :=
  if y0 = 0 then
  f_M_stop_B64 S x0 x1 x0 y0
  else
  (gR S 39 73 x0).bind fun v10 =>
  (aI S 47 v10 x1).bind fun v11 =>
  if v11 = 0 then
  f_M_stop_B64 S x0 x1 x0 y0
  else
  (kr_rv S 39 x0).bind fun u12 =>
  kr_b2 (f_M_speaks S x0 x2) fun v14 S13 =>
  if v14 = 0 then
  f_M_stop_B64 S13 x0 x1 x0 y0
  else
  (gR S13 39 31 x0).bind fun v15 =>
  (aI S13 46 v15 x2).bind fun v16 =>
  (gR S13 39 71 x0).bind fun v17 =>
  (aI S13 46 v17 x1).bind fun v18 =>
  if v16 = v18 then
  f_M_stop_B65 S13 x0 x1 x0 y0 (1 : Int32)
  else
  f_M_stop_B64 S13 x0 x1 x0 y0
def f_M_stop_B20 (S : AS) (x0 : Option Nat) (x1 : Int32) (x2 : Int32) : Option (Int32 × AS) :=
  f_M_stop_B21 S x0 x1 x2 (0 : Int32)
def f_M_stop (S : AS) (a0 : Option Nat) (a1 : Int32) (a2 : Int32) : Option (Int32 × AS) :=
  (kr_rv S 39 a0).bind fun u19 =>
  kr_b2 (f_M_isRecovery S a0 a1) fun v21 S20 =>
  if v21 = 0 then
  f_M_stop_B20 S20 a0 a1 a2
  else
  (kr_rv S20 39 a0).bind fun u22 =>
  kr_b2 (f_M_isSession S20 a0 a2) fun v24 S23 =>
  if v24 = 0 then
  f_M_stop_B20 S23 a0 a1 a2
  else
  f_M_stop_B21 S23 a0 a1 a2 (1 : Int32)
def f_M_weight (S : AS) (a0 : Int32) : Option (Int32 × AS) :=
  some (a0 + (1 : Int32), S)
def f_M_endAllOf_B41 (k4 : AS → Option Nat → Int32 → Int32 → Int32 → Option (Int32 × AS)) (S : AS) (x0 : Option Nat) (x1 : Int32) (x3 : Int32) (y0 : Int32) (y1 : Int32) : Option (Int32 × AS) :=
  (some (y0 + y1)).bind fun i1 =>
  (some (x3 + (1 : Int32))).bind fun i2 =>
  k4 S x0 x1 i1 i2
def f_M_endAllOf_B40 (k4 : AS → Option Nat → Int32 → Int32 → Int32 → Option (Int32 × AS)) (S : AS) (x0 : Option Nat) (x1 : Int32) (x3 : Int32) (y0 : Int32) : Option (Int32 × AS) :=
  f_M_endAllOf_B41 k4 S x0 x1 x3 y0 (0 : Int32)
def f_M_endAllOf_C4 (k4 : AS → Option Nat → Int32 → Int32 → Int32 → Option (Int32 × AS)) (S : AS) (x0 : Option Nat) (x1 : Int32) (x2 : Int32) (x3 : Int32) : Option (Int32 × AS) :=
  (gI S 39 30 x0).bind fun v3 =>
  if v3 ≤ x3 then
  some (x2, S)
  else
  (gR S 39 35 x0).bind fun v4 =>
  (aI S 47 v4 x3).bind fun v5 =>
  if v5 = 0 then
  f_M_endAllOf_B40 k4 S x0 x1 x3 x2
  else
  (gR S 39 31 x0).bind fun v6 =>
  (aI S 46 v6 x3).bind fun v7 =>
  if v7 = x1 then
  (kr_rv S 39 x0).bind fun u8 =>
  kr_b2 (f_M_endSession S x0 x3) fun v10 S9 =>
  f_M_endAllOf_B41 k4 S9 x0 x1 x3 x2 v10
  else
  f_M_endAllOf_B40 k4 S x0 x1 x3 x2
def f_M_endAllOf_L4 : Nat → AS → Option Nat → Int32 → Int32 → Int32 → Option (Int32 × AS)
  | 0, S, x0, x1, x2, x3 => none
  | n + 1, S, x0, x1, x2, x3 => f_M_endAllOf_C4 (f_M_endAllOf_L4 n) S x0 x1 x2 x3
def f_M_endAllOf (S : AS) (a0 : Option Nat) (a1 : Int32) : Option (Int32 × AS) :=
  f_M_endAllOf_L4 kr_FU S a0 a1 (0 : Int32) (0 : Int32)
def f_M_finish_B100 (k60 : AS → Option Nat → Int32 → Int32 → Int32 → Int32 → Int32 → Option (Int32 × AS)) (S : AS) (x0 : Option Nat) (x1 : Int32) (x2 : Int32) (x3 : Int32) (x5 : Int32) (y0 : Int32) (y1 : Int32) : Option (Int32 × AS) :=
  (some (y0 + y1)).bind fun i1 =>
  (some (x5 + (1 : Int32))).bind fun i2 =>
  k60 S x0 x1 x2 x3 i1 i2
def f_M_finish_C165 (k165 : AS → Option Nat → Int32 → Int32 → Int32 → Int32 → Option (Int32 × AS)) (S : AS) (x0 : Option Nat) (x1 : Int32) (x5 : Int32) (x6 : Int32) (x7 : Int32) : Option (Int32 × AS) :=
  if (3 : Int32) ≤ x7 then
  (kr_rv S 39 x0).bind fun u3 =>
  (f_M_ready S x0 x5 (0 : Int32)).bind fun S4 =>
  (kr_rv S4 39 x0).bind fun u5 =>
  (f_M_write S4 x0 (6 : Int32) x1).bind fun S6 =>
  some (x6, S6)
  else
  (gR S 39 1 x0).bind fun v7 =>
  (bI S v7 (((3 : Int32) * x5) + x7) (0 : Int32) 46).bind fun S8 =>
  (some (x7 + (1 : Int32))).bind fun i9 =>
  k165 S8 x0 x1 x5 x6 i9
def f_M_finish_L165 : Nat → AS → Option Nat → Int32 → Int32 → Int32 → Int32 → Option (Int32 × AS)
  | 0, S, x0, x1, x5, x6, x7 => none
  | n + 1, S, x0, x1, x5, x6, x7 => f_M_finish_C165 (f_M_finish_L165 n) S x0 x1 x5 x6 x7
def f_M_finish_B131 (S : AS) (x0 : Option Nat) (x1 : Int32) (y0 : Option Nat) (y1 : Int32) (y2 : Int32) : Option (Int32 × AS) :=
  (kr_rv S 39 y0).bind fun u10 =>
  kr_b2 (f_M_mayBoth S y0 y1 y2) fun v12 S11 =>
  if v12 = 0 then
  some ((0 : Int32), S11)
  else
  (gR S11 39 71 x0).bind fun v13 =>
  (aI S11 46 v13 x1).bind fun v14 =>
  (gR S11 39 73 x0).bind fun v15 =>
  (bZ S11 v15 x1 (0 : Int32) 47).bind fun S16 =>
  (kr_rv S16 39 x0).bind fun u17 =>
  kr_b2 (f_M_endAllOf S16 x0 v14) fun v19 S18 =>
  f_M_finish_L165 kr_FU S18 x0 x1 v14 v19 (0 : Int32)
def f_M_finish_B130 (S : AS) (x0 : Option Nat) (x1 : Int32) (y0 : Option Nat) (y1 : Int32) : Option (Int32 × AS) :=
  f_M_finish_B131 S x0 x1 y0 y1 (0 : Int32)
def f_M_finish_B109 (S : AS) (x0 : Option Nat) (x1 : Int32) (x2 : Int32) (x3 : Int32) (x4 : Int32) : Option (Int32 × AS) :=
  if x3 = 0 then
  f_M_finish_B130 S x0 x1 x0 x2
  else
  (gR S 39 75 x0).bind fun v20 =>
  (aI S 46 v20 x1).bind fun v21 =>
  if v21 < x4 then
  f_M_finish_B130 S x0 x1 x0 x2
  else
  f_M_finish_B131 S x0 x1 x0 x2 (1 : Int32)
def f_M_finish_C60 (k60 : AS → Option Nat → Int32 → Int32 → Int32 → Int32 → Int32 → Option (Int32 × AS)) (S : AS) (x0 : Option Nat) (x1 : Int32) (x2 : Int32) (x3 : Int32) (x4 : Int32) (x5 : Int32) : Option (Int32 × AS) :=
  if (3 : Int32) ≤ x5 then
  f_M_finish_B109 S x0 x1 x2 x3 x4
  else
  if x2 = 0 then
  f_M_finish_B109 S x0 x1 x2 x3 x4
  else
  (gR S 39 1 x0).bind fun v22 =>
  (gR S 39 71 x0).bind fun v23 =>
  (aI S 46 v23 x1).bind fun v24 =>
  (aI S 46 v22 (((3 : Int32) * v24) + x5)).bind fun v25 =>
  if v25 = 0 then
  f_M_finish_B100 k60 S x0 x1 x2 x3 x5 x4 (0 : Int32)
  else
  kr_b2 (f_M_weight S x5) fun v27 S26 =>
  f_M_finish_B100 k60 S26 x0 x1 x2 x3 x5 x4 v27
def f_M_finish_L60 : Nat → AS → Option Nat → Int32 → Int32 → Int32 → Int32 → Int32 → Option (Int32 × AS)
  | 0, S, x0, x1, x2, x3, x4, x5 => none
  | n + 1, S, x0, x1, x2, x3, x4, x5 => f_M_finish_C60 (f_M_finish_L60 n) S x0 x1 x2 x3 x4 x5
def f_M_finish_B53 (S : AS) (x0 : Option Nat) (x1 : Int32) (x2 : Int32) (y0 : Int32) : Option (Int32 × AS) :=
  f_M_finish_L60 kr_FU S x0 x1 x2 y0 (0 : Int32) (0 : Int32)
def f_M_finish_B52 (S : AS) (x0 : Option Nat) (x1 : Int32) (x2 : Int32) : Option (Int32 × AS) :=
  f_M_finish_B53 S x0 x1 x2 (0 : Int32)
def f_M_finish (S : AS) (a0 : Option Nat) (a1 : Int32) : Option (Int32 × AS) :=
  (kr_rv S 39 a0).bind fun u28 =>
  kr_b2 (f_M_isRecovery S a0 a1) fun v30 S29 =>
  if v30 = 0 then
  f_M_finish_B52 S29 a0 a1 v30
  else
  (gR S29 39 73 a0).bind fun v31 =>
  (aI S29 47 v31 a1).bind fun v32 =>
  if v32 = 0 then
  f_M_finish_B52 S29 a0 a1 v30
  else
  (gI S29 39 0 a0).bind fun v33 =>
  (gR S29 39 72 a0).bind fun v34 =>
  (aI S29 46 v34 a1).bind fun v35 =>
  if (v33 - v35) < (60 : Int32) then
  f_M_finish_B52 S29 a0 a1 v30
  else
  (gR S29 39 74 a0).bind fun v36 =>
  (aI S29 46 v36 a1).bind fun v37 =>
  kr_b2 (f_M_many S29 v37) fun v39 S38 =>
  if v39 < (2 : Int32) then
  f_M_finish_B52 S38 a0 a1 v30
  else
  f_M_finish_B53 S38 a0 a1 v30 (1 : Int32)
def f_M_link_B58 (S : AS) (x0 : Option Nat) (x1 : Int32) (x2 : Int32) (y0 : Option Nat) (y1 : Int32) (y2 : Int32) : Option (Int32 × AS) :=
  (kr_rv S 39 y0).bind fun u1 =>
  kr_b2 (f_M_mayBoth S y0 y1 y2) fun v3 S2 =>
  if v3 = 0 then
  some ((0 : Int32), S2)
  else
  (gR S2 39 76 x0).bind fun v4 =>
  (aI S2 46 v4 x1).bind fun v5 =>
  (gR S2 39 76 x0).bind fun v6 =>
  (bI S2 v6 x1 x2 46).bind fun S7 =>
  some (v5, S7)
def f_M_link_B53 (S : AS) (x0 : Option Nat) (x1 : Int32) (x2 : Int32) (y0 : Option Nat) (y1 : Int32) : Option (Int32 × AS) :=
  f_M_link_B58 S x0 x1 x2 y0 y1 (1 : Int32)
def f_M_link_B57 (S : AS) (x0 : Option Nat) (x1 : Int32) (x2 : Int32) (y0 : Option Nat) (y1 : Int32) : Option (Int32 × AS) :=
  f_M_link_B58 S x0 x1 x2 y0 y1 (0 : Int32)
def f_M_link_B21 (S : AS) (x0 : Option Nat) (x1 : Int32) (x2 : Int32) (y0 : Int32) : Option (Int32 × AS) :=
  if y0 = 0 then
  f_M_link_B57 S x0 x1 x2 x0 y0
  else
  if x2 = (-1 : Int32) then
  f_M_link_B53 S x0 x1 x2 x0 y0
  else
  (gR S 39 76 x0).bind fun v8 =>
  (aI S 46 v8 x1).bind fun v9 =>
  if v9 = (-1 : Int32) then
  f_M_link_B53 S x0 x1 x2 x0 y0
  else
  (gR S 39 76 x0).bind fun v10 =>
  (aI S 46 v10 x1).bind fun v11 =>
  if v11 = x2 then
  f_M_link_B53 S x0 x1 x2 x0 y0
  else
  f_M_link_B57 S x0 x1 x2 x0 y0
def f_M_link_B20 (S : AS) (x0 : Option Nat) (x1 : Int32) (x2 : Int32) : Option (Int32 × AS) :=
  f_M_link_B21 S x0 x1 x2 (0 : Int32)
def f_M_link (S : AS) (a0 : Option Nat) (a1 : Int32) (a2 : Int32) : Option (Int32 × AS) :=
  kr_b2 (f_M_isSix S a1) fun v13 S12 =>
  if v13 = 0 then
  f_M_link_B20 S12 a0 a1 a2
  else
  kr_b2 (f_M_isIn S12 a2 (-1 : Int32) (5 : Int32)) fun v15 S14 =>
  if v15 = 0 then
  f_M_link_B20 S14 a0 a1 a2
  else
  f_M_link_B21 S14 a0 a1 a2 (1 : Int32)
def f_M_foreign_B49 (S : AS) (x0 : Option Nat) (x1 : Int32) (y0 : Option Nat) (y1 : Int32) (y2 : Int32) : Option (Int32 × AS) :=
  (kr_rv S 39 y0).bind fun u1 =>
  kr_b2 (f_M_mayBoth S y0 y1 y2) fun v3 S2 =>
  if v3 = 0 then
  some ((0 : Int32), S2)
  else
  (gR S2 39 76 x0).bind fun v4 =>
  (aI S2 46 v4 x1).bind fun v5 =>
  (kr_rv S2 39 x0).bind fun u6 =>
  kr_b2 (f_M_newSession S2 x0 v5 (-1 : Int32)) fun v8 S7 =>
  some (v8, S7)
def f_M_foreign_B48 (S : AS) (x0 : Option Nat) (x1 : Int32) (y0 : Option Nat) (y1 : Int32) : Option (Int32 × AS) :=
  f_M_foreign_B49 S x0 x1 y0 y1 (0 : Int32)
def f_M_foreign (S : AS) (a0 : Option Nat) (a1 : Int32) : Option (Int32 × AS) :=
  kr_b2 (f_M_isSix S a1) fun v10 S9 =>
  if v10 = 0 then
  f_M_foreign_B48 S9 a0 a1 a0 v10
  else
  (gR S9 39 76 a0).bind fun v11 =>
  (aI S9 46 v11 a1).bind fun v12 =>
  if v12 = (-1 : Int32) then
  f_M_foreign_B48 S9 a0 a1 a0 v10
  else
  (gR S9 39 7 a0).bind fun v13 =>
  (gR S9 39 76 a0).bind fun v14 =>
  (aI S9 46 v14 a1).bind fun v15 =>
  (aI S9 47 v13 v15).bind fun v16 =>
  if v16 = 0 then
  (gI S9 39 30 a0).bind fun v17 =>
  if (60 : Int32) ≤ v17 then
  f_M_foreign_B48 S9 a0 a1 a0 v10
  else
  f_M_foreign_B49 S9 a0 a1 a0 v10 (1 : Int32)
  else
  f_M_foreign_B48 S9 a0 a1 a0 v10
def f_M_leave_B94 (k52 : AS → Option Nat → Int32 → Int32 → Int32 → Option (Int32 × AS)) (S : AS) (x0 : Option Nat) (x1 : Int32) (x2 : Int32) (x3 : Int32) (y0 : Option Nat) (y1 : Int32) (y2 : Int32) : Option (Int32 × AS) :=
  (bI S y0 y1 y2 46).bind fun S1 =>
  (some (x3 + (1 : Int32))).bind fun i2 =>
  k52 S1 x0 x1 x2 i2
def f_M_leave_B88 (k52 : AS → Option Nat → Int32 → Int32 → Int32 → Option (Int32 × AS)) (S : AS) (x0 : Option Nat) (x1 : Int32) (x2 : Int32) (x3 : Int32) (y0 : Option Nat) (y1 : Int32) : Option (Int32 × AS) :=
  (gR S 39 25 x0).bind fun v3 =>
  (aI S 46 v3 x3).bind fun v4 =>
  f_M_leave_B94 k52 S x0 x1 x2 x3 y0 y1 v4
def f_M_leave_B140 (k103 : AS → Option Nat → Int32 → Int32 → Int32 → Option (Int32 × AS)) (S : AS) (x0 : Option Nat) (x1 : Int32) (x2 : Int32) (x3 : Int32) (y0 : Option Nat) (y1 : Int32) (y2 : Int32) : Option (Int32 × AS) :=
  (bZ S y0 y1 y2 47).bind fun S5 =>
  (some (x3 + (1 : Int32))).bind fun i6 =>
  k103 S5 x0 x1 x2 i6
def f_M_leave_B139 (k103 : AS → Option Nat → Int32 → Int32 → Int32 → Option (Int32 × AS)) (S : AS) (x0 : Option Nat) (x1 : Int32) (x2 : Int32) (x3 : Int32) (y0 : Option Nat) (y1 : Int32) : Option (Int32 × AS) :=
  f_M_leave_B140 k103 S x0 x1 x2 x3 y0 y1 (0 : Int32)
def f_M_leave_C103 (k103 : AS → Option Nat → Int32 → Int32 → Int32 → Option (Int32 × AS)) (S : AS) (x0 : Option Nat) (x1 : Int32) (x2 : Int32) (x3 : Int32) : Option (Int32 × AS) :=
  (gI S 39 70 x0).bind fun v7 =>
  if v7 ≤ x3 then
  some (x2, S)
  else
  (gR S 39 73 x0).bind fun v8 =>
  (gR S 39 73 x0).bind fun v9 =>
  (aI S 47 v9 x3).bind fun v10 =>
  if v10 = 0 then
  f_M_leave_B139 k103 S x0 x1 x2 x3 v8 x3
  else
  (gR S 39 71 x0).bind fun v11 =>
  (aI S 46 v11 x3).bind fun v12 =>
  if v12 = x1 then
  f_M_leave_B139 k103 S x0 x1 x2 x3 v8 x3
  else
  f_M_leave_B140 k103 S x0 x1 x2 x3 v8 x3 (1 : Int32)
def f_M_leave_L103 : Nat → AS → Option Nat → Int32 → Int32 → Int32 → Option (Int32 × AS)
  | 0, S, x0, x1, x2, x3 => none
  | n + 1, S, x0, x1, x2, x3 => f_M_leave_C103 (f_M_leave_L103 n) S x0 x1 x2 x3
def f_M_leave_C52 (k52 : AS → Option Nat → Int32 → Int32 → Int32 → Option (Int32 × AS)) (S : AS) (x0 : Option Nat) (x1 : Int32) (x2 : Int32) (x3 : Int32) : Option (Int32 × AS) :=
  (gI S 39 19 x0).bind fun v13 =>
  if v13 ≤ x3 then
  f_M_leave_L103 kr_FU S x0 x1 x2 (0 : Int32)
  else
  (gR S 39 25 x0).bind fun v14 =>
  (gR S 39 20 x0).bind fun v15 =>
  (aI S 46 v15 x3).bind fun v16 =>
  if v16 = x1 then
  (gR S 39 25 x0).bind fun v17 =>
  (aI S 46 v17 x3).bind fun v18 =>
  if v18 = 0 then
  f_M_leave_B94 k52 S x0 x1 x2 x3 v14 x3 (2 : Int32)
  else
  f_M_leave_B88 k52 S x0 x1 x2 x3 v14 x3
  else
  f_M_leave_B88 k52 S x0 x1 x2 x3 v14 x3
def f_M_leave_L52 : Nat → AS → Option Nat → Int32 → Int32 → Int32 → Option (Int32 × AS)
  | 0, S, x0, x1, x2, x3 => none
  | n + 1, S, x0, x1, x2, x3 => f_M_leave_C52 (f_M_leave_L52 n) S x0 x1 x2 x3
def f_M_leave_B32 (S : AS) (x0 : Option Nat) (x1 : Int32) (y0 : Option Nat) (y1 : Int32) (y2 : Int32) : Option (Int32 × AS) :=
  (bZ S y0 y1 y2 47).bind fun S19 =>
  (gR S19 39 7 x0).bind fun v20 =>
  (aI S19 47 v20 x1).bind fun v21 =>
  if v21 = 0 then
  some ((-1 : Int32), S19)
  else
  (kr_rv S19 39 x0).bind fun u22 =>
  kr_b2 (f_M_endAllOf S19 x0 x1) fun v24 S23 =>
  f_M_leave_L52 kr_FU S23 x0 x1 v24 (0 : Int32)
def f_M_leave (S : AS) (a0 : Option Nat) (a1 : Int32) : Option (Int32 × AS) :=
  kr_b2 (f_M_isSix S a1) fun v26 S25 =>
  (kr_rv S25 39 a0).bind fun u27 =>
  kr_b2 (f_M_may S25 a0 v26) fun v29 S28 =>
  if v29 = 0 then
  some ((0 : Int32), S28)
  else
  (gR S28 39 7 a0).bind fun v30 =>
  (gR S28 39 7 a0).bind fun v31 =>
  (aI S28 47 v31 a1).bind fun v32 =>
  if v32 = 0 then
  f_M_leave_B32 S28 a0 a1 v30 a1 (1 : Int32)
  else
  f_M_leave_B32 S28 a0 a1 v30 a1 (0 : Int32)
def f_M_audits (S : AS) (a0 : Option Nat) : Option (Int32 × AS) :=
  (pI S 39 82 a0 (0 : Int32)).bind fun S1 =>
  (gI S1 39 77 a0).bind fun v2 =>
  some (v2, S1)
def f_M_audit (S : AS) (a0 : Option Nat) (a1 : Int32) : Option (Int32 × AS) :=
  (gI S 39 77 a0).bind fun v1 =>
  kr_b2 (f_M_isIn S a1 (0 : Int32) (v1 - (1 : Int32))) fun v3 S2 =>
  (kr_rv S2 39 a0).bind fun u4 =>
  kr_b2 (f_M_may S2 a0 v3) fun v6 S5 =>
  if v6 = 0 then
  some ((0 : Int32), S5)
  else
  (gR S5 39 78 a0).bind fun v7 =>
  (aI S5 46 v7 a1).bind fun v8 =>
  (gR S5 39 79 a0).bind fun v9 =>
  (aI S5 46 v9 a1).bind fun v10 =>
  some (((1000 : Int32) * v8) + v10, S5)
def f_M_sum (S : AS) (a0 : Option Nat) : Option (Int32 × AS) :=
  (pI S 39 82 a0 (0 : Int32)).bind fun S1 =>
  (gI S1 39 81 a0).bind fun v2 =>
  some (v2, S1)
def f_M_sumAnew_C23 (k23 : AS → Option Nat → Int32 → Int32 → Int32 → Option (Int32 × AS)) (S : AS) (x0 : Option Nat) (x1 : Int32) (x2 : Int32) (x3 : Int32) : Option (Int32 × AS) :=
  if x1 ≤ x3 then
  some (x2, S)
  else
  (gR S 39 78 x0).bind fun v1 =>
  (aI S 46 v1 x3).bind fun v2 =>
  (gR S 39 79 x0).bind fun v3 =>
  (aI S 46 v3 x3).bind fun v4 =>
  (gR S 39 80 x0).bind fun v5 =>
  (aI S 46 v5 x3).bind fun v6 =>
  (some (((((31 : Int32) * x2) + ((100 : Int32) * v2)) + v4) + v6)).bind fun i7 =>
  (some (i7 - i7 / (65521 : Int32) * (65521 : Int32))).bind fun i8 =>
  (some (x3 + (1 : Int32))).bind fun i9 =>
  k23 S x0 x1 i8 i9
def f_M_sumAnew_L23 : Nat → AS → Option Nat → Int32 → Int32 → Int32 → Option (Int32 × AS)
  | 0, S, x0, x1, x2, x3 => none
  | n + 1, S, x0, x1, x2, x3 => f_M_sumAnew_C23 (f_M_sumAnew_L23 n) S x0 x1 x2 x3
def f_M_sumAnew (S : AS) (a0 : Option Nat) (a1 : Int32) : Option (Int32 × AS) :=
  (gI S 39 77 a0).bind fun v10 =>
  kr_b2 (f_M_isIn S a1 (0 : Int32) v10) fun v12 S11 =>
  (kr_rv S11 39 a0).bind fun u13 =>
  kr_b2 (f_M_may S11 a0 v12) fun v15 S14 =>
  if v15 = 0 then
  some ((0 : Int32), S14)
  else
  f_M_sumAnew_L23 kr_FU S14 a0 a1 (7 : Int32) (0 : Int32)
