/-! KeyringCourtLaw.law([I)Z -/
def f_W_law_B3320 (X : Nat → Int32) (L : Nat) (k23 : AS → Option Nat → Option Nat → Option Nat → Int32 → Option (Int32 × AS)) (S : AS) (x1 : Option Nat) (x2 : Option Nat) (x3 : Option Nat) (x4 : Int32) : Option (Int32 × AS) :=
  (some (x4 + (6 : Int32))).bind fun i1 =>
  k23 S x1 x2 x3 i1
def f_W_law_B260 (X : Nat → Int32) (L : Nat) (k23 : AS → Option Nat → Option Nat → Option Nat → Int32 → Option (Int32 × AS)) (S : AS) (x1 : Option Nat) (x2 : Option Nat) (x3 : Option Nat) (x4 : Int32) : Option (Int32 × AS) :=
  (kr_sx X L (x4 + (1 : Int32))).bind fun v2 =>
  kr_b2 (f_W_pass S x1 v2 x3) fun v4 S3 =>
  (kr_sx X L (x4 + (1 : Int32))).bind fun v5 =>
  (kr_rv S3 23 x2).bind fun u6 =>
  kr_b2 (f_M_pass S3 x2 v5) fun v8 S7 =>
  (kr_rv S7 23 x2).bind fun u9 =>
  kr_b2 (f_M_thrown S7 x2) fun v11 S10 =>
  if v11 = v4 then
  if v4 = 0 then
  (aJ S10 x3 (0 : Int32)).bind fun v12 =>
  if (lg_cmp v12 v8.toInt64) = 0 then
  f_W_law_B3320 X L k23 S10 x1 x2 x3 x4
  else
  some ((0 : Int32), S10)
  else
  f_W_law_B3320 X L k23 S10 x1 x2 x3 x4
  else
  some ((0 : Int32), S10)
def f_W_law_B316 (X : Nat → Int32) (L : Nat) (k23 : AS → Option Nat → Option Nat → Option Nat → Int32 → Option (Int32 × AS)) (S : AS) (x1 : Option Nat) (x2 : Option Nat) (x3 : Option Nat) (x4 : Int32) : Option (Int32 × AS) :=
  (kr_sx X L (x4 + (1 : Int32))).bind fun v13 =>
  (kr_sx X L (x4 + (2 : Int32))).bind fun v14 =>
  kr_b2 (f_W_enroll S x1 v13 v14 x3) fun v16 S15 =>
  (kr_sx X L (x4 + (1 : Int32))).bind fun v17 =>
  (kr_sx X L (x4 + (2 : Int32))).bind fun v18 =>
  (kr_rv S15 23 x2).bind fun u19 =>
  kr_b2 (f_M_enroll S15 x2 v17 v18) fun v21 S20 =>
  (kr_rv S20 23 x2).bind fun u22 =>
  kr_b2 (f_M_thrown S20 x2) fun v24 S23 =>
  if v24 = v16 then
  if v16 = 0 then
  (aJ S23 x3 (0 : Int32)).bind fun v25 =>
  if (lg_cmp v25 v21.toInt64) = 0 then
  f_W_law_B3320 X L k23 S23 x1 x2 x3 x4
  else
  some ((0 : Int32), S23)
  else
  f_W_law_B3320 X L k23 S23 x1 x2 x3 x4
  else
  some ((0 : Int32), S23)
def f_W_law_B384 (X : Nat → Int32) (L : Nat) (k23 : AS → Option Nat → Option Nat → Option Nat → Int32 → Option (Int32 × AS)) (S : AS) (x1 : Option Nat) (x2 : Option Nat) (x3 : Option Nat) (x4 : Int32) : Option (Int32 × AS) :=
  (kr_sx X L (x4 + (1 : Int32))).bind fun v26 =>
  (kr_sx X L (x4 + (2 : Int32))).bind fun v27 =>
  kr_b2 (f_W_factor S x1 v26 v27 x3) fun v29 S28 =>
  (kr_sx X L (x4 + (1 : Int32))).bind fun v30 =>
  (kr_sx X L (x4 + (2 : Int32))).bind fun v31 =>
  (kr_rv S28 23 x2).bind fun u32 =>
  kr_b2 (f_M_factor S28 x2 v30 v31) fun v34 S33 =>
  (kr_rv S33 23 x2).bind fun u35 =>
  kr_b2 (f_M_thrown S33 x2) fun v37 S36 =>
  if v37 = v29 then
  if v29 = 0 then
  (aJ S36 x3 (0 : Int32)).bind fun v38 =>
  if (lg_cmp v38 v34.toInt64) = 0 then
  f_W_law_B3320 X L k23 S36 x1 x2 x3 x4
  else
  some ((0 : Int32), S36)
  else
  f_W_law_B3320 X L k23 S36 x1 x2 x3 x4
  else
  some ((0 : Int32), S36)
def f_W_law_B452 (X : Nat → Int32) (L : Nat) (k23 : AS → Option Nat → Option Nat → Option Nat → Int32 → Option (Int32 × AS)) (S : AS) (x1 : Option Nat) (x2 : Option Nat) (x3 : Option Nat) (x4 : Int32) : Option (Int32 × AS) :=
  (kr_sx X L (x4 + (1 : Int32))).bind fun v39 =>
  (kr_sx X L (x4 + (2 : Int32))).bind fun v40 =>
  (kr_sx X L (x4 + (3 : Int32))).bind fun v41 =>
  (kr_sx X L (x4 + (4 : Int32))).bind fun v42 =>
  (kr_sx X L (x4 + (5 : Int32))).bind fun v43 =>
  kr_b2 (f_W_step S x1 v39 v40 v41 v42 v43 x3) fun v45 S44 =>
  (kr_sx X L (x4 + (1 : Int32))).bind fun v46 =>
  (kr_sx X L (x4 + (2 : Int32))).bind fun v47 =>
  (kr_sx X L (x4 + (3 : Int32))).bind fun v48 =>
  (kr_sx X L (x4 + (4 : Int32))).bind fun v49 =>
  (kr_sx X L (x4 + (5 : Int32))).bind fun v50 =>
  (kr_rv S44 23 x2).bind fun u51 =>
  kr_b2 (f_M_step S44 x2 v46 v47 v48 v49 v50) fun v53 S52 =>
  (kr_rv S52 23 x2).bind fun u54 =>
  kr_b2 (f_M_thrown S52 x2) fun v56 S55 =>
  if v56 = v45 then
  if v45 = 0 then
  (aJ S55 x3 (0 : Int32)).bind fun v57 =>
  if (lg_cmp v57 v53.toInt64) = 0 then
  f_W_law_B3320 X L k23 S55 x1 x2 x3 x4
  else
  some ((0 : Int32), S55)
  else
  f_W_law_B3320 X L k23 S55 x1 x2 x3 x4
  else
  some ((0 : Int32), S55)
def f_W_law_B556 (X : Nat → Int32) (L : Nat) (k23 : AS → Option Nat → Option Nat → Option Nat → Int32 → Option (Int32 × AS)) (S : AS) (x1 : Option Nat) (x2 : Option Nat) (x3 : Option Nat) (x4 : Int32) : Option (Int32 × AS) :=
  (kr_rv S 22 x1).bind fun u58 =>
  kr_b2 (f_K_clear S x1) fun v60 S59 =>
  (kr_rv S59 23 x2).bind fun u61 =>
  kr_b2 (f_M_clear S59 x2) fun v63 S62 =>
  if v60 = v63 then
  f_W_law_B3320 X L k23 S62 x1 x2 x3 x4
  else
  some ((0 : Int32), S62)
def f_W_law_B569 (X : Nat → Int32) (L : Nat) (k23 : AS → Option Nat → Option Nat → Option Nat → Int32 → Option (Int32 × AS)) (S : AS) (x1 : Option Nat) (x2 : Option Nat) (x3 : Option Nat) (x4 : Int32) : Option (Int32 × AS) :=
  kr_b2 (f_W_publish S x1 x3) fun v65 S64 =>
  (kr_rv S64 23 x2).bind fun u66 =>
  kr_b2 (f_M_publish S64 x2) fun v68 S67 =>
  (kr_rv S67 23 x2).bind fun u69 =>
  kr_b2 (f_M_thrown S67 x2) fun v71 S70 =>
  if v71 = v65 then
  if v65 = 0 then
  (aJ S70 x3 (0 : Int32)).bind fun v72 =>
  if (lg_cmp v72 v68.toInt64) = 0 then
  f_W_law_B3320 X L k23 S70 x1 x2 x3 x4
  else
  some ((0 : Int32), S70)
  else
  f_W_law_B3320 X L k23 S70 x1 x2 x3 x4
  else
  some ((0 : Int32), S70)
def f_W_law_B613 (X : Nat → Int32) (L : Nat) (k23 : AS → Option Nat → Option Nat → Option Nat → Int32 → Option (Int32 × AS)) (S : AS) (x1 : Option Nat) (x2 : Option Nat) (x3 : Option Nat) (x4 : Int32) : Option (Int32 × AS) :=
  (kr_sx X L (x4 + (1 : Int32))).bind fun v73 =>
  kr_b2 (f_W_weakest S x1 v73 x3) fun v75 S74 =>
  (kr_sx X L (x4 + (1 : Int32))).bind fun v76 =>
  (kr_rv S74 23 x2).bind fun u77 =>
  kr_b2 (f_M_weakest S74 x2 v76) fun v79 S78 =>
  (kr_rv S78 23 x2).bind fun u80 =>
  kr_b2 (f_M_thrown S78 x2) fun v82 S81 =>
  if v82 = v75 then
  if v75 = 0 then
  (aJ S81 x3 (0 : Int32)).bind fun v83 =>
  if (lg_cmp v83 v79.toInt64) = 0 then
  f_W_law_B3320 X L k23 S81 x1 x2 x3 x4
  else
  some ((0 : Int32), S81)
  else
  f_W_law_B3320 X L k23 S81 x1 x2 x3 x4
  else
  some ((0 : Int32), S81)
def f_W_law_B729 (X : Nat → Int32) (L : Nat) (k23 : AS → Option Nat → Option Nat → Option Nat → Int32 → Option (Int32 × AS)) (S : AS) (x1 : Option Nat) (x2 : Option Nat) (x3 : Option Nat) (x4 : Int32) (x5 : Int32) (y0 : Option Nat) (y1 : Int32) (y2 : Int32) (y3 : Int32) : Option (Int32 × AS) :=
  (kr_rv S 23 y0).bind fun u84 =>
  kr_b2 (f_M_points S y0 y1 y2 y3) fun v86 S85 =>
  (kr_rv S85 23 x2).bind fun u87 =>
  kr_b2 (f_M_thrown S85 x2) fun v89 S88 =>
  if v89 = x5 then
  if x5 = 0 then
  (aJ S88 x3 (0 : Int32)).bind fun v90 =>
  if (lg_cmp v90 v86.toInt64) = 0 then
  f_W_law_B3320 X L k23 S88 x1 x2 x3 x4
  else
  some ((0 : Int32), S88)
  else
  f_W_law_B3320 X L k23 S88 x1 x2 x3 x4
  else
  some ((0 : Int32), S88)
def f_W_law_B696 (X : Nat → Int32) (L : Nat) (k23 : AS → Option Nat → Option Nat → Option Nat → Int32 → Option (Int32 × AS)) (S : AS) (x1 : Option Nat) (x2 : Option Nat) (x3 : Option Nat) (x4 : Int32) (y0 : Option Nat) (y1 : Int32) (y2 : Int32) (y3 : Int32) : Option (Int32 × AS) :=
  kr_b2 (f_W_points S y0 y1 y2 y3 x3) fun v92 S91 =>
  (kr_sx X L (x4 + (1 : Int32))).bind fun v93 =>
  (kr_sx X L (x4 + (2 : Int32))).bind fun v94 =>
  (kr_sx X L (x4 + (3 : Int32))).bind fun v95 =>
  if v95 = 0 then
  f_W_law_B729 X L k23 S91 x1 x2 x3 x4 v92 x2 v93 v94 (0 : Int32)
  else
  f_W_law_B729 X L k23 S91 x1 x2 x3 x4 v92 x2 v93 v94 (1 : Int32)
def f_W_law_B669 (X : Nat → Int32) (L : Nat) (k23 : AS → Option Nat → Option Nat → Option Nat → Int32 → Option (Int32 × AS)) (S : AS) (x1 : Option Nat) (x2 : Option Nat) (x3 : Option Nat) (x4 : Int32) : Option (Int32 × AS) :=
  (kr_sx X L (x4 + (1 : Int32))).bind fun v96 =>
  (kr_sx X L (x4 + (2 : Int32))).bind fun v97 =>
  (kr_sx X L (x4 + (3 : Int32))).bind fun v98 =>
  if v98 = 0 then
  f_W_law_B696 X L k23 S x1 x2 x3 x4 x1 v96 v97 (0 : Int32)
  else
  f_W_law_B696 X L k23 S x1 x2 x3 x4 x1 v96 v97 (1 : Int32)
def f_W_law_B765 (X : Nat → Int32) (L : Nat) (k23 : AS → Option Nat → Option Nat → Option Nat → Int32 → Option (Int32 × AS)) (S : AS) (x1 : Option Nat) (x2 : Option Nat) (x3 : Option Nat) (x4 : Int32) : Option (Int32 × AS) :=
  (kr_sx X L (x4 + (1 : Int32))).bind fun v99 =>
  (kr_sx X L (x4 + (2 : Int32))).bind fun v100 =>
  (kr_sx X L (x4 + (3 : Int32))).bind fun v101 =>
  kr_b2 (f_W_begin S x1 v99 v100 v101 x3) fun v103 S102 =>
  (kr_sx X L (x4 + (1 : Int32))).bind fun v104 =>
  (kr_sx X L (x4 + (2 : Int32))).bind fun v105 =>
  (kr_sx X L (x4 + (3 : Int32))).bind fun v106 =>
  (kr_rv S102 23 x2).bind fun u107 =>
  kr_b2 (f_M_begin S102 x2 v104 v105 v106) fun v109 S108 =>
  (kr_rv S108 23 x2).bind fun u110 =>
  kr_b2 (f_M_thrown S108 x2) fun v112 S111 =>
  if v112 = v103 then
  if v103 = 0 then
  (aJ S111 x3 (0 : Int32)).bind fun v113 =>
  if (lg_cmp v113 v109.toInt64) = 0 then
  f_W_law_B3320 X L k23 S111 x1 x2 x3 x4
  else
  some ((0 : Int32), S111)
  else
  f_W_law_B3320 X L k23 S111 x1 x2 x3 x4
  else
  some ((0 : Int32), S111)
def f_W_law_B899 (X : Nat → Int32) (L : Nat) (k23 : AS → Option Nat → Option Nat → Option Nat → Int32 → Option (Int32 × AS)) (S : AS) (x1 : Option Nat) (x2 : Option Nat) (x3 : Option Nat) (x4 : Int32) (x5 : Int32) (y0 : Option Nat) (y1 : Int32) (y2 : Int32) : Option (Int32 × AS) :=
  (kr_sx X L (x4 + (3 : Int32))).bind fun v114 =>
  (kr_rv S 23 y0).bind fun u115 =>
  kr_b2 (f_M_answer S y0 y1 y2 v114) fun v117 S116 =>
  (kr_rv S116 23 x2).bind fun u118 =>
  kr_b2 (f_M_thrown S116 x2) fun v120 S119 =>
  if v120 = x5 then
  if x5 = 0 then
  (aJ S119 x3 (0 : Int32)).bind fun v121 =>
  if (lg_cmp v121 v117.toInt64) = 0 then
  f_W_law_B3320 X L k23 S119 x1 x2 x3 x4
  else
  some ((0 : Int32), S119)
  else
  f_W_law_B3320 X L k23 S119 x1 x2 x3 x4
  else
  some ((0 : Int32), S119)
def f_W_law_B866 (X : Nat → Int32) (L : Nat) (k23 : AS → Option Nat → Option Nat → Option Nat → Int32 → Option (Int32 × AS)) (S : AS) (x1 : Option Nat) (x2 : Option Nat) (x3 : Option Nat) (x4 : Int32) (y0 : Option Nat) (y1 : Int32) (y2 : Int32) : Option (Int32 × AS) :=
  (kr_sx X L (x4 + (3 : Int32))).bind fun v122 =>
  kr_b2 (f_W_answer S y0 y1 y2 v122 x3) fun v124 S123 =>
  (kr_sx X L (x4 + (1 : Int32))).bind fun v125 =>
  (kr_sx X L (x4 + (2 : Int32))).bind fun v126 =>
  if v126 = 0 then
  f_W_law_B899 X L k23 S123 x1 x2 x3 x4 v124 x2 v125 (0 : Int32)
  else
  f_W_law_B899 X L k23 S123 x1 x2 x3 x4 v124 x2 v125 (1 : Int32)
def f_W_law_B845 (X : Nat → Int32) (L : Nat) (k23 : AS → Option Nat → Option Nat → Option Nat → Int32 → Option (Int32 × AS)) (S : AS) (x1 : Option Nat) (x2 : Option Nat) (x3 : Option Nat) (x4 : Int32) : Option (Int32 × AS) :=
  (kr_sx X L (x4 + (1 : Int32))).bind fun v127 =>
  (kr_sx X L (x4 + (2 : Int32))).bind fun v128 =>
  if v128 = 0 then
  f_W_law_B866 X L k23 S x1 x2 x3 x4 x1 v127 (0 : Int32)
  else
  f_W_law_B866 X L k23 S x1 x2 x3 x4 x1 v127 (1 : Int32)
def f_W_law_B941 (X : Nat → Int32) (L : Nat) (k23 : AS → Option Nat → Option Nat → Option Nat → Int32 → Option (Int32 × AS)) (S : AS) (x1 : Option Nat) (x2 : Option Nat) (x3 : Option Nat) (x4 : Int32) : Option (Int32 × AS) :=
  (kr_sx X L (x4 + (1 : Int32))).bind fun v129 =>
  kr_b2 (f_W_state S x1 v129 x3) fun v131 S130 =>
  (kr_sx X L (x4 + (1 : Int32))).bind fun v132 =>
  (kr_rv S130 23 x2).bind fun u133 =>
  kr_b2 (f_M_state S130 x2 v132) fun v135 S134 =>
  (kr_rv S134 23 x2).bind fun u136 =>
  kr_b2 (f_M_thrown S134 x2) fun v138 S137 =>
  if v138 = v131 then
  if v131 = 0 then
  (aJ S137 x3 (0 : Int32)).bind fun v139 =>
  if (lg_cmp v139 v135.toInt64) = 0 then
  f_W_law_B3320 X L k23 S137 x1 x2 x3 x4
  else
  some ((0 : Int32), S137)
  else
  f_W_law_B3320 X L k23 S137 x1 x2 x3 x4
  else
  some ((0 : Int32), S137)
def f_W_law_B997 (X : Nat → Int32) (L : Nat) (k23 : AS → Option Nat → Option Nat → Option Nat → Int32 → Option (Int32 × AS)) (S : AS) (x1 : Option Nat) (x2 : Option Nat) (x3 : Option Nat) (x4 : Int32) : Option (Int32 × AS) :=
  (kr_sx X L (x4 + (1 : Int32))).bind fun v140 =>
  kr_b2 (f_W_asked S x1 v140 x3) fun v142 S141 =>
  (kr_sx X L (x4 + (1 : Int32))).bind fun v143 =>
  (kr_rv S141 23 x2).bind fun u144 =>
  kr_b2 (f_M_asked S141 x2 v143) fun v146 S145 =>
  (kr_rv S145 23 x2).bind fun u147 =>
  kr_b2 (f_M_thrown S145 x2) fun v149 S148 =>
  if v149 = v142 then
  if v142 = 0 then
  (aJ S148 x3 (0 : Int32)).bind fun v150 =>
  if (lg_cmp v150 v146.toInt64) = 0 then
  f_W_law_B3320 X L k23 S148 x1 x2 x3 x4
  else
  some ((0 : Int32), S148)
  else
  f_W_law_B3320 X L k23 S148 x1 x2 x3 x4
  else
  some ((0 : Int32), S148)
def f_W_law_B1053 (X : Nat → Int32) (L : Nat) (k23 : AS → Option Nat → Option Nat → Option Nat → Int32 → Option (Int32 × AS)) (S : AS) (x1 : Option Nat) (x2 : Option Nat) (x3 : Option Nat) (x4 : Int32) : Option (Int32 × AS) :=
  (kr_sx X L (x4 + (1 : Int32))).bind fun v151 =>
  kr_b2 (f_W_sessionOf S x1 v151 x3) fun v153 S152 =>
  (kr_sx X L (x4 + (1 : Int32))).bind fun v154 =>
  (kr_rv S152 23 x2).bind fun u155 =>
  kr_b2 (f_M_sessionOf S152 x2 v154) fun v157 S156 =>
  (kr_rv S156 23 x2).bind fun u158 =>
  kr_b2 (f_M_thrown S156 x2) fun v160 S159 =>
  if v160 = v153 then
  if v153 = 0 then
  (aJ S159 x3 (0 : Int32)).bind fun v161 =>
  if (lg_cmp v161 v157.toInt64) = 0 then
  f_W_law_B3320 X L k23 S159 x1 x2 x3 x4
  else
  some ((0 : Int32), S159)
  else
  f_W_law_B3320 X L k23 S159 x1 x2 x3 x4
  else
  some ((0 : Int32), S159)
def f_W_law_B1109 (X : Nat → Int32) (L : Nat) (k23 : AS → Option Nat → Option Nat → Option Nat → Int32 → Option (Int32 × AS)) (S : AS) (x1 : Option Nat) (x2 : Option Nat) (x3 : Option Nat) (x4 : Int32) : Option (Int32 × AS) :=
  (kr_sx X L (x4 + (1 : Int32))).bind fun v162 =>
  kr_b2 (f_W_risk S x1 v162 x3) fun v164 S163 =>
  (kr_sx X L (x4 + (1 : Int32))).bind fun v165 =>
  (kr_rv S163 23 x2).bind fun u166 =>
  kr_b2 (f_M_risk S163 x2 v165) fun v168 S167 =>
  (kr_rv S167 23 x2).bind fun u169 =>
  kr_b2 (f_M_thrown S167 x2) fun v171 S170 =>
  if v171 = v164 then
  if v164 = 0 then
  (aJ S170 x3 (0 : Int32)).bind fun v172 =>
  if (lg_cmp v172 v168.toInt64) = 0 then
  f_W_law_B3320 X L k23 S170 x1 x2 x3 x4
  else
  some ((0 : Int32), S170)
  else
  f_W_law_B3320 X L k23 S170 x1 x2 x3 x4
  else
  some ((0 : Int32), S170)
def f_W_law_B1165 (X : Nat → Int32) (L : Nat) (k23 : AS → Option Nat → Option Nat → Option Nat → Int32 → Option (Int32 × AS)) (S : AS) (x1 : Option Nat) (x2 : Option Nat) (x3 : Option Nat) (x4 : Int32) : Option (Int32 × AS) :=
  (kr_sx X L (x4 + (1 : Int32))).bind fun v173 =>
  kr_b2 (f_W_trialRisk S x1 v173 x3) fun v175 S174 =>
  (kr_sx X L (x4 + (1 : Int32))).bind fun v176 =>
  (kr_rv S174 23 x2).bind fun u177 =>
  kr_b2 (f_M_trialRisk S174 x2 v176) fun v179 S178 =>
  (kr_rv S178 23 x2).bind fun u180 =>
  kr_b2 (f_M_thrown S178 x2) fun v182 S181 =>
  if v182 = v175 then
  if v175 = 0 then
  (aJ S181 x3 (0 : Int32)).bind fun v183 =>
  if (lg_cmp v183 v179.toInt64) = 0 then
  f_W_law_B3320 X L k23 S181 x1 x2 x3 x4
  else
  some ((0 : Int32), S181)
  else
  f_W_law_B3320 X L k23 S181 x1 x2 x3 x4
  else
  some ((0 : Int32), S181)
def f_W_law_B1221 (X : Nat → Int32) (L : Nat) (k23 : AS → Option Nat → Option Nat → Option Nat → Int32 → Option (Int32 × AS)) (S : AS) (x1 : Option Nat) (x2 : Option Nat) (x3 : Option Nat) (x4 : Int32) : Option (Int32 × AS) :=
  (kr_rv S 22 x1).bind fun u184 =>
  kr_b2 (f_K_sessions S x1) fun v186 S185 =>
  (kr_rv S185 23 x2).bind fun u187 =>
  kr_b2 (f_M_sessions S185 x2) fun v189 S188 =>
  if v186 = v189 then
  f_W_law_B3320 X L k23 S188 x1 x2 x3 x4
  else
  some ((0 : Int32), S188)
def f_W_law_B1288 (X : Nat → Int32) (L : Nat) (k23 : AS → Option Nat → Option Nat → Option Nat → Int32 → Option (Int32 × AS)) (S : AS) (x1 : Option Nat) (x2 : Option Nat) (x3 : Option Nat) (x4 : Int32) (y0 : Int64) (y1 : Int64) : Option (Int32 × AS) :=
  if (lg_cmp y0 y1) = 0 then
  f_W_law_B3320 X L k23 S x1 x2 x3 x4
  else
  some ((0 : Int32), S)
def f_W_law_B1234 (X : Nat → Int32) (L : Nat) (k23 : AS → Option Nat → Option Nat → Option Nat → Int32 → Option (Int32 × AS)) (S : AS) (x1 : Option Nat) (x2 : Option Nat) (x3 : Option Nat) (x4 : Int32) : Option (Int32 × AS) :=
  (kr_sx X L (x4 + (1 : Int32))).bind fun v190 =>
  kr_b2 (f_W_isLive S x1 v190 x3) fun v192 S191 =>
  (kr_sx X L (x4 + (1 : Int32))).bind fun v193 =>
  (kr_rv S191 23 x2).bind fun u194 =>
  kr_b2 (f_M_isLive S191 x2 v193) fun v196 S195 =>
  (kr_rv S195 23 x2).bind fun u197 =>
  kr_b2 (f_M_thrown S195 x2) fun v199 S198 =>
  if v199 = v192 then
  if v192 = 0 then
  (aJ S198 x3 (0 : Int32)).bind fun v200 =>
  if v196 = 0 then
  f_W_law_B1288 X L k23 S198 x1 x2 x3 x4 v200 (0 : Int64)
  else
  f_W_law_B1288 X L k23 S198 x1 x2 x3 x4 v200 (1 : Int64)
  else
  f_W_law_B3320 X L k23 S198 x1 x2 x3 x4
  else
  some ((0 : Int32), S198)
def f_W_law_B1351 (X : Nat → Int32) (L : Nat) (k23 : AS → Option Nat → Option Nat → Option Nat → Int32 → Option (Int32 × AS)) (S : AS) (x1 : Option Nat) (x2 : Option Nat) (x3 : Option Nat) (x4 : Int32) (y0 : Int64) (y1 : Int64) : Option (Int32 × AS) :=
  if (lg_cmp y0 y1) = 0 then
  f_W_law_B3320 X L k23 S x1 x2 x3 x4
  else
  some ((0 : Int32), S)
def f_W_law_B1297 (X : Nat → Int32) (L : Nat) (k23 : AS → Option Nat → Option Nat → Option Nat → Int32 → Option (Int32 × AS)) (S : AS) (x1 : Option Nat) (x2 : Option Nat) (x3 : Option Nat) (x4 : Int32) : Option (Int32 × AS) :=
  (kr_sx X L (x4 + (1 : Int32))).bind fun v201 =>
  kr_b2 (f_W_isLiveByAudit S x1 v201 x3) fun v203 S202 =>
  (kr_sx X L (x4 + (1 : Int32))).bind fun v204 =>
  (kr_rv S202 23 x2).bind fun u205 =>
  kr_b2 (f_M_isLiveByAudit S202 x2 v204) fun v207 S206 =>
  (kr_rv S206 23 x2).bind fun u208 =>
  kr_b2 (f_M_thrown S206 x2) fun v210 S209 =>
  if v210 = v203 then
  if v203 = 0 then
  (aJ S209 x3 (0 : Int32)).bind fun v211 =>
  if v207 = 0 then
  f_W_law_B1351 X L k23 S209 x1 x2 x3 x4 v211 (0 : Int64)
  else
  f_W_law_B1351 X L k23 S209 x1 x2 x3 x4 v211 (1 : Int64)
  else
  f_W_law_B3320 X L k23 S209 x1 x2 x3 x4
  else
  some ((0 : Int32), S209)
def f_W_law_B1360 (X : Nat → Int32) (L : Nat) (k23 : AS → Option Nat → Option Nat → Option Nat → Int32 → Option (Int32 × AS)) (S : AS) (x1 : Option Nat) (x2 : Option Nat) (x3 : Option Nat) (x4 : Int32) : Option (Int32 × AS) :=
  (kr_sx X L (x4 + (1 : Int32))).bind fun v212 =>
  kr_b2 (f_W_level S x1 v212 x3) fun v214 S213 =>
  (kr_sx X L (x4 + (1 : Int32))).bind fun v215 =>
  (kr_rv S213 23 x2).bind fun u216 =>
  kr_b2 (f_M_level S213 x2 v215) fun v218 S217 =>
  (kr_rv S217 23 x2).bind fun u219 =>
  kr_b2 (f_M_thrown S217 x2) fun v221 S220 =>
  if v221 = v214 then
  if v214 = 0 then
  (aJ S220 x3 (0 : Int32)).bind fun v222 =>
  if (lg_cmp v222 v218.toInt64) = 0 then
  f_W_law_B3320 X L k23 S220 x1 x2 x3 x4
  else
  some ((0 : Int32), S220)
  else
  f_W_law_B3320 X L k23 S220 x1 x2 x3 x4
  else
  some ((0 : Int32), S220)
def f_W_law_B1482 (X : Nat → Int32) (L : Nat) (k23 : AS → Option Nat → Option Nat → Option Nat → Int32 → Option (Int32 × AS)) (S : AS) (x1 : Option Nat) (x2 : Option Nat) (x3 : Option Nat) (x4 : Int32) (x5 : Int32) (y0 : Option Nat) (y1 : Int32) (y2 : Int32) (y3 : Int32) : Option (Int32 × AS) :=
  (kr_sx X L (x4 + (4 : Int32))).bind fun v223 =>
  (kr_rv S 23 y0).bind fun u224 =>
  kr_b2 (f_M_stepUp S y0 y1 y2 y3 v223) fun v226 S225 =>
  (kr_rv S225 23 x2).bind fun u227 =>
  kr_b2 (f_M_thrown S225 x2) fun v229 S228 =>
  if v229 = x5 then
  if x5 = 0 then
  (aJ S228 x3 (0 : Int32)).bind fun v230 =>
  if (lg_cmp v230 v226.toInt64) = 0 then
  f_W_law_B3320 X L k23 S228 x1 x2 x3 x4
  else
  some ((0 : Int32), S228)
  else
  f_W_law_B3320 X L k23 S228 x1 x2 x3 x4
  else
  some ((0 : Int32), S228)
def f_W_law_B1443 (X : Nat → Int32) (L : Nat) (k23 : AS → Option Nat → Option Nat → Option Nat → Int32 → Option (Int32 × AS)) (S : AS) (x1 : Option Nat) (x2 : Option Nat) (x3 : Option Nat) (x4 : Int32) (y0 : Option Nat) (y1 : Int32) (y2 : Int32) (y3 : Int32) : Option (Int32 × AS) :=
  (kr_sx X L (x4 + (4 : Int32))).bind fun v231 =>
  kr_b2 (f_W_stepUp S y0 y1 y2 y3 v231 x3) fun v233 S232 =>
  (kr_sx X L (x4 + (1 : Int32))).bind fun v234 =>
  (kr_sx X L (x4 + (2 : Int32))).bind fun v235 =>
  (kr_sx X L (x4 + (3 : Int32))).bind fun v236 =>
  if v236 = 0 then
  f_W_law_B1482 X L k23 S232 x1 x2 x3 x4 v233 x2 v234 v235 (0 : Int32)
  else
  f_W_law_B1482 X L k23 S232 x1 x2 x3 x4 v233 x2 v234 v235 (1 : Int32)
def f_W_law_B1416 (X : Nat → Int32) (L : Nat) (k23 : AS → Option Nat → Option Nat → Option Nat → Int32 → Option (Int32 × AS)) (S : AS) (x1 : Option Nat) (x2 : Option Nat) (x3 : Option Nat) (x4 : Int32) : Option (Int32 × AS) :=
  (kr_sx X L (x4 + (1 : Int32))).bind fun v237 =>
  (kr_sx X L (x4 + (2 : Int32))).bind fun v238 =>
  (kr_sx X L (x4 + (3 : Int32))).bind fun v239 =>
  if v239 = 0 then
  f_W_law_B1443 X L k23 S x1 x2 x3 x4 x1 v237 v238 (0 : Int32)
  else
  f_W_law_B1443 X L k23 S x1 x2 x3 x4 x1 v237 v238 (1 : Int32)
def f_W_law_B1524 (X : Nat → Int32) (L : Nat) (k23 : AS → Option Nat → Option Nat → Option Nat → Int32 → Option (Int32 × AS)) (S : AS) (x1 : Option Nat) (x2 : Option Nat) (x3 : Option Nat) (x4 : Int32) : Option (Int32 × AS) :=
  (kr_sx X L (x4 + (1 : Int32))).bind fun v240 =>
  kr_b2 (f_W_signOut S x1 v240 x3) fun v242 S241 =>
  (kr_sx X L (x4 + (1 : Int32))).bind fun v243 =>
  (kr_rv S241 23 x2).bind fun u244 =>
  kr_b2 (f_M_signOut S241 x2 v243) fun v246 S245 =>
  (kr_rv S245 23 x2).bind fun u247 =>
  kr_b2 (f_M_thrown S245 x2) fun v249 S248 =>
  if v249 = v242 then
  if v242 = 0 then
  (aJ S248 x3 (0 : Int32)).bind fun v250 =>
  if (lg_cmp v250 v246.toInt64) = 0 then
  f_W_law_B3320 X L k23 S248 x1 x2 x3 x4
  else
  some ((0 : Int32), S248)
  else
  f_W_law_B3320 X L k23 S248 x1 x2 x3 x4
  else
  some ((0 : Int32), S248)
def f_W_law_B1634 (X : Nat → Int32) (L : Nat) (k23 : AS → Option Nat → Option Nat → Option Nat → Int32 → Option (Int32 × AS)) (S : AS) (x1 : Option Nat) (x2 : Option Nat) (x3 : Option Nat) (x4 : Int32) (y0 : Int64) (y1 : Int64) : Option (Int32 × AS) :=
  if (lg_cmp y0 y1) = 0 then
  f_W_law_B3320 X L k23 S x1 x2 x3 x4
  else
  some ((0 : Int32), S)
def f_W_law_B1580 (X : Nat → Int32) (L : Nat) (k23 : AS → Option Nat → Option Nat → Option Nat → Int32 → Option (Int32 × AS)) (S : AS) (x1 : Option Nat) (x2 : Option Nat) (x3 : Option Nat) (x4 : Int32) : Option (Int32 × AS) :=
  (kr_sx X L (x4 + (1 : Int32))).bind fun v251 =>
  kr_b2 (f_W_helper S x1 v251 x3) fun v253 S252 =>
  (kr_sx X L (x4 + (1 : Int32))).bind fun v254 =>
  (kr_rv S252 23 x2).bind fun u255 =>
  kr_b2 (f_M_helper S252 x2 v254) fun v257 S256 =>
  (kr_rv S256 23 x2).bind fun u258 =>
  kr_b2 (f_M_thrown S256 x2) fun v260 S259 =>
  if v260 = v253 then
  if v253 = 0 then
  (aJ S259 x3 (0 : Int32)).bind fun v261 =>
  if v257 = 0 then
  f_W_law_B1634 X L k23 S259 x1 x2 x3 x4 v261 (0 : Int64)
  else
  f_W_law_B1634 X L k23 S259 x1 x2 x3 x4 v261 (1 : Int64)
  else
  f_W_law_B3320 X L k23 S259 x1 x2 x3 x4
  else
  some ((0 : Int32), S259)
def f_W_law_B1643 (X : Nat → Int32) (L : Nat) (k23 : AS → Option Nat → Option Nat → Option Nat → Int32 → Option (Int32 × AS)) (S : AS) (x1 : Option Nat) (x2 : Option Nat) (x3 : Option Nat) (x4 : Int32) : Option (Int32 × AS) :=
  (kr_sx X L (x4 + (1 : Int32))).bind fun v262 =>
  (kr_sx X L (x4 + (2 : Int32))).bind fun v263 =>
  kr_b2 (f_W_act S x1 v262 v263 x3) fun v265 S264 =>
  (kr_sx X L (x4 + (1 : Int32))).bind fun v266 =>
  (kr_sx X L (x4 + (2 : Int32))).bind fun v267 =>
  (kr_rv S264 23 x2).bind fun u268 =>
  kr_b2 (f_M_act S264 x2 v266 v267) fun v270 S269 =>
  (kr_rv S269 23 x2).bind fun u271 =>
  kr_b2 (f_M_thrown S269 x2) fun v273 S272 =>
  if v273 = v265 then
  if v265 = 0 then
  (aJ S272 x3 (0 : Int32)).bind fun v274 =>
  if (lg_cmp v274 v270.toInt64) = 0 then
  f_W_law_B3320 X L k23 S272 x1 x2 x3 x4
  else
  some ((0 : Int32), S272)
  else
  f_W_law_B3320 X L k23 S272 x1 x2 x3 x4
  else
  some ((0 : Int32), S272)
def f_W_law_B1711 (X : Nat → Int32) (L : Nat) (k23 : AS → Option Nat → Option Nat → Option Nat → Int32 → Option (Int32 × AS)) (S : AS) (x1 : Option Nat) (x2 : Option Nat) (x3 : Option Nat) (x4 : Int32) : Option (Int32 × AS) :=
  (kr_sx X L (x4 + (1 : Int32))).bind fun v275 =>
  (kr_sx X L (x4 + (2 : Int32))).bind fun v276 =>
  (kr_sx X L (x4 + (3 : Int32))).bind fun v277 =>
  kr_b2 (f_W_consent S x1 v275 v276 v277 x3) fun v279 S278 =>
  (kr_sx X L (x4 + (1 : Int32))).bind fun v280 =>
  (kr_sx X L (x4 + (2 : Int32))).bind fun v281 =>
  (kr_sx X L (x4 + (3 : Int32))).bind fun v282 =>
  (kr_rv S278 23 x2).bind fun u283 =>
  kr_b2 (f_M_consent S278 x2 v280 v281 v282) fun v285 S284 =>
  (kr_rv S284 23 x2).bind fun u286 =>
  kr_b2 (f_M_thrown S284 x2) fun v288 S287 =>
  if v288 = v279 then
  if v279 = 0 then
  (aJ S287 x3 (0 : Int32)).bind fun v289 =>
  if (lg_cmp v289 v285.toInt64) = 0 then
  f_W_law_B3320 X L k23 S287 x1 x2 x3 x4
  else
  some ((0 : Int32), S287)
  else
  f_W_law_B3320 X L k23 S287 x1 x2 x3 x4
  else
  some ((0 : Int32), S287)
def f_W_law_B1791 (X : Nat → Int32) (L : Nat) (k23 : AS → Option Nat → Option Nat → Option Nat → Int32 → Option (Int32 × AS)) (S : AS) (x1 : Option Nat) (x2 : Option Nat) (x3 : Option Nat) (x4 : Int32) : Option (Int32 × AS) :=
  (kr_sx X L (x4 + (1 : Int32))).bind fun v290 =>
  (kr_sx X L (x4 + (2 : Int32))).bind fun v291 =>
  kr_b2 (f_W_withdraw S x1 v290 v291 x3) fun v293 S292 =>
  (kr_sx X L (x4 + (1 : Int32))).bind fun v294 =>
  (kr_sx X L (x4 + (2 : Int32))).bind fun v295 =>
  (kr_rv S292 23 x2).bind fun u296 =>
  kr_b2 (f_M_withdraw S292 x2 v294 v295) fun v298 S297 =>
  (kr_rv S297 23 x2).bind fun u299 =>
  kr_b2 (f_M_thrown S297 x2) fun v301 S300 =>
  if v301 = v293 then
  if v293 = 0 then
  (aJ S300 x3 (0 : Int32)).bind fun v302 =>
  if (lg_cmp v302 v298.toInt64) = 0 then
  f_W_law_B3320 X L k23 S300 x1 x2 x3 x4
  else
  some ((0 : Int32), S300)
  else
  f_W_law_B3320 X L k23 S300 x1 x2 x3 x4
  else
  some ((0 : Int32), S300)
def f_W_law_B1859 (X : Nat → Int32) (L : Nat) (k23 : AS → Option Nat → Option Nat → Option Nat → Int32 → Option (Int32 × AS)) (S : AS) (x1 : Option Nat) (x2 : Option Nat) (x3 : Option Nat) (x4 : Int32) : Option (Int32 × AS) :=
  (kr_sx X L (x4 + (1 : Int32))).bind fun v303 =>
  (kr_sx X L (x4 + (2 : Int32))).bind fun v304 =>
  kr_b2 (f_W_need S x1 v303 v304 x3) fun v306 S305 =>
  (kr_sx X L (x4 + (1 : Int32))).bind fun v307 =>
  (kr_sx X L (x4 + (2 : Int32))).bind fun v308 =>
  (kr_rv S305 23 x2).bind fun u309 =>
  kr_b2 (f_M_need S305 x2 v307 v308) fun v311 S310 =>
  (kr_rv S310 23 x2).bind fun u312 =>
  kr_b2 (f_M_thrown S310 x2) fun v314 S313 =>
  if v314 = v306 then
  if v306 = 0 then
  (aJ S313 x3 (0 : Int32)).bind fun v315 =>
  if (lg_cmp v315 v311.toInt64) = 0 then
  f_W_law_B3320 X L k23 S313 x1 x2 x3 x4
  else
  some ((0 : Int32), S313)
  else
  f_W_law_B3320 X L k23 S313 x1 x2 x3 x4
  else
  some ((0 : Int32), S313)
def f_W_law_B1927 (X : Nat → Int32) (L : Nat) (k23 : AS → Option Nat → Option Nat → Option Nat → Int32 → Option (Int32 × AS)) (S : AS) (x1 : Option Nat) (x2 : Option Nat) (x3 : Option Nat) (x4 : Int32) : Option (Int32 × AS) :=
  (kr_sx X L (x4 + (1 : Int32))).bind fun v316 =>
  (kr_sx X L (x4 + (2 : Int32))).bind fun v317 =>
  (kr_sx X L (x4 + (3 : Int32))).bind fun v318 =>
  (kr_sx X L (x4 + (4 : Int32))).bind fun v319 =>
  kr_b2 (f_W_authorize S x1 v316 v317 v318 v319 x3) fun v321 S320 =>
  (kr_sx X L (x4 + (1 : Int32))).bind fun v322 =>
  (kr_sx X L (x4 + (2 : Int32))).bind fun v323 =>
  (kr_sx X L (x4 + (3 : Int32))).bind fun v324 =>
  (kr_sx X L (x4 + (4 : Int32))).bind fun v325 =>
  (kr_rv S320 23 x2).bind fun u326 =>
  kr_b2 (f_M_authorize S320 x2 v322 v323 v324 v325) fun v328 S327 =>
  (kr_rv S327 23 x2).bind fun u329 =>
  kr_b2 (f_M_thrown S327 x2) fun v331 S330 =>
  if v331 = v321 then
  if v321 = 0 then
  (aJ S330 x3 (0 : Int32)).bind fun v332 =>
  if (lg_cmp v332 v328.toInt64) = 0 then
  f_W_law_B3320 X L k23 S330 x1 x2 x3 x4
  else
  some ((0 : Int32), S330)
  else
  f_W_law_B3320 X L k23 S330 x1 x2 x3 x4
  else
  some ((0 : Int32), S330)
def f_W_law_B2019 (X : Nat → Int32) (L : Nat) (k23 : AS → Option Nat → Option Nat → Option Nat → Int32 → Option (Int32 × AS)) (S : AS) (x1 : Option Nat) (x2 : Option Nat) (x3 : Option Nat) (x4 : Int32) : Option (Int32 × AS) :=
  (kr_sx X L (x4 + (1 : Int32))).bind fun v333 =>
  kr_b2 (f_W_redeem S x1 v333 x3) fun v335 S334 =>
  (kr_sx X L (x4 + (1 : Int32))).bind fun v336 =>
  (kr_rv S334 23 x2).bind fun u337 =>
  kr_b2 (f_M_redeem S334 x2 v336) fun v339 S338 =>
  (kr_rv S338 23 x2).bind fun u340 =>
  kr_b2 (f_M_thrown S338 x2) fun v342 S341 =>
  if v342 = v335 then
  if v335 = 0 then
  (aJ S341 x3 (0 : Int32)).bind fun v343 =>
  if (lg_cmp v343 v339.toInt64) = 0 then
  f_W_law_B3320 X L k23 S341 x1 x2 x3 x4
  else
  some ((0 : Int32), S341)
  else
  f_W_law_B3320 X L k23 S341 x1 x2 x3 x4
  else
  some ((0 : Int32), S341)
def f_W_law_B2075 (X : Nat → Int32) (L : Nat) (k23 : AS → Option Nat → Option Nat → Option Nat → Int32 → Option (Int32 × AS)) (S : AS) (x1 : Option Nat) (x2 : Option Nat) (x3 : Option Nat) (x4 : Int32) : Option (Int32 × AS) :=
  (kr_sx X L (x4 + (1 : Int32))).bind fun v344 =>
  (kr_sx X L (x4 + (2 : Int32))).bind fun v345 =>
  kr_b2 (f_W_refresh S x1 v344 v345 x3) fun v347 S346 =>
  (kr_sx X L (x4 + (1 : Int32))).bind fun v348 =>
  (kr_sx X L (x4 + (2 : Int32))).bind fun v349 =>
  (kr_rv S346 23 x2).bind fun u350 =>
  kr_b2 (f_M_refresh S346 x2 v348 v349) fun v352 S351 =>
  (kr_rv S351 23 x2).bind fun u353 =>
  kr_b2 (f_M_thrown S351 x2) fun v355 S354 =>
  if v355 = v347 then
  if v347 = 0 then
  (aJ S354 x3 (0 : Int32)).bind fun v356 =>
  if (lg_cmp v356 v352.toInt64) = 0 then
  f_W_law_B3320 X L k23 S354 x1 x2 x3 x4
  else
  some ((0 : Int32), S354)
  else
  f_W_law_B3320 X L k23 S354 x1 x2 x3 x4
  else
  some ((0 : Int32), S354)
def f_W_law_B2197 (X : Nat → Int32) (L : Nat) (k23 : AS → Option Nat → Option Nat → Option Nat → Int32 → Option (Int32 × AS)) (S : AS) (x1 : Option Nat) (x2 : Option Nat) (x3 : Option Nat) (x4 : Int32) (y0 : Int64) (y1 : Int64) : Option (Int32 × AS) :=
  if (lg_cmp y0 y1) = 0 then
  f_W_law_B3320 X L k23 S x1 x2 x3 x4
  else
  some ((0 : Int32), S)
def f_W_law_B2143 (X : Nat → Int32) (L : Nat) (k23 : AS → Option Nat → Option Nat → Option Nat → Int32 → Option (Int32 × AS)) (S : AS) (x1 : Option Nat) (x2 : Option Nat) (x3 : Option Nat) (x4 : Int32) : Option (Int32 × AS) :=
  (kr_sx X L (x4 + (1 : Int32))).bind fun v357 =>
  kr_b2 (f_W_isGood S x1 v357 x3) fun v359 S358 =>
  (kr_sx X L (x4 + (1 : Int32))).bind fun v360 =>
  (kr_rv S358 23 x2).bind fun u361 =>
  kr_b2 (f_M_isGood S358 x2 v360) fun v363 S362 =>
  (kr_rv S362 23 x2).bind fun u364 =>
  kr_b2 (f_M_thrown S362 x2) fun v366 S365 =>
  if v366 = v359 then
  if v359 = 0 then
  (aJ S365 x3 (0 : Int32)).bind fun v367 =>
  if v363 = 0 then
  f_W_law_B2197 X L k23 S365 x1 x2 x3 x4 v367 (0 : Int64)
  else
  f_W_law_B2197 X L k23 S365 x1 x2 x3 x4 v367 (1 : Int64)
  else
  f_W_law_B3320 X L k23 S365 x1 x2 x3 x4
  else
  some ((0 : Int32), S365)
def f_W_law_B2206 (X : Nat → Int32) (L : Nat) (k23 : AS → Option Nat → Option Nat → Option Nat → Int32 → Option (Int32 × AS)) (S : AS) (x1 : Option Nat) (x2 : Option Nat) (x3 : Option Nat) (x4 : Int32) : Option (Int32 × AS) :=
  (kr_sx X L (x4 + (1 : Int32))).bind fun v368 =>
  kr_b2 (f_W_tokenOf S x1 v368 x3) fun v370 S369 =>
  (kr_sx X L (x4 + (1 : Int32))).bind fun v371 =>
  (kr_rv S369 23 x2).bind fun u372 =>
  kr_b2 (f_M_tokenOf S369 x2 v371) fun v374 S373 =>
  (kr_rv S373 23 x2).bind fun u375 =>
  kr_b2 (f_M_thrown S373 x2) fun v377 S376 =>
  if v377 = v370 then
  if v370 = 0 then
  (aJ S376 x3 (0 : Int32)).bind fun v378 =>
  if (lg_cmp v378 v374.toInt64) = 0 then
  f_W_law_B3320 X L k23 S376 x1 x2 x3 x4
  else
  some ((0 : Int32), S376)
  else
  f_W_law_B3320 X L k23 S376 x1 x2 x3 x4
  else
  some ((0 : Int32), S376)
def f_W_law_B2262 (X : Nat → Int32) (L : Nat) (k23 : AS → Option Nat → Option Nat → Option Nat → Int32 → Option (Int32 × AS)) (S : AS) (x1 : Option Nat) (x2 : Option Nat) (x3 : Option Nat) (x4 : Int32) : Option (Int32 × AS) :=
  (kr_sx X L (x4 + (1 : Int32))).bind fun v379 =>
  (kr_sx X L (x4 + (2 : Int32))).bind fun v380 =>
  (kr_sx X L (x4 + (3 : Int32))).bind fun v381 =>
  kr_b2 (f_W_exchange S x1 v379 v380 v381 x3) fun v383 S382 =>
  (kr_sx X L (x4 + (1 : Int32))).bind fun v384 =>
  (kr_sx X L (x4 + (2 : Int32))).bind fun v385 =>
  (kr_sx X L (x4 + (3 : Int32))).bind fun v386 =>
  (kr_rv S382 23 x2).bind fun u387 =>
  kr_b2 (f_M_exchange S382 x2 v384 v385 v386) fun v389 S388 =>
  (kr_rv S388 23 x2).bind fun u390 =>
  kr_b2 (f_M_thrown S388 x2) fun v392 S391 =>
  if v392 = v383 then
  if v383 = 0 then
  (aJ S391 x3 (0 : Int32)).bind fun v393 =>
  if (lg_cmp v393 v389.toInt64) = 0 then
  f_W_law_B3320 X L k23 S391 x1 x2 x3 x4
  else
  some ((0 : Int32), S391)
  else
  f_W_law_B3320 X L k23 S391 x1 x2 x3 x4
  else
  some ((0 : Int32), S391)
def f_W_law_B2342 (X : Nat → Int32) (L : Nat) (k23 : AS → Option Nat → Option Nat → Option Nat → Int32 → Option (Int32 × AS)) (S : AS) (x1 : Option Nat) (x2 : Option Nat) (x3 : Option Nat) (x4 : Int32) : Option (Int32 × AS) :=
  (kr_sx X L (x4 + (1 : Int32))).bind fun v394 =>
  kr_b2 (f_W_token S x1 v394 x3) fun v396 S395 =>
  (kr_sx X L (x4 + (1 : Int32))).bind fun v397 =>
  (kr_rv S395 23 x2).bind fun u398 =>
  kr_b2 (f_M_token S395 x2 v397) fun v400 S399 =>
  (kr_rv S399 23 x2).bind fun u401 =>
  kr_b2 (f_M_thrown S399 x2) fun v403 S402 =>
  if v403 = v396 then
  if v396 = 0 then
  (aJ S402 x3 (0 : Int32)).bind fun v404 =>
  if (lg_cmp v404 v400.toInt64) = 0 then
  f_W_law_B3320 X L k23 S402 x1 x2 x3 x4
  else
  some ((0 : Int32), S402)
  else
  f_W_law_B3320 X L k23 S402 x1 x2 x3 x4
  else
  some ((0 : Int32), S402)
def f_W_law_B2398 (X : Nat → Int32) (L : Nat) (k23 : AS → Option Nat → Option Nat → Option Nat → Int32 → Option (Int32 × AS)) (S : AS) (x1 : Option Nat) (x2 : Option Nat) (x3 : Option Nat) (x4 : Int32) : Option (Int32 × AS) :=
  kr_b2 (f_W_turn S x1 x3) fun v406 S405 =>
  (kr_rv S405 23 x2).bind fun u407 =>
  kr_b2 (f_M_turn S405 x2) fun v409 S408 =>
  (kr_rv S408 23 x2).bind fun u410 =>
  kr_b2 (f_M_thrown S408 x2) fun v412 S411 =>
  if v412 = v406 then
  if v406 = 0 then
  (aJ S411 x3 (0 : Int32)).bind fun v413 =>
  if (lg_cmp v413 v409.toInt64) = 0 then
  f_W_law_B3320 X L k23 S411 x1 x2 x3 x4
  else
  some ((0 : Int32), S411)
  else
  f_W_law_B3320 X L k23 S411 x1 x2 x3 x4
  else
  some ((0 : Int32), S411)
def f_W_law_B2442 (X : Nat → Int32) (L : Nat) (k23 : AS → Option Nat → Option Nat → Option Nat → Int32 → Option (Int32 × AS)) (S : AS) (x1 : Option Nat) (x2 : Option Nat) (x3 : Option Nat) (x4 : Int32) : Option (Int32 × AS) :=
  kr_b2 (f_W_emergency S x1 x3) fun v415 S414 =>
  (kr_rv S414 23 x2).bind fun u416 =>
  kr_b2 (f_M_emergency S414 x2) fun v418 S417 =>
  (kr_rv S417 23 x2).bind fun u419 =>
  kr_b2 (f_M_thrown S417 x2) fun v421 S420 =>
  if v421 = v415 then
  if v415 = 0 then
  (aJ S420 x3 (0 : Int32)).bind fun v422 =>
  if (lg_cmp v422 v418.toInt64) = 0 then
  f_W_law_B3320 X L k23 S420 x1 x2 x3 x4
  else
  some ((0 : Int32), S420)
  else
  f_W_law_B3320 X L k23 S420 x1 x2 x3 x4
  else
  some ((0 : Int32), S420)
def f_W_law_B2486 (X : Nat → Int32) (L : Nat) (k23 : AS → Option Nat → Option Nat → Option Nat → Int32 → Option (Int32 × AS)) (S : AS) (x1 : Option Nat) (x2 : Option Nat) (x3 : Option Nat) (x4 : Int32) : Option (Int32 × AS) :=
  (kr_rv S 22 x1).bind fun u423 =>
  kr_b2 (f_K_signing S x1) fun v425 S424 =>
  (kr_rv S424 23 x2).bind fun u426 =>
  kr_b2 (f_M_signing S424 x2) fun v428 S427 =>
  if v425 = v428 then
  f_W_law_B3320 X L k23 S427 x1 x2 x3 x4
  else
  some ((0 : Int32), S427)
def f_W_law_B2553 (X : Nat → Int32) (L : Nat) (k23 : AS → Option Nat → Option Nat → Option Nat → Int32 → Option (Int32 × AS)) (S : AS) (x1 : Option Nat) (x2 : Option Nat) (x3 : Option Nat) (x4 : Int32) (y0 : Int64) (y1 : Int64) : Option (Int32 × AS) :=
  if (lg_cmp y0 y1) = 0 then
  f_W_law_B3320 X L k23 S x1 x2 x3 x4
  else
  some ((0 : Int32), S)
def f_W_law_B2499 (X : Nat → Int32) (L : Nat) (k23 : AS → Option Nat → Option Nat → Option Nat → Int32 → Option (Int32 × AS)) (S : AS) (x1 : Option Nat) (x2 : Option Nat) (x3 : Option Nat) (x4 : Int32) : Option (Int32 × AS) :=
  (kr_sx X L (x4 + (1 : Int32))).bind fun v429 =>
  kr_b2 (f_W_isPublished S x1 v429 x3) fun v431 S430 =>
  (kr_sx X L (x4 + (1 : Int32))).bind fun v432 =>
  (kr_rv S430 23 x2).bind fun u433 =>
  kr_b2 (f_M_isPublished S430 x2 v432) fun v435 S434 =>
  (kr_rv S434 23 x2).bind fun u436 =>
  kr_b2 (f_M_thrown S434 x2) fun v438 S437 =>
  if v438 = v431 then
  if v431 = 0 then
  (aJ S437 x3 (0 : Int32)).bind fun v439 =>
  if v435 = 0 then
  f_W_law_B2553 X L k23 S437 x1 x2 x3 x4 v439 (0 : Int64)
  else
  f_W_law_B2553 X L k23 S437 x1 x2 x3 x4 v439 (1 : Int64)
  else
  f_W_law_B3320 X L k23 S437 x1 x2 x3 x4
  else
  some ((0 : Int32), S437)
def f_W_law_B2562 (X : Nat → Int32) (L : Nat) (k23 : AS → Option Nat → Option Nat → Option Nat → Int32 → Option (Int32 × AS)) (S : AS) (x1 : Option Nat) (x2 : Option Nat) (x3 : Option Nat) (x4 : Int32) : Option (Int32 × AS) :=
  (kr_sx X L (x4 + (1 : Int32))).bind fun v440 =>
  kr_b2 (f_W_line S x1 v440 x3) fun v442 S441 =>
  (kr_sx X L (x4 + (1 : Int32))).bind fun v443 =>
  (kr_rv S441 23 x2).bind fun u444 =>
  kr_b2 (f_M_line S441 x2 v443) fun v446 S445 =>
  (kr_rv S445 23 x2).bind fun u447 =>
  kr_b2 (f_M_thrown S445 x2) fun v449 S448 =>
  if v449 = v442 then
  if v442 = 0 then
  (aJ S448 x3 (0 : Int32)).bind fun v450 =>
  if (lg_cmp v450 v446.toInt64) = 0 then
  f_W_law_B3320 X L k23 S448 x1 x2 x3 x4
  else
  some ((0 : Int32), S448)
  else
  f_W_law_B3320 X L k23 S448 x1 x2 x3 x4
  else
  some ((0 : Int32), S448)
def f_W_law_B2618 (X : Nat → Int32) (L : Nat) (k23 : AS → Option Nat → Option Nat → Option Nat → Int32 → Option (Int32 × AS)) (S : AS) (x1 : Option Nat) (x2 : Option Nat) (x3 : Option Nat) (x4 : Int32) : Option (Int32 × AS) :=
  (kr_sx X L (x4 + (1 : Int32))).bind fun v451 =>
  (kr_sx X L (x4 + (2 : Int32))).bind fun v452 =>
  (kr_sx X L (x4 + (3 : Int32))).bind fun v453 =>
  kr_b2 (f_W_check S x1 v451 v452 v453 x3) fun v455 S454 =>
  (kr_sx X L (x4 + (1 : Int32))).bind fun v456 =>
  (kr_sx X L (x4 + (2 : Int32))).bind fun v457 =>
  (kr_sx X L (x4 + (3 : Int32))).bind fun v458 =>
  (kr_rv S454 23 x2).bind fun u459 =>
  kr_b2 (f_M_check S454 x2 v456 v457 v458) fun v461 S460 =>
  (kr_rv S460 23 x2).bind fun u462 =>
  kr_b2 (f_M_thrown S460 x2) fun v464 S463 =>
  if v464 = v455 then
  if v455 = 0 then
  (aJ S463 x3 (0 : Int32)).bind fun v465 =>
  if (lg_cmp v465 v461.toInt64) = 0 then
  f_W_law_B3320 X L k23 S463 x1 x2 x3 x4
  else
  some ((0 : Int32), S463)
  else
  f_W_law_B3320 X L k23 S463 x1 x2 x3 x4
  else
  some ((0 : Int32), S463)
def f_W_law_B2698 (X : Nat → Int32) (L : Nat) (k23 : AS → Option Nat → Option Nat → Option Nat → Int32 → Option (Int32 × AS)) (S : AS) (x1 : Option Nat) (x2 : Option Nat) (x3 : Option Nat) (x4 : Int32) : Option (Int32 × AS) :=
  (kr_sx X L (x4 + (1 : Int32))).bind fun v466 =>
  kr_b2 (f_W_lag S x1 v466 x3) fun v468 S467 =>
  (kr_sx X L (x4 + (1 : Int32))).bind fun v469 =>
  (kr_rv S467 23 x2).bind fun u470 =>
  kr_b2 (f_M_lag S467 x2 v469) fun v472 S471 =>
  (kr_rv S471 23 x2).bind fun u473 =>
  kr_b2 (f_M_thrown S471 x2) fun v475 S474 =>
  if v475 = v468 then
  if v468 = 0 then
  (aJ S474 x3 (0 : Int32)).bind fun v476 =>
  if (lg_cmp v476 v472.toInt64) = 0 then
  f_W_law_B3320 X L k23 S474 x1 x2 x3 x4
  else
  some ((0 : Int32), S474)
  else
  f_W_law_B3320 X L k23 S474 x1 x2 x3 x4
  else
  some ((0 : Int32), S474)
def f_W_law_B2754 (X : Nat → Int32) (L : Nat) (k23 : AS → Option Nat → Option Nat → Option Nat → Int32 → Option (Int32 × AS)) (S : AS) (x1 : Option Nat) (x2 : Option Nat) (x3 : Option Nat) (x4 : Int32) : Option (Int32 × AS) :=
  (kr_sx X L (x4 + (1 : Int32))).bind fun v477 =>
  kr_b2 (f_W_recover S x1 v477 x3) fun v479 S478 =>
  (kr_sx X L (x4 + (1 : Int32))).bind fun v480 =>
  (kr_rv S478 23 x2).bind fun u481 =>
  kr_b2 (f_M_recover S478 x2 v480) fun v483 S482 =>
  (kr_rv S482 23 x2).bind fun u484 =>
  kr_b2 (f_M_thrown S482 x2) fun v486 S485 =>
  if v486 = v479 then
  if v479 = 0 then
  (aJ S485 x3 (0 : Int32)).bind fun v487 =>
  if (lg_cmp v487 v483.toInt64) = 0 then
  f_W_law_B3320 X L k23 S485 x1 x2 x3 x4
  else
  some ((0 : Int32), S485)
  else
  f_W_law_B3320 X L k23 S485 x1 x2 x3 x4
  else
  some ((0 : Int32), S485)
def f_W_law_B2810 (X : Nat → Int32) (L : Nat) (k23 : AS → Option Nat → Option Nat → Option Nat → Int32 → Option (Int32 × AS)) (S : AS) (x1 : Option Nat) (x2 : Option Nat) (x3 : Option Nat) (x4 : Int32) : Option (Int32 × AS) :=
  (kr_sx X L (x4 + (1 : Int32))).bind fun v488 =>
  (kr_sx X L (x4 + (2 : Int32))).bind fun v489 =>
  kr_b2 (f_W_vouch S x1 v488 v489 x3) fun v491 S490 =>
  (kr_sx X L (x4 + (1 : Int32))).bind fun v492 =>
  (kr_sx X L (x4 + (2 : Int32))).bind fun v493 =>
  (kr_rv S490 23 x2).bind fun u494 =>
  kr_b2 (f_M_vouch S490 x2 v492 v493) fun v496 S495 =>
  (kr_rv S495 23 x2).bind fun u497 =>
  kr_b2 (f_M_thrown S495 x2) fun v499 S498 =>
  if v499 = v491 then
  if v491 = 0 then
  (aJ S498 x3 (0 : Int32)).bind fun v500 =>
  if (lg_cmp v500 v496.toInt64) = 0 then
  f_W_law_B3320 X L k23 S498 x1 x2 x3 x4
  else
  some ((0 : Int32), S498)
  else
  f_W_law_B3320 X L k23 S498 x1 x2 x3 x4
  else
  some ((0 : Int32), S498)
def f_W_law_B2878 (X : Nat → Int32) (L : Nat) (k23 : AS → Option Nat → Option Nat → Option Nat → Int32 → Option (Int32 × AS)) (S : AS) (x1 : Option Nat) (x2 : Option Nat) (x3 : Option Nat) (x4 : Int32) : Option (Int32 × AS) :=
  (kr_sx X L (x4 + (1 : Int32))).bind fun v501 =>
  (kr_sx X L (x4 + (2 : Int32))).bind fun v502 =>
  kr_b2 (f_W_stop S x1 v501 v502 x3) fun v504 S503 =>
  (kr_sx X L (x4 + (1 : Int32))).bind fun v505 =>
  (kr_sx X L (x4 + (2 : Int32))).bind fun v506 =>
  (kr_rv S503 23 x2).bind fun u507 =>
  kr_b2 (f_M_stop S503 x2 v505 v506) fun v509 S508 =>
  (kr_rv S508 23 x2).bind fun u510 =>
  kr_b2 (f_M_thrown S508 x2) fun v512 S511 =>
  if v512 = v504 then
  if v504 = 0 then
  (aJ S511 x3 (0 : Int32)).bind fun v513 =>
  if (lg_cmp v513 v509.toInt64) = 0 then
  f_W_law_B3320 X L k23 S511 x1 x2 x3 x4
  else
  some ((0 : Int32), S511)
  else
  f_W_law_B3320 X L k23 S511 x1 x2 x3 x4
  else
  some ((0 : Int32), S511)
def f_W_law_B2946 (X : Nat → Int32) (L : Nat) (k23 : AS → Option Nat → Option Nat → Option Nat → Int32 → Option (Int32 × AS)) (S : AS) (x1 : Option Nat) (x2 : Option Nat) (x3 : Option Nat) (x4 : Int32) : Option (Int32 × AS) :=
  (kr_sx X L (x4 + (1 : Int32))).bind fun v514 =>
  kr_b2 (f_W_finish S x1 v514 x3) fun v516 S515 =>
  (kr_sx X L (x4 + (1 : Int32))).bind fun v517 =>
  (kr_rv S515 23 x2).bind fun u518 =>
  kr_b2 (f_M_finish S515 x2 v517) fun v520 S519 =>
  (kr_rv S519 23 x2).bind fun u521 =>
  kr_b2 (f_M_thrown S519 x2) fun v523 S522 =>
  if v523 = v516 then
  if v516 = 0 then
  (aJ S522 x3 (0 : Int32)).bind fun v524 =>
  if (lg_cmp v524 v520.toInt64) = 0 then
  f_W_law_B3320 X L k23 S522 x1 x2 x3 x4
  else
  some ((0 : Int32), S522)
  else
  f_W_law_B3320 X L k23 S522 x1 x2 x3 x4
  else
  some ((0 : Int32), S522)
def f_W_law_B3002 (X : Nat → Int32) (L : Nat) (k23 : AS → Option Nat → Option Nat → Option Nat → Int32 → Option (Int32 × AS)) (S : AS) (x1 : Option Nat) (x2 : Option Nat) (x3 : Option Nat) (x4 : Int32) : Option (Int32 × AS) :=
  (kr_sx X L (x4 + (1 : Int32))).bind fun v525 =>
  (kr_sx X L (x4 + (2 : Int32))).bind fun v526 =>
  kr_b2 (f_W_link S x1 v525 v526 x3) fun v528 S527 =>
  (kr_sx X L (x4 + (1 : Int32))).bind fun v529 =>
  (kr_sx X L (x4 + (2 : Int32))).bind fun v530 =>
  (kr_rv S527 23 x2).bind fun u531 =>
  kr_b2 (f_M_link S527 x2 v529 v530) fun v533 S532 =>
  (kr_rv S532 23 x2).bind fun u534 =>
  kr_b2 (f_M_thrown S532 x2) fun v536 S535 =>
  if v536 = v528 then
  if v528 = 0 then
  (aJ S535 x3 (0 : Int32)).bind fun v537 =>
  if (lg_cmp v537 v533.toInt64) = 0 then
  f_W_law_B3320 X L k23 S535 x1 x2 x3 x4
  else
  some ((0 : Int32), S535)
  else
  f_W_law_B3320 X L k23 S535 x1 x2 x3 x4
  else
  some ((0 : Int32), S535)
def f_W_law_B3070 (X : Nat → Int32) (L : Nat) (k23 : AS → Option Nat → Option Nat → Option Nat → Int32 → Option (Int32 × AS)) (S : AS) (x1 : Option Nat) (x2 : Option Nat) (x3 : Option Nat) (x4 : Int32) : Option (Int32 × AS) :=
  (kr_sx X L (x4 + (1 : Int32))).bind fun v538 =>
  kr_b2 (f_W_foreign S x1 v538 x3) fun v540 S539 =>
  (kr_sx X L (x4 + (1 : Int32))).bind fun v541 =>
  (kr_rv S539 23 x2).bind fun u542 =>
  kr_b2 (f_M_foreign S539 x2 v541) fun v544 S543 =>
  (kr_rv S543 23 x2).bind fun u545 =>
  kr_b2 (f_M_thrown S543 x2) fun v547 S546 =>
  if v547 = v540 then
  if v540 = 0 then
  (aJ S546 x3 (0 : Int32)).bind fun v548 =>
  if (lg_cmp v548 v544.toInt64) = 0 then
  f_W_law_B3320 X L k23 S546 x1 x2 x3 x4
  else
  some ((0 : Int32), S546)
  else
  f_W_law_B3320 X L k23 S546 x1 x2 x3 x4
  else
  some ((0 : Int32), S546)
def f_W_law_B3126 (X : Nat → Int32) (L : Nat) (k23 : AS → Option Nat → Option Nat → Option Nat → Int32 → Option (Int32 × AS)) (S : AS) (x1 : Option Nat) (x2 : Option Nat) (x3 : Option Nat) (x4 : Int32) : Option (Int32 × AS) :=
  (kr_sx X L (x4 + (1 : Int32))).bind fun v549 =>
  kr_b2 (f_W_leave S x1 v549 x3) fun v551 S550 =>
  (kr_sx X L (x4 + (1 : Int32))).bind fun v552 =>
  (kr_rv S550 23 x2).bind fun u553 =>
  kr_b2 (f_M_leave S550 x2 v552) fun v555 S554 =>
  (kr_rv S554 23 x2).bind fun u556 =>
  kr_b2 (f_M_thrown S554 x2) fun v558 S557 =>
  if v558 = v551 then
  if v551 = 0 then
  (aJ S557 x3 (0 : Int32)).bind fun v559 =>
  if (lg_cmp v559 v555.toInt64) = 0 then
  f_W_law_B3320 X L k23 S557 x1 x2 x3 x4
  else
  some ((0 : Int32), S557)
  else
  f_W_law_B3320 X L k23 S557 x1 x2 x3 x4
  else
  some ((0 : Int32), S557)
def f_W_law_B3182 (X : Nat → Int32) (L : Nat) (k23 : AS → Option Nat → Option Nat → Option Nat → Int32 → Option (Int32 × AS)) (S : AS) (x1 : Option Nat) (x2 : Option Nat) (x3 : Option Nat) (x4 : Int32) : Option (Int32 × AS) :=
  (kr_rv S 22 x1).bind fun u560 =>
  kr_b2 (f_K_audits S x1) fun v562 S561 =>
  (kr_rv S561 23 x2).bind fun u563 =>
  kr_b2 (f_M_audits S561 x2) fun v565 S564 =>
  if v562 = v565 then
  f_W_law_B3320 X L k23 S564 x1 x2 x3 x4
  else
  some ((0 : Int32), S564)
def f_W_law_B3195 (X : Nat → Int32) (L : Nat) (k23 : AS → Option Nat → Option Nat → Option Nat → Int32 → Option (Int32 × AS)) (S : AS) (x1 : Option Nat) (x2 : Option Nat) (x3 : Option Nat) (x4 : Int32) : Option (Int32 × AS) :=
  (kr_sx X L (x4 + (1 : Int32))).bind fun v566 =>
  kr_b2 (f_W_audit S x1 v566 x3) fun v568 S567 =>
  (kr_sx X L (x4 + (1 : Int32))).bind fun v569 =>
  (kr_rv S567 23 x2).bind fun u570 =>
  kr_b2 (f_M_audit S567 x2 v569) fun v572 S571 =>
  (kr_rv S571 23 x2).bind fun u573 =>
  kr_b2 (f_M_thrown S571 x2) fun v575 S574 =>
  if v575 = v568 then
  if v568 = 0 then
  (aJ S574 x3 (0 : Int32)).bind fun v576 =>
  if (lg_cmp v576 v572.toInt64) = 0 then
  f_W_law_B3320 X L k23 S574 x1 x2 x3 x4
  else
  some ((0 : Int32), S574)
  else
  f_W_law_B3320 X L k23 S574 x1 x2 x3 x4
  else
  some ((0 : Int32), S574)
def f_W_law_B3251 (X : Nat → Int32) (L : Nat) (k23 : AS → Option Nat → Option Nat → Option Nat → Int32 → Option (Int32 × AS)) (S : AS) (x1 : Option Nat) (x2 : Option Nat) (x3 : Option Nat) (x4 : Int32) : Option (Int32 × AS) :=
  (kr_rv S 22 x1).bind fun u577 =>
  kr_b2 (f_K_sum S x1) fun v579 S578 =>
  (kr_rv S578 23 x2).bind fun u580 =>
  kr_b2 (f_M_sum S578 x2) fun v582 S581 =>
  if v579 = v582 then
  f_W_law_B3320 X L k23 S581 x1 x2 x3 x4
  else
  some ((0 : Int32), S581)
def f_W_law_B3264 (X : Nat → Int32) (L : Nat) (k23 : AS → Option Nat → Option Nat → Option Nat → Int32 → Option (Int32 × AS)) (S : AS) (x1 : Option Nat) (x2 : Option Nat) (x3 : Option Nat) (x4 : Int32) : Option (Int32 × AS) :=
  (kr_sx X L (x4 + (1 : Int32))).bind fun v583 =>
  kr_b2 (f_W_sumAnew S x1 v583 x3) fun v585 S584 =>
  (kr_sx X L (x4 + (1 : Int32))).bind fun v586 =>
  (kr_rv S584 23 x2).bind fun u587 =>
  kr_b2 (f_M_sumAnew S584 x2 v586) fun v589 S588 =>
  (kr_rv S588 23 x2).bind fun u590 =>
  kr_b2 (f_M_thrown S588 x2) fun v592 S591 =>
  if v592 = v585 then
  if v585 = 0 then
  (aJ S591 x3 (0 : Int32)).bind fun v593 =>
  if (lg_cmp v593 v589.toInt64) = 0 then
  f_W_law_B3320 X L k23 S591 x1 x2 x3 x4
  else
  some ((0 : Int32), S591)
  else
  f_W_law_B3320 X L k23 S591 x1 x2 x3 x4
  else
  some ((0 : Int32), S591)
def f_W_law_C23 (X : Nat → Int32) (L : Nat) (k23 : AS → Option Nat → Option Nat → Option Nat → Int32 → Option (Int32 × AS)) (S : AS) (x1 : Option Nat) (x2 : Option Nat) (x3 : Option Nat) (x4 : Int32) : Option (Int32 × AS) :=
  if ((Int32.ofNat L) - (6 : Int32)) < x4 then
  some ((1 : Int32), S)
  else
  (kr_sx X L x4).bind fun v594 =>
  (some (v594 &&& (63 : Int32))).bind fun i595 =>
  if i595 = (0 : Int32) then
  f_W_law_B260 X L k23 S x1 x2 x3 x4
  else if i595 = (1 : Int32) then
  f_W_law_B316 X L k23 S x1 x2 x3 x4
  else if i595 = (2 : Int32) then
  f_W_law_B384 X L k23 S x1 x2 x3 x4
  else if i595 = (3 : Int32) then
  f_W_law_B452 X L k23 S x1 x2 x3 x4
  else if i595 = (4 : Int32) then
  f_W_law_B556 X L k23 S x1 x2 x3 x4
  else if i595 = (5 : Int32) then
  f_W_law_B569 X L k23 S x1 x2 x3 x4
  else if i595 = (6 : Int32) then
  f_W_law_B613 X L k23 S x1 x2 x3 x4
  else if i595 = (7 : Int32) then
  f_W_law_B669 X L k23 S x1 x2 x3 x4
  else if i595 = (8 : Int32) then
  f_W_law_B765 X L k23 S x1 x2 x3 x4
  else if i595 = (9 : Int32) then
  f_W_law_B845 X L k23 S x1 x2 x3 x4
  else if i595 = (10 : Int32) then
  f_W_law_B941 X L k23 S x1 x2 x3 x4
  else if i595 = (11 : Int32) then
  f_W_law_B997 X L k23 S x1 x2 x3 x4
  else if i595 = (12 : Int32) then
  f_W_law_B1053 X L k23 S x1 x2 x3 x4
  else if i595 = (13 : Int32) then
  f_W_law_B1109 X L k23 S x1 x2 x3 x4
  else if i595 = (14 : Int32) then
  f_W_law_B1165 X L k23 S x1 x2 x3 x4
  else if i595 = (15 : Int32) then
  f_W_law_B1221 X L k23 S x1 x2 x3 x4
  else if i595 = (16 : Int32) then
  f_W_law_B1234 X L k23 S x1 x2 x3 x4
  else if i595 = (17 : Int32) then
  f_W_law_B1297 X L k23 S x1 x2 x3 x4
  else if i595 = (18 : Int32) then
  f_W_law_B1360 X L k23 S x1 x2 x3 x4
  else if i595 = (19 : Int32) then
  f_W_law_B1416 X L k23 S x1 x2 x3 x4
  else if i595 = (20 : Int32) then
  f_W_law_B1524 X L k23 S x1 x2 x3 x4
  else if i595 = (21 : Int32) then
  f_W_law_B1580 X L k23 S x1 x2 x3 x4
  else if i595 = (22 : Int32) then
  f_W_law_B1643 X L k23 S x1 x2 x3 x4
  else if i595 = (23 : Int32) then
  f_W_law_B1711 X L k23 S x1 x2 x3 x4
  else if i595 = (24 : Int32) then
  f_W_law_B1791 X L k23 S x1 x2 x3 x4
  else if i595 = (25 : Int32) then
  f_W_law_B1859 X L k23 S x1 x2 x3 x4
  else if i595 = (26 : Int32) then
  f_W_law_B1927 X L k23 S x1 x2 x3 x4
  else if i595 = (27 : Int32) then
  f_W_law_B2019 X L k23 S x1 x2 x3 x4
  else if i595 = (28 : Int32) then
  f_W_law_B2075 X L k23 S x1 x2 x3 x4
  else if i595 = (29 : Int32) then
  f_W_law_B2143 X L k23 S x1 x2 x3 x4
  else if i595 = (30 : Int32) then
  f_W_law_B2206 X L k23 S x1 x2 x3 x4
  else if i595 = (31 : Int32) then
  f_W_law_B2262 X L k23 S x1 x2 x3 x4
  else if i595 = (32 : Int32) then
  f_W_law_B2342 X L k23 S x1 x2 x3 x4
  else if i595 = (33 : Int32) then
  f_W_law_B2398 X L k23 S x1 x2 x3 x4
  else if i595 = (34 : Int32) then
  f_W_law_B2442 X L k23 S x1 x2 x3 x4
  else if i595 = (35 : Int32) then
  f_W_law_B2486 X L k23 S x1 x2 x3 x4
  else if i595 = (36 : Int32) then
  f_W_law_B2499 X L k23 S x1 x2 x3 x4
  else if i595 = (37 : Int32) then
  f_W_law_B2562 X L k23 S x1 x2 x3 x4
  else if i595 = (38 : Int32) then
  f_W_law_B2618 X L k23 S x1 x2 x3 x4
  else if i595 = (39 : Int32) then
  f_W_law_B2698 X L k23 S x1 x2 x3 x4
  else if i595 = (40 : Int32) then
  f_W_law_B2754 X L k23 S x1 x2 x3 x4
  else if i595 = (41 : Int32) then
  f_W_law_B2810 X L k23 S x1 x2 x3 x4
  else if i595 = (42 : Int32) then
  f_W_law_B2878 X L k23 S x1 x2 x3 x4
  else if i595 = (43 : Int32) then
  f_W_law_B2946 X L k23 S x1 x2 x3 x4
  else if i595 = (44 : Int32) then
  f_W_law_B3002 X L k23 S x1 x2 x3 x4
  else if i595 = (45 : Int32) then
  f_W_law_B3070 X L k23 S x1 x2 x3 x4
  else if i595 = (46 : Int32) then
  f_W_law_B3126 X L k23 S x1 x2 x3 x4
  else if i595 = (47 : Int32) then
  f_W_law_B3182 X L k23 S x1 x2 x3 x4
  else if i595 = (48 : Int32) then
  f_W_law_B3195 X L k23 S x1 x2 x3 x4
  else if i595 = (49 : Int32) then
  f_W_law_B3251 X L k23 S x1 x2 x3 x4
  else if i595 = (50 : Int32) then
  f_W_law_B3264 X L k23 S x1 x2 x3 x4
  else f_W_law_B3320 X L k23 S x1 x2 x3 x4
def f_W_law_L23 (X : Nat → Int32) (L : Nat) : Nat → AS → Option Nat → Option Nat → Option Nat → Int32 → Option (Int32 × AS)
  | 0, S, x1, x2, x3, x4 => none
  | n + 1, S, x1, x2, x3, x4 => f_W_law_C23 X L (f_W_law_L23 X L n) S x1 x2 x3 x4
def f_W_law (X : Nat → Int32) (L : Nat) (S : AS) : Option (Int32 × AS) :=
  (some (nO S 22)).bind fun S596 =>
  (f_K_init S596 (some (sN S))).bind fun S597 =>
  (some (nO S597 23)).bind fun S598 =>
  (f_M_init S598 (some (sN S597))).bind fun S599 =>
  (nA S599 42 (1 : Int32)).bind fun S600 =>
  f_W_law_L23 X L kr_FU S600 (some (sN S)) (some (sN S597)) (some (sN S599)) (0 : Int32)
set_option maxRecDepth 20000 in
set_option maxHeartbeats 4000000 in
theorem s_W_law_B3320 {X : Nat → Int32} {L : Nat} {k23 : AS → Option Nat → Option Nat → Option Nat → Int32 → Option (Int32 × AS)} (hk23 : ∀ {S : AS} {x1 : Option Nat} {x2 : Option Nat} {x3 : Option Nat} {x4 : Int32} {r : (Int32 × AS)}, k23 S x1 x2 x3 x4 = some r → kr_AW (m_W_law X L) 15 23 [(0, va_rf (some 2)), (1, va_rf x1), (2, va_rf x2), (3, va_rf x3), (4, .int x4)] [] S (kr_eI r)) {S : AS} {x1 : Option Nat} {x2 : Option Nat} {x3 : Option Nat} {x4 : Int32} {r : (Int32 × AS)} (h : f_W_law_B3320 X L k23 S x1 x2 x3 x4 = some r) : kr_AW (m_W_law X L) 15 3320 [(0, va_rf (some 2)), (1, va_rf x1), (2, va_rf x2), (3, va_rf x3), (4, .int x4)] [] S (kr_eI r) := by
  unfold f_W_law_B3320 at h
  have h2 := kr_ob h
  clear h
  obtain ⟨i1, ei1, h⟩ := h2
  refine r_iinc (v := i1) (lv' := [(4, .int i1), (0, va_rf (some 2)), (1, va_rf x1), (2, va_rf x2), (3, va_rf x3)]) 4 rfl (kr_inc (by decide) ei1) (by show (4 : Nat) < 7; decide) (by simp [kr_st, kr_rfcat, kr_icat]) d_W_law_3320 ?_
  refine r_goto (tgt := 23) d_W_law_3323 rfl ?_
  exact kr_sub [1, 2, 3, 4, 0] rfl (hk23 h)
set_option maxRecDepth 20000 in
set_option maxHeartbeats 4000000 in
theorem s_W_law_B260 {X : Nat → Int32} {L : Nat} {k23 : AS → Option Nat → Option Nat → Option Nat → Int32 → Option (Int32 × AS)} (hk23 : ∀ {S : AS} {x1 : Option Nat} {x2 : Option Nat} {x3 : Option Nat} {x4 : Int32} {r : (Int32 × AS)}, k23 S x1 x2 x3 x4 = some r → kr_AW (m_W_law X L) 15 23 [(0, va_rf (some 2)), (1, va_rf x1), (2, va_rf x2), (3, va_rf x3), (4, .int x4)] [] S (kr_eI r)) {S : AS} {x1 : Option Nat} {x2 : Option Nat} {x3 : Option Nat} {x4 : Int32} {r : (Int32 × AS)} (h : f_W_law_B260 X L k23 S x1 x2 x3 x4 = some r) : kr_AW (m_W_law X L) 15 260 [(0, va_rf (some 2)), (1, va_rf x1), (2, va_rf x2), (3, va_rf x3), (4, .int x4)] [] S (kr_eI r) := by
  unfold f_W_law_B260 at h
  refine r_aload_n (i := 1) (x := x1) 1 rfl d_W_law_260 ?_
  refine r_aload_n (i := 0) (x := (some 2)) 0 rfl d_W_law_261 ?_
  refine r_iload (i := 4) (x := x4) 4 rfl d_W_law_262 ?_
  refine r_iconst (v := (1 : Int32)) (by decide) d_W_law_264 ?_
  refine r_iadd d_W_law_265 ?_
  have h2 := kr_ob h
  clear h
  obtain ⟨v2, ev2, h⟩ := h2
  refine r_sload rfl ev2 d_W_law_266 ?_
  refine r_aload_n (i := 3) (x := x3) 3 rfl d_W_law_267 ?_
  have h2 := kr_ob2 h
  clear h
  obtain ⟨v4, S3, eS3, h⟩ := h2
  refine r_callSX (M1 := m_W_pass) (As := [va_rf x1, .int v2, va_rf x3]) (s_W_pass eS3) mok_W_pass (by decide) w364 w365 (by decide) (kr_c8 kr_c0) d_W_law_268 (kr_k1 ?_) kr_kn
  refine r_istore (i := 5) (lv' := [(5, .int v4), (0, va_rf (some 2)), (1, va_rf x1), (2, va_rf x2), (3, va_rf x3), (4, .int x4)]) (by show (5 : Nat) < 7; decide) rfl d_W_law_271 ?_
  refine r_aload_n (i := 2) (x := x2) 3 rfl d_W_law_273 ?_
  refine r_aload_n (i := 0) (x := (some 2)) 1 rfl d_W_law_274 ?_
  refine r_iload (i := 4) (x := x4) 5 rfl d_W_law_275 ?_
  refine r_iconst (v := (1 : Int32)) (by decide) d_W_law_277 ?_
  refine r_iadd d_W_law_278 ?_
  have h2 := kr_ob h
  clear h
  obtain ⟨v5, ev5, h⟩ := h2
  refine r_sload rfl ev5 d_W_law_279 ?_
  have h2 := kr_ob h
  clear h
  obtain ⟨⟨⟩, eu6, h⟩ := h2
  have h2 := kr_ob2 h
  clear h
  obtain ⟨v8, S7, eS7, h⟩ := h2
  refine r_callV (M1 := m_M_pass) (κ := 23) (As := [.int v5]) eu6 (s_M_pass eS7) mok_M_pass rfl (by decide) rfl w1716 w1717 w1718 (by decide) (kr_c8 kr_c0) d_W_law_280 (kr_k1 ?_) kr_kn
  refine r_istore (i := 6) (lv' := [(6, .int v8), (5, .int v4), (0, va_rf (some 2)), (1, va_rf x1), (2, va_rf x2), (3, va_rf x3), (4, .int x4)]) (by show (6 : Nat) < 7; decide) rfl d_W_law_283 ?_
  refine r_aload_n (i := 2) (x := x2) 4 rfl d_W_law_285 ?_
  have h2 := kr_ob h
  clear h
  obtain ⟨⟨⟩, eu9, h⟩ := h2
  have h2 := kr_ob2 h
  clear h
  obtain ⟨v11, S10, eS10, h⟩ := h2
  refine r_callV (M1 := m_M_thrown) (κ := 23) (As := []) eu9 (s_M_thrown eS10) mok_M_thrown rfl (by decide) rfl w1688 w1689 w1690 (by decide) (kr_c8 kr_c0) d_W_law_286 (kr_k1 ?_) kr_kn
  refine r_iload (i := 5) (x := v4) 1 rfl d_W_law_289 ?_
  refine r_icmp_eq (tgt := 296) d_W_law_291 rfl (fun c => ?_) (fun c => ?_)
  · replace h := kr_ip c h
    refine r_iload (i := 5) (x := v4) 1 rfl d_W_law_296 ?_
    refine r_if_ne (tgt := 313) d_W_law_298 rfl (fun c => ?_) (fun c => ?_)
    · replace h := kr_ip c h
      refine r_aload_n (i := 3) (x := x3) 5 rfl d_W_law_301 ?_
      refine r_iconst (v := (0 : Int32)) (by decide) d_W_law_302 ?_
      have h2 := kr_ob h
      clear h
      obtain ⟨v12, ev12, h⟩ := h2
      refine r_laload ev12 d_W_law_303 ?_
      refine r_iload (i := 6) (x := v8) 0 rfl d_W_law_304 ?_
      refine r_i2l d_W_law_306 ?_
      refine r_lcmp d_W_law_307 ?_
      refine r_if_eq (tgt := 313) d_W_law_308 rfl (fun c => ?_) (fun c => ?_)
      · replace h := kr_ip c h
        refine r_goto (tgt := 3320) d_W_law_313 rfl ?_
        exact kr_sub [2, 3, 4, 5, 6] rfl (s_W_law_B3320 hk23 h)
      · replace h := kr_in_ c h
        refine r_iconst (v := (0 : Int32)) (by decide) d_W_law_311 ?_
        cases h
        exact r_zret rfl rfl d_W_law_312
    · replace h := kr_in_ c h
      refine r_goto (tgt := 3320) d_W_law_313 rfl ?_
      exact kr_sub [2, 3, 4, 5, 6] rfl (s_W_law_B3320 hk23 h)
  · replace h := kr_in_ c h
    refine r_iconst (v := (0 : Int32)) (by decide) d_W_law_294 ?_
    cases h
    exact r_zret rfl rfl d_W_law_295
set_option maxRecDepth 20000 in
set_option maxHeartbeats 4000000 in
theorem s_W_law_B316 {X : Nat → Int32} {L : Nat} {k23 : AS → Option Nat → Option Nat → Option Nat → Int32 → Option (Int32 × AS)} (hk23 : ∀ {S : AS} {x1 : Option Nat} {x2 : Option Nat} {x3 : Option Nat} {x4 : Int32} {r : (Int32 × AS)}, k23 S x1 x2 x3 x4 = some r → kr_AW (m_W_law X L) 15 23 [(0, va_rf (some 2)), (1, va_rf x1), (2, va_rf x2), (3, va_rf x3), (4, .int x4)] [] S (kr_eI r)) {S : AS} {x1 : Option Nat} {x2 : Option Nat} {x3 : Option Nat} {x4 : Int32} {r : (Int32 × AS)} (h : f_W_law_B316 X L k23 S x1 x2 x3 x4 = some r) : kr_AW (m_W_law X L) 15 316 [(0, va_rf (some 2)), (1, va_rf x1), (2, va_rf x2), (3, va_rf x3), (4, .int x4)] [] S (kr_eI r) := by
  unfold f_W_law_B316 at h
  refine r_aload_n (i := 1) (x := x1) 1 rfl d_W_law_316 ?_
  refine r_aload_n (i := 0) (x := (some 2)) 0 rfl d_W_law_317 ?_
  refine r_iload (i := 4) (x := x4) 4 rfl d_W_law_318 ?_
  refine r_iconst (v := (1 : Int32)) (by decide) d_W_law_320 ?_
  refine r_iadd d_W_law_321 ?_
  have h2 := kr_ob h
  clear h
  obtain ⟨v13, ev13, h⟩ := h2
  refine r_sload rfl ev13 d_W_law_322 ?_
  refine r_aload_n (i := 0) (x := (some 2)) 0 rfl d_W_law_323 ?_
  refine r_iload (i := 4) (x := x4) 4 rfl d_W_law_324 ?_
  refine r_iconst (v := (2 : Int32)) (by decide) d_W_law_326 ?_
  refine r_iadd d_W_law_327 ?_
  have h2 := kr_ob h
  clear h
  obtain ⟨v14, ev14, h⟩ := h2
  refine r_sload rfl ev14 d_W_law_328 ?_
  refine r_aload_n (i := 3) (x := x3) 3 rfl d_W_law_329 ?_
  have h2 := kr_ob2 h
  clear h
  obtain ⟨v16, S15, eS15, h⟩ := h2
  refine r_callSX (M1 := m_W_enroll) (As := [va_rf x1, .int v13, .int v14, va_rf x3]) (s_W_enroll eS15) mok_W_enroll (by decide) w551 w552 (by decide) (kr_c8 kr_c0) d_W_law_330 (kr_k1 ?_) kr_kn
  refine r_istore (i := 5) (lv' := [(5, .int v16), (0, va_rf (some 2)), (1, va_rf x1), (2, va_rf x2), (3, va_rf x3), (4, .int x4)]) (by show (5 : Nat) < 7; decide) rfl d_W_law_333 ?_
  refine r_aload_n (i := 2) (x := x2) 3 rfl d_W_law_335 ?_
  refine r_aload_n (i := 0) (x := (some 2)) 1 rfl d_W_law_336 ?_
  refine r_iload (i := 4) (x := x4) 5 rfl d_W_law_337 ?_
  refine r_iconst (v := (1 : Int32)) (by decide) d_W_law_339 ?_
  refine r_iadd d_W_law_340 ?_
  have h2 := kr_ob h
  clear h
  obtain ⟨v17, ev17, h⟩ := h2
  refine r_sload rfl ev17 d_W_law_341 ?_
  refine r_aload_n (i := 0) (x := (some 2)) 1 rfl d_W_law_342 ?_
  refine r_iload (i := 4) (x := x4) 5 rfl d_W_law_343 ?_
  refine r_iconst (v := (2 : Int32)) (by decide) d_W_law_345 ?_
  refine r_iadd d_W_law_346 ?_
  have h2 := kr_ob h
  clear h
  obtain ⟨v18, ev18, h⟩ := h2
  refine r_sload rfl ev18 d_W_law_347 ?_
  have h2 := kr_ob h
  clear h
  obtain ⟨⟨⟩, eu19, h⟩ := h2
  have h2 := kr_ob2 h
  clear h
  obtain ⟨v21, S20, eS20, h⟩ := h2
  refine r_callV (M1 := m_M_enroll) (κ := 23) (As := [.int v17, .int v18]) eu19 (s_M_enroll eS20) mok_M_enroll rfl (by decide) rfl w1744 w1745 w1746 (by decide) (kr_c8 kr_c0) d_W_law_348 (kr_k1 ?_) kr_kn
  refine r_istore (i := 6) (lv' := [(6, .int v21), (5, .int v16), (0, va_rf (some 2)), (1, va_rf x1), (2, va_rf x2), (3, va_rf x3), (4, .int x4)]) (by show (6 : Nat) < 7; decide) rfl d_W_law_351 ?_
  refine r_aload_n (i := 2) (x := x2) 4 rfl d_W_law_353 ?_
  have h2 := kr_ob h
  clear h
  obtain ⟨⟨⟩, eu22, h⟩ := h2
  have h2 := kr_ob2 h
  clear h
  obtain ⟨v24, S23, eS23, h⟩ := h2
  refine r_callV (M1 := m_M_thrown) (κ := 23) (As := []) eu22 (s_M_thrown eS23) mok_M_thrown rfl (by decide) rfl w1688 w1689 w1690 (by decide) (kr_c8 kr_c0) d_W_law_354 (kr_k1 ?_) kr_kn
  refine r_iload (i := 5) (x := v16) 1 rfl d_W_law_357 ?_
  refine r_icmp_eq (tgt := 364) d_W_law_359 rfl (fun c => ?_) (fun c => ?_)
  · replace h := kr_ip c h
    refine r_iload (i := 5) (x := v16) 1 rfl d_W_law_364 ?_
    refine r_if_ne (tgt := 381) d_W_law_366 rfl (fun c => ?_) (fun c => ?_)
    · replace h := kr_ip c h
      refine r_aload_n (i := 3) (x := x3) 5 rfl d_W_law_369 ?_
      refine r_iconst (v := (0 : Int32)) (by decide) d_W_law_370 ?_
      have h2 := kr_ob h
      clear h
      obtain ⟨v25, ev25, h⟩ := h2
      refine r_laload ev25 d_W_law_371 ?_
      refine r_iload (i := 6) (x := v21) 0 rfl d_W_law_372 ?_
      refine r_i2l d_W_law_374 ?_
      refine r_lcmp d_W_law_375 ?_
      refine r_if_eq (tgt := 381) d_W_law_376 rfl (fun c => ?_) (fun c => ?_)
      · replace h := kr_ip c h
        refine r_goto (tgt := 3320) d_W_law_381 rfl ?_
        exact kr_sub [2, 3, 4, 5, 6] rfl (s_W_law_B3320 hk23 h)
      · replace h := kr_in_ c h
        refine r_iconst (v := (0 : Int32)) (by decide) d_W_law_379 ?_
        cases h
        exact r_zret rfl rfl d_W_law_380
    · replace h := kr_in_ c h
      refine r_goto (tgt := 3320) d_W_law_381 rfl ?_
      exact kr_sub [2, 3, 4, 5, 6] rfl (s_W_law_B3320 hk23 h)
  · replace h := kr_in_ c h
    refine r_iconst (v := (0 : Int32)) (by decide) d_W_law_362 ?_
    cases h
    exact r_zret rfl rfl d_W_law_363
set_option maxRecDepth 20000 in
set_option maxHeartbeats 4000000 in
theorem s_W_law_B384 {X : Nat → Int32} {L : Nat} {k23 : AS → Option Nat → Option Nat → Option Nat → Int32 → Option (Int32 × AS)} (hk23 : ∀ {S : AS} {x1 : Option Nat} {x2 : Option Nat} {x3 : Option Nat} {x4 : Int32} {r : (Int32 × AS)}, k23 S x1 x2 x3 x4 = some r → kr_AW (m_W_law X L) 15 23 [(0, va_rf (some 2)), (1, va_rf x1), (2, va_rf x2), (3, va_rf x3), (4, .int x4)] [] S (kr_eI r)) {S : AS} {x1 : Option Nat} {x2 : Option Nat} {x3 : Option Nat} {x4 : Int32} {r : (Int32 × AS)} (h : f_W_law_B384 X L k23 S x1 x2 x3 x4 = some r) : kr_AW (m_W_law X L) 15 384 [(0, va_rf (some 2)), (1, va_rf x1), (2, va_rf x2), (3, va_rf x3), (4, .int x4)] [] S (kr_eI r) := by
  unfold f_W_law_B384 at h
  refine r_aload_n (i := 1) (x := x1) 1 rfl d_W_law_384 ?_
  refine r_aload_n (i := 0) (x := (some 2)) 0 rfl d_W_law_385 ?_
  refine r_iload (i := 4) (x := x4) 4 rfl d_W_law_386 ?_
  refine r_iconst (v := (1 : Int32)) (by decide) d_W_law_388 ?_
  refine r_iadd d_W_law_389 ?_
  have h2 := kr_ob h
  clear h
  obtain ⟨v26, ev26, h⟩ := h2
  refine r_sload rfl ev26 d_W_law_390 ?_
  refine r_aload_n (i := 0) (x := (some 2)) 0 rfl d_W_law_391 ?_
  refine r_iload (i := 4) (x := x4) 4 rfl d_W_law_392 ?_
  refine r_iconst (v := (2 : Int32)) (by decide) d_W_law_394 ?_
  refine r_iadd d_W_law_395 ?_
  have h2 := kr_ob h
  clear h
  obtain ⟨v27, ev27, h⟩ := h2
  refine r_sload rfl ev27 d_W_law_396 ?_
  refine r_aload_n (i := 3) (x := x3) 3 rfl d_W_law_397 ?_
  have h2 := kr_ob2 h
  clear h
  obtain ⟨v29, S28, eS28, h⟩ := h2
  refine r_callSX (M1 := m_W_factor) (As := [va_rf x1, .int v26, .int v27, va_rf x3]) (s_W_factor eS28) mok_W_factor (by decide) w575 w576 (by decide) (kr_c8 kr_c0) d_W_law_398 (kr_k1 ?_) kr_kn
  refine r_istore (i := 5) (lv' := [(5, .int v29), (0, va_rf (some 2)), (1, va_rf x1), (2, va_rf x2), (3, va_rf x3), (4, .int x4)]) (by show (5 : Nat) < 7; decide) rfl d_W_law_401 ?_
  refine r_aload_n (i := 2) (x := x2) 3 rfl d_W_law_403 ?_
  refine r_aload_n (i := 0) (x := (some 2)) 1 rfl d_W_law_404 ?_
  refine r_iload (i := 4) (x := x4) 5 rfl d_W_law_405 ?_
  refine r_iconst (v := (1 : Int32)) (by decide) d_W_law_407 ?_
  refine r_iadd d_W_law_408 ?_
  have h2 := kr_ob h
  clear h
  obtain ⟨v30, ev30, h⟩ := h2
  refine r_sload rfl ev30 d_W_law_409 ?_
  refine r_aload_n (i := 0) (x := (some 2)) 1 rfl d_W_law_410 ?_
  refine r_iload (i := 4) (x := x4) 5 rfl d_W_law_411 ?_
  refine r_iconst (v := (2 : Int32)) (by decide) d_W_law_413 ?_
  refine r_iadd d_W_law_414 ?_
  have h2 := kr_ob h
  clear h
  obtain ⟨v31, ev31, h⟩ := h2
  refine r_sload rfl ev31 d_W_law_415 ?_
  have h2 := kr_ob h
  clear h
  obtain ⟨⟨⟩, eu32, h⟩ := h2
  have h2 := kr_ob2 h
  clear h
  obtain ⟨v34, S33, eS33, h⟩ := h2
  refine r_callV (M1 := m_M_factor) (κ := 23) (As := [.int v30, .int v31]) eu32 (s_M_factor eS33) mok_M_factor rfl (by decide) rfl w1758 w1759 w1760 (by decide) (kr_c8 kr_c0) d_W_law_416 (kr_k1 ?_) kr_kn
  refine r_istore (i := 6) (lv' := [(6, .int v34), (5, .int v29), (0, va_rf (some 2)), (1, va_rf x1), (2, va_rf x2), (3, va_rf x3), (4, .int x4)]) (by show (6 : Nat) < 7; decide) rfl d_W_law_419 ?_
  refine r_aload_n (i := 2) (x := x2) 4 rfl d_W_law_421 ?_
  have h2 := kr_ob h
  clear h
  obtain ⟨⟨⟩, eu35, h⟩ := h2
  have h2 := kr_ob2 h
  clear h
  obtain ⟨v37, S36, eS36, h⟩ := h2
  refine r_callV (M1 := m_M_thrown) (κ := 23) (As := []) eu35 (s_M_thrown eS36) mok_M_thrown rfl (by decide) rfl w1688 w1689 w1690 (by decide) (kr_c8 kr_c0) d_W_law_422 (kr_k1 ?_) kr_kn
  refine r_iload (i := 5) (x := v29) 1 rfl d_W_law_425 ?_
  refine r_icmp_eq (tgt := 432) d_W_law_427 rfl (fun c => ?_) (fun c => ?_)
  · replace h := kr_ip c h
    refine r_iload (i := 5) (x := v29) 1 rfl d_W_law_432 ?_
    refine r_if_ne (tgt := 449) d_W_law_434 rfl (fun c => ?_) (fun c => ?_)
    · replace h := kr_ip c h
      refine r_aload_n (i := 3) (x := x3) 5 rfl d_W_law_437 ?_
      refine r_iconst (v := (0 : Int32)) (by decide) d_W_law_438 ?_
      have h2 := kr_ob h
      clear h
      obtain ⟨v38, ev38, h⟩ := h2
      refine r_laload ev38 d_W_law_439 ?_
      refine r_iload (i := 6) (x := v34) 0 rfl d_W_law_440 ?_
      refine r_i2l d_W_law_442 ?_
      refine r_lcmp d_W_law_443 ?_
      refine r_if_eq (tgt := 449) d_W_law_444 rfl (fun c => ?_) (fun c => ?_)
      · replace h := kr_ip c h
        refine r_goto (tgt := 3320) d_W_law_449 rfl ?_
        exact kr_sub [2, 3, 4, 5, 6] rfl (s_W_law_B3320 hk23 h)
      · replace h := kr_in_ c h
        refine r_iconst (v := (0 : Int32)) (by decide) d_W_law_447 ?_
        cases h
        exact r_zret rfl rfl d_W_law_448
    · replace h := kr_in_ c h
      refine r_goto (tgt := 3320) d_W_law_449 rfl ?_
      exact kr_sub [2, 3, 4, 5, 6] rfl (s_W_law_B3320 hk23 h)
  · replace h := kr_in_ c h
    refine r_iconst (v := (0 : Int32)) (by decide) d_W_law_430 ?_
    cases h
    exact r_zret rfl rfl d_W_law_431
set_option maxRecDepth 20000 in
set_option maxHeartbeats 4000000 in
theorem s_W_law_B452 {X : Nat → Int32} {L : Nat} {k23 : AS → Option Nat → Option Nat → Option Nat → Int32 → Option (Int32 × AS)} (hk23 : ∀ {S : AS} {x1 : Option Nat} {x2 : Option Nat} {x3 : Option Nat} {x4 : Int32} {r : (Int32 × AS)}, k23 S x1 x2 x3 x4 = some r → kr_AW (m_W_law X L) 15 23 [(0, va_rf (some 2)), (1, va_rf x1), (2, va_rf x2), (3, va_rf x3), (4, .int x4)] [] S (kr_eI r)) {S : AS} {x1 : Option Nat} {x2 : Option Nat} {x3 : Option Nat} {x4 : Int32} {r : (Int32 × AS)} (h : f_W_law_B452 X L k23 S x1 x2 x3 x4 = some r) : kr_AW (m_W_law X L) 15 452 [(0, va_rf (some 2)), (1, va_rf x1), (2, va_rf x2), (3, va_rf x3), (4, .int x4)] [] S (kr_eI r) := by
  unfold f_W_law_B452 at h
  refine r_aload_n (i := 1) (x := x1) 1 rfl d_W_law_452 ?_
  refine r_aload_n (i := 0) (x := (some 2)) 0 rfl d_W_law_453 ?_
  refine r_iload (i := 4) (x := x4) 4 rfl d_W_law_454 ?_
  refine r_iconst (v := (1 : Int32)) (by decide) d_W_law_456 ?_
  refine r_iadd d_W_law_457 ?_
  have h2 := kr_ob h
  clear h
  obtain ⟨v39, ev39, h⟩ := h2
  refine r_sload rfl ev39 d_W_law_458 ?_
  refine r_aload_n (i := 0) (x := (some 2)) 0 rfl d_W_law_459 ?_
  refine r_iload (i := 4) (x := x4) 4 rfl d_W_law_460 ?_
  refine r_iconst (v := (2 : Int32)) (by decide) d_W_law_462 ?_
  refine r_iadd d_W_law_463 ?_
  have h2 := kr_ob h
  clear h
  obtain ⟨v40, ev40, h⟩ := h2
  refine r_sload rfl ev40 d_W_law_464 ?_
  refine r_aload_n (i := 0) (x := (some 2)) 0 rfl d_W_law_465 ?_
  refine r_iload (i := 4) (x := x4) 4 rfl d_W_law_466 ?_
  refine r_iconst (v := (3 : Int32)) (by decide) d_W_law_468 ?_
  refine r_iadd d_W_law_469 ?_
  have h2 := kr_ob h
  clear h
  obtain ⟨v41, ev41, h⟩ := h2
  refine r_sload rfl ev41 d_W_law_470 ?_
  refine r_aload_n (i := 0) (x := (some 2)) 0 rfl d_W_law_471 ?_
  refine r_iload (i := 4) (x := x4) 4 rfl d_W_law_472 ?_
  refine r_iconst (v := (4 : Int32)) (by decide) d_W_law_474 ?_
  refine r_iadd d_W_law_475 ?_
  have h2 := kr_ob h
  clear h
  obtain ⟨v42, ev42, h⟩ := h2
  refine r_sload rfl ev42 d_W_law_476 ?_
  refine r_aload_n (i := 0) (x := (some 2)) 0 rfl d_W_law_477 ?_
  refine r_iload (i := 4) (x := x4) 4 rfl d_W_law_478 ?_
  refine r_iconst (v := (5 : Int32)) (by decide) d_W_law_480 ?_
  refine r_iadd d_W_law_481 ?_
  have h2 := kr_ob h
  clear h
  obtain ⟨v43, ev43, h⟩ := h2
  refine r_sload rfl ev43 d_W_law_482 ?_
  refine r_aload_n (i := 3) (x := x3) 3 rfl d_W_law_483 ?_
  have h2 := kr_ob2 h
  clear h
  obtain ⟨v45, S44, eS44, h⟩ := h2
  refine r_callSX (M1 := m_W_step) (As := [va_rf x1, .int v39, .int v40, .int v41, .int v42, .int v43, va_rf x3]) (s_W_step eS44) mok_W_step (by decide) w582 w583 (by decide) (kr_c8 kr_c0) d_W_law_484 (kr_k1 ?_) kr_kn
  refine r_istore (i := 5) (lv' := [(5, .int v45), (0, va_rf (some 2)), (1, va_rf x1), (2, va_rf x2), (3, va_rf x3), (4, .int x4)]) (by show (5 : Nat) < 7; decide) rfl d_W_law_487 ?_
  refine r_aload_n (i := 2) (x := x2) 3 rfl d_W_law_489 ?_
  refine r_aload_n (i := 0) (x := (some 2)) 1 rfl d_W_law_490 ?_
  refine r_iload (i := 4) (x := x4) 5 rfl d_W_law_491 ?_
  refine r_iconst (v := (1 : Int32)) (by decide) d_W_law_493 ?_
  refine r_iadd d_W_law_494 ?_
  have h2 := kr_ob h
  clear h
  obtain ⟨v46, ev46, h⟩ := h2
  refine r_sload rfl ev46 d_W_law_495 ?_
  refine r_aload_n (i := 0) (x := (some 2)) 1 rfl d_W_law_496 ?_
  refine r_iload (i := 4) (x := x4) 5 rfl d_W_law_497 ?_
  refine r_iconst (v := (2 : Int32)) (by decide) d_W_law_499 ?_
  refine r_iadd d_W_law_500 ?_
  have h2 := kr_ob h
  clear h
  obtain ⟨v47, ev47, h⟩ := h2
  refine r_sload rfl ev47 d_W_law_501 ?_
  refine r_aload_n (i := 0) (x := (some 2)) 1 rfl d_W_law_502 ?_
  refine r_iload (i := 4) (x := x4) 5 rfl d_W_law_503 ?_
  refine r_iconst (v := (3 : Int32)) (by decide) d_W_law_505 ?_
  refine r_iadd d_W_law_506 ?_
  have h2 := kr_ob h
  clear h
  obtain ⟨v48, ev48, h⟩ := h2
  refine r_sload rfl ev48 d_W_law_507 ?_
  refine r_aload_n (i := 0) (x := (some 2)) 1 rfl d_W_law_508 ?_
  refine r_iload (i := 4) (x := x4) 5 rfl d_W_law_509 ?_
  refine r_iconst (v := (4 : Int32)) (by decide) d_W_law_511 ?_
  refine r_iadd d_W_law_512 ?_
  have h2 := kr_ob h
  clear h
  obtain ⟨v49, ev49, h⟩ := h2
  refine r_sload rfl ev49 d_W_law_513 ?_
  refine r_aload_n (i := 0) (x := (some 2)) 1 rfl d_W_law_514 ?_
  refine r_iload (i := 4) (x := x4) 5 rfl d_W_law_515 ?_
  refine r_iconst (v := (5 : Int32)) (by decide) d_W_law_517 ?_
  refine r_iadd d_W_law_518 ?_
  have h2 := kr_ob h
  clear h
  obtain ⟨v50, ev50, h⟩ := h2
  refine r_sload rfl ev50 d_W_law_519 ?_
  have h2 := kr_ob h
  clear h
  obtain ⟨⟨⟩, eu51, h⟩ := h2
  have h2 := kr_ob2 h
  clear h
  obtain ⟨v53, S52, eS52, h⟩ := h2
  refine r_callV (M1 := m_M_step) (κ := 23) (As := [.int v46, .int v47, .int v48, .int v49, .int v50]) eu51 (s_M_step eS52) mok_M_step rfl (by decide) rfl w1762 w1763 w1764 (by decide) (kr_c8 kr_c0) d_W_law_520 (kr_k1 ?_) kr_kn
  refine r_istore (i := 6) (lv' := [(6, .int v53), (5, .int v45), (0, va_rf (some 2)), (1, va_rf x1), (2, va_rf x2), (3, va_rf x3), (4, .int x4)]) (by show (6 : Nat) < 7; decide) rfl d_W_law_523 ?_
  refine r_aload_n (i := 2) (x := x2) 4 rfl d_W_law_525 ?_
  have h2 := kr_ob h
  clear h
  obtain ⟨⟨⟩, eu54, h⟩ := h2
  have h2 := kr_ob2 h
  clear h
  obtain ⟨v56, S55, eS55, h⟩ := h2
  refine r_callV (M1 := m_M_thrown) (κ := 23) (As := []) eu54 (s_M_thrown eS55) mok_M_thrown rfl (by decide) rfl w1688 w1689 w1690 (by decide) (kr_c8 kr_c0) d_W_law_526 (kr_k1 ?_) kr_kn
  refine r_iload (i := 5) (x := v45) 1 rfl d_W_law_529 ?_
  refine r_icmp_eq (tgt := 536) d_W_law_531 rfl (fun c => ?_) (fun c => ?_)
  · replace h := kr_ip c h
    refine r_iload (i := 5) (x := v45) 1 rfl d_W_law_536 ?_
    refine r_if_ne (tgt := 553) d_W_law_538 rfl (fun c => ?_) (fun c => ?_)
    · replace h := kr_ip c h
      refine r_aload_n (i := 3) (x := x3) 5 rfl d_W_law_541 ?_
      refine r_iconst (v := (0 : Int32)) (by decide) d_W_law_542 ?_
      have h2 := kr_ob h
      clear h
      obtain ⟨v57, ev57, h⟩ := h2
      refine r_laload ev57 d_W_law_543 ?_
      refine r_iload (i := 6) (x := v53) 0 rfl d_W_law_544 ?_
      refine r_i2l d_W_law_546 ?_
      refine r_lcmp d_W_law_547 ?_
      refine r_if_eq (tgt := 553) d_W_law_548 rfl (fun c => ?_) (fun c => ?_)
      · replace h := kr_ip c h
        refine r_goto (tgt := 3320) d_W_law_553 rfl ?_
        exact kr_sub [2, 3, 4, 5, 6] rfl (s_W_law_B3320 hk23 h)
      · replace h := kr_in_ c h
        refine r_iconst (v := (0 : Int32)) (by decide) d_W_law_551 ?_
        cases h
        exact r_zret rfl rfl d_W_law_552
    · replace h := kr_in_ c h
      refine r_goto (tgt := 3320) d_W_law_553 rfl ?_
      exact kr_sub [2, 3, 4, 5, 6] rfl (s_W_law_B3320 hk23 h)
  · replace h := kr_in_ c h
    refine r_iconst (v := (0 : Int32)) (by decide) d_W_law_534 ?_
    cases h
    exact r_zret rfl rfl d_W_law_535
set_option maxRecDepth 20000 in
set_option maxHeartbeats 4000000 in
theorem s_W_law_B556 {X : Nat → Int32} {L : Nat} {k23 : AS → Option Nat → Option Nat → Option Nat → Int32 → Option (Int32 × AS)} (hk23 : ∀ {S : AS} {x1 : Option Nat} {x2 : Option Nat} {x3 : Option Nat} {x4 : Int32} {r : (Int32 × AS)}, k23 S x1 x2 x3 x4 = some r → kr_AW (m_W_law X L) 15 23 [(0, va_rf (some 2)), (1, va_rf x1), (2, va_rf x2), (3, va_rf x3), (4, .int x4)] [] S (kr_eI r)) {S : AS} {x1 : Option Nat} {x2 : Option Nat} {x3 : Option Nat} {x4 : Int32} {r : (Int32 × AS)} (h : f_W_law_B556 X L k23 S x1 x2 x3 x4 = some r) : kr_AW (m_W_law X L) 15 556 [(0, va_rf (some 2)), (1, va_rf x1), (2, va_rf x2), (3, va_rf x3), (4, .int x4)] [] S (kr_eI r) := by
  unfold f_W_law_B556 at h
  refine r_aload_n (i := 1) (x := x1) 1 rfl d_W_law_556 ?_
  have h2 := kr_ob h
  clear h
  obtain ⟨⟨⟩, eu58, h⟩ := h2
  have h2 := kr_ob2 h
  clear h
  obtain ⟨v60, S59, eS59, h⟩ := h2
  refine r_callV (M1 := m_K_clear) (κ := 22) (As := []) eu58 (s_K_clear eS59) mok_K_clear rfl (by decide) rfl w340 w341 w342 (by decide) (kr_c8 kr_c0) d_W_law_557 (kr_k1 ?_) kr_kn
  refine r_aload_n (i := 2) (x := x2) 2 rfl d_W_law_560 ?_
  have h2 := kr_ob h
  clear h
  obtain ⟨⟨⟩, eu61, h⟩ := h2
  have h2 := kr_ob2 h
  clear h
  obtain ⟨v63, S62, eS62, h⟩ := h2
  refine r_callV (M1 := m_M_clear) (κ := 23) (As := []) eu61 (s_M_clear eS62) mok_M_clear rfl (by decide) rfl w1769 w1770 w1771 (by decide) (kr_c8 (kr_cI kr_c0)) d_W_law_561 (kr_k1 ?_) kr_kn
  refine r_icmp_eq (tgt := 3320) d_W_law_564 rfl (fun c => ?_) (fun c => ?_)
  · replace h := kr_ip c h
    exact kr_sub [0, 1, 2, 3, 4] rfl (s_W_law_B3320 hk23 h)
  · replace h := kr_in_ c h
    refine r_iconst (v := (0 : Int32)) (by decide) d_W_law_567 ?_
    cases h
    exact r_zret rfl rfl d_W_law_568
set_option maxRecDepth 20000 in
set_option maxHeartbeats 4000000 in
theorem s_W_law_B569 {X : Nat → Int32} {L : Nat} {k23 : AS → Option Nat → Option Nat → Option Nat → Int32 → Option (Int32 × AS)} (hk23 : ∀ {S : AS} {x1 : Option Nat} {x2 : Option Nat} {x3 : Option Nat} {x4 : Int32} {r : (Int32 × AS)}, k23 S x1 x2 x3 x4 = some r → kr_AW (m_W_law X L) 15 23 [(0, va_rf (some 2)), (1, va_rf x1), (2, va_rf x2), (3, va_rf x3), (4, .int x4)] [] S (kr_eI r)) {S : AS} {x1 : Option Nat} {x2 : Option Nat} {x3 : Option Nat} {x4 : Int32} {r : (Int32 × AS)} (h : f_W_law_B569 X L k23 S x1 x2 x3 x4 = some r) : kr_AW (m_W_law X L) 15 569 [(0, va_rf (some 2)), (1, va_rf x1), (2, va_rf x2), (3, va_rf x3), (4, .int x4)] [] S (kr_eI r) := by
  unfold f_W_law_B569 at h
  refine r_aload_n (i := 1) (x := x1) 1 rfl d_W_law_569 ?_
  refine r_aload_n (i := 3) (x := x3) 3 rfl d_W_law_570 ?_
  have h2 := kr_ob2 h
  clear h
  obtain ⟨v65, S64, eS64, h⟩ := h2
  refine r_callSX (M1 := m_W_publish) (As := [va_rf x1, va_rf x3]) (s_W_publish eS64) mok_W_publish (by decide) w602 w603 (by decide) (kr_c8 kr_c0) d_W_law_571 (kr_k1 ?_) kr_kn
  refine r_istore (i := 5) (lv' := [(5, .int v65), (0, va_rf (some 2)), (1, va_rf x1), (2, va_rf x2), (3, va_rf x3), (4, .int x4)]) (by show (5 : Nat) < 7; decide) rfl d_W_law_574 ?_
  refine r_aload_n (i := 2) (x := x2) 3 rfl d_W_law_576 ?_
  have h2 := kr_ob h
  clear h
  obtain ⟨⟨⟩, eu66, h⟩ := h2
  have h2 := kr_ob2 h
  clear h
  obtain ⟨v68, S67, eS67, h⟩ := h2
  refine r_callV (M1 := m_M_publish) (κ := 23) (As := []) eu66 (s_M_publish eS67) mok_M_publish rfl (by decide) rfl w1773 w1774 w1775 (by decide) (kr_c8 kr_c0) d_W_law_577 (kr_k1 ?_) kr_kn
  refine r_istore (i := 6) (lv' := [(6, .int v68), (5, .int v65), (0, va_rf (some 2)), (1, va_rf x1), (2, va_rf x2), (3, va_rf x3), (4, .int x4)]) (by show (6 : Nat) < 7; decide) rfl d_W_law_580 ?_
  refine r_aload_n (i := 2) (x := x2) 4 rfl d_W_law_582 ?_
  have h2 := kr_ob h
  clear h
  obtain ⟨⟨⟩, eu69, h⟩ := h2
  have h2 := kr_ob2 h
  clear h
  obtain ⟨v71, S70, eS70, h⟩ := h2
  refine r_callV (M1 := m_M_thrown) (κ := 23) (As := []) eu69 (s_M_thrown eS70) mok_M_thrown rfl (by decide) rfl w1688 w1689 w1690 (by decide) (kr_c8 kr_c0) d_W_law_583 (kr_k1 ?_) kr_kn
  refine r_iload (i := 5) (x := v65) 1 rfl d_W_law_586 ?_
  refine r_icmp_eq (tgt := 593) d_W_law_588 rfl (fun c => ?_) (fun c => ?_)
  · replace h := kr_ip c h
    refine r_iload (i := 5) (x := v65) 1 rfl d_W_law_593 ?_
    refine r_if_ne (tgt := 610) d_W_law_595 rfl (fun c => ?_) (fun c => ?_)
    · replace h := kr_ip c h
      refine r_aload_n (i := 3) (x := x3) 5 rfl d_W_law_598 ?_
      refine r_iconst (v := (0 : Int32)) (by decide) d_W_law_599 ?_
      have h2 := kr_ob h
      clear h
      obtain ⟨v72, ev72, h⟩ := h2
      refine r_laload ev72 d_W_law_600 ?_
      refine r_iload (i := 6) (x := v68) 0 rfl d_W_law_601 ?_
      refine r_i2l d_W_law_603 ?_
      refine r_lcmp d_W_law_604 ?_
      refine r_if_eq (tgt := 610) d_W_law_605 rfl (fun c => ?_) (fun c => ?_)
      · replace h := kr_ip c h
        refine r_goto (tgt := 3320) d_W_law_610 rfl ?_
        exact kr_sub [2, 3, 4, 5, 6] rfl (s_W_law_B3320 hk23 h)
      · replace h := kr_in_ c h
        refine r_iconst (v := (0 : Int32)) (by decide) d_W_law_608 ?_
        cases h
        exact r_zret rfl rfl d_W_law_609
    · replace h := kr_in_ c h
      refine r_goto (tgt := 3320) d_W_law_610 rfl ?_
      exact kr_sub [2, 3, 4, 5, 6] rfl (s_W_law_B3320 hk23 h)
  · replace h := kr_in_ c h
    refine r_iconst (v := (0 : Int32)) (by decide) d_W_law_591 ?_
    cases h
    exact r_zret rfl rfl d_W_law_592
set_option maxRecDepth 20000 in
set_option maxHeartbeats 4000000 in
theorem s_W_law_B613 {X : Nat → Int32} {L : Nat} {k23 : AS → Option Nat → Option Nat → Option Nat → Int32 → Option (Int32 × AS)} (hk23 : ∀ {S : AS} {x1 : Option Nat} {x2 : Option Nat} {x3 : Option Nat} {x4 : Int32} {r : (Int32 × AS)}, k23 S x1 x2 x3 x4 = some r → kr_AW (m_W_law X L) 15 23 [(0, va_rf (some 2)), (1, va_rf x1), (2, va_rf x2), (3, va_rf x3), (4, .int x4)] [] S (kr_eI r)) {S : AS} {x1 : Option Nat} {x2 : Option Nat} {x3 : Option Nat} {x4 : Int32} {r : (Int32 × AS)} (h : f_W_law_B613 X L k23 S x1 x2 x3 x4 = some r) : kr_AW (m_W_law X L) 15 613 [(0, va_rf (some 2)), (1, va_rf x1), (2, va_rf x2), (3, va_rf x3), (4, .int x4)] [] S (kr_eI r) := by
  unfold f_W_law_B613 at h
  refine r_aload_n (i := 1) (x := x1) 1 rfl d_W_law_613 ?_
  refine r_aload_n (i := 0) (x := (some 2)) 0 rfl d_W_law_614 ?_
  refine r_iload (i := 4) (x := x4) 4 rfl d_W_law_615 ?_
  refine r_iconst (v := (1 : Int32)) (by decide) d_W_law_617 ?_
  refine r_iadd d_W_law_618 ?_
  have h2 := kr_ob h
  clear h
  obtain ⟨v73, ev73, h⟩ := h2
  refine r_sload rfl ev73 d_W_law_619 ?_
  refine r_aload_n (i := 3) (x := x3) 3 rfl d_W_law_620 ?_
  have h2 := kr_ob2 h
  clear h
  obtain ⟨v75, S74, eS74, h⟩ := h2
  refine r_callSX (M1 := m_W_weakest) (As := [va_rf x1, .int v73, va_rf x3]) (s_W_weakest eS74) mok_W_weakest (by decide) w706 w707 (by decide) (kr_c8 kr_c0) d_W_law_621 (kr_k1 ?_) kr_kn
  refine r_istore (i := 5) (lv' := [(5, .int v75), (0, va_rf (some 2)), (1, va_rf x1), (2, va_rf x2), (3, va_rf x3), (4, .int x4)]) (by show (5 : Nat) < 7; decide) rfl d_W_law_624 ?_
  refine r_aload_n (i := 2) (x := x2) 3 rfl d_W_law_626 ?_
  refine r_aload_n (i := 0) (x := (some 2)) 1 rfl d_W_law_627 ?_
  refine r_iload (i := 4) (x := x4) 5 rfl d_W_law_628 ?_
  refine r_iconst (v := (1 : Int32)) (by decide) d_W_law_630 ?_
  refine r_iadd d_W_law_631 ?_
  have h2 := kr_ob h
  clear h
  obtain ⟨v76, ev76, h⟩ := h2
  refine r_sload rfl ev76 d_W_law_632 ?_
  have h2 := kr_ob h
  clear h
  obtain ⟨⟨⟩, eu77, h⟩ := h2
  have h2 := kr_ob2 h
  clear h
  obtain ⟨v79, S78, eS78, h⟩ := h2
  refine r_callV (M1 := m_M_weakest) (κ := 23) (As := [.int v76]) eu77 (s_M_weakest eS78) mok_M_weakest rfl (by decide) rfl w1784 w1785 w1786 (by decide) (kr_c8 kr_c0) d_W_law_633 (kr_k1 ?_) kr_kn
  refine r_istore (i := 6) (lv' := [(6, .int v79), (5, .int v75), (0, va_rf (some 2)), (1, va_rf x1), (2, va_rf x2), (3, va_rf x3), (4, .int x4)]) (by show (6 : Nat) < 7; decide) rfl d_W_law_636 ?_
  refine r_aload_n (i := 2) (x := x2) 4 rfl d_W_law_638 ?_
  have h2 := kr_ob h
  clear h
  obtain ⟨⟨⟩, eu80, h⟩ := h2
  have h2 := kr_ob2 h
  clear h
  obtain ⟨v82, S81, eS81, h⟩ := h2
  refine r_callV (M1 := m_M_thrown) (κ := 23) (As := []) eu80 (s_M_thrown eS81) mok_M_thrown rfl (by decide) rfl w1688 w1689 w1690 (by decide) (kr_c8 kr_c0) d_W_law_639 (kr_k1 ?_) kr_kn
  refine r_iload (i := 5) (x := v75) 1 rfl d_W_law_642 ?_
  refine r_icmp_eq (tgt := 649) d_W_law_644 rfl (fun c => ?_) (fun c => ?_)
  · replace h := kr_ip c h
    refine r_iload (i := 5) (x := v75) 1 rfl d_W_law_649 ?_
    refine r_if_ne (tgt := 666) d_W_law_651 rfl (fun c => ?_) (fun c => ?_)
    · replace h := kr_ip c h
      refine r_aload_n (i := 3) (x := x3) 5 rfl d_W_law_654 ?_
      refine r_iconst (v := (0 : Int32)) (by decide) d_W_law_655 ?_
      have h2 := kr_ob h
      clear h
      obtain ⟨v83, ev83, h⟩ := h2
      refine r_laload ev83 d_W_law_656 ?_
      refine r_iload (i := 6) (x := v79) 0 rfl d_W_law_657 ?_
      refine r_i2l d_W_law_659 ?_
      refine r_lcmp d_W_law_660 ?_
      refine r_if_eq (tgt := 666) d_W_law_661 rfl (fun c => ?_) (fun c => ?_)
      · replace h := kr_ip c h
        refine r_goto (tgt := 3320) d_W_law_666 rfl ?_
        exact kr_sub [2, 3, 4, 5, 6] rfl (s_W_law_B3320 hk23 h)
      · replace h := kr_in_ c h
        refine r_iconst (v := (0 : Int32)) (by decide) d_W_law_664 ?_
        cases h
        exact r_zret rfl rfl d_W_law_665
    · replace h := kr_in_ c h
      refine r_goto (tgt := 3320) d_W_law_666 rfl ?_
      exact kr_sub [2, 3, 4, 5, 6] rfl (s_W_law_B3320 hk23 h)
  · replace h := kr_in_ c h
    refine r_iconst (v := (0 : Int32)) (by decide) d_W_law_647 ?_
    cases h
    exact r_zret rfl rfl d_W_law_648
set_option maxRecDepth 20000 in
set_option maxHeartbeats 4000000 in
theorem s_W_law_B729 {X : Nat → Int32} {L : Nat} {k23 : AS → Option Nat → Option Nat → Option Nat → Int32 → Option (Int32 × AS)} (hk23 : ∀ {S : AS} {x1 : Option Nat} {x2 : Option Nat} {x3 : Option Nat} {x4 : Int32} {r : (Int32 × AS)}, k23 S x1 x2 x3 x4 = some r → kr_AW (m_W_law X L) 15 23 [(0, va_rf (some 2)), (1, va_rf x1), (2, va_rf x2), (3, va_rf x3), (4, .int x4)] [] S (kr_eI r)) {S : AS} {x1 : Option Nat} {x2 : Option Nat} {x3 : Option Nat} {x4 : Int32} {x5 : Int32} {y0 : Option Nat} {y1 : Int32} {y2 : Int32} {y3 : Int32} {r : (Int32 × AS)} (h : f_W_law_B729 X L k23 S x1 x2 x3 x4 x5 y0 y1 y2 y3 = some r) : kr_AW (m_W_law X L) 15 729 [(0, va_rf (some 2)), (1, va_rf x1), (2, va_rf x2), (3, va_rf x3), (4, .int x4), (5, .int x5)] [.int y3, .int y2, .int y1, va_rf y0] S (kr_eI r) := by
  unfold f_W_law_B729 at h
  have h2 := kr_ob h
  clear h
  obtain ⟨⟨⟩, eu84, h⟩ := h2
  have h2 := kr_ob2 h
  clear h
  obtain ⟨v86, S85, eS85, h⟩ := h2
  refine r_callV (M1 := m_M_points) (κ := 23) (As := [.int y1, .int y2, .int y3]) eu84 (s_M_points eS85) mok_M_points rfl (by decide) rfl w1795 w1796 w1797 (by decide) (kr_c8 kr_c0) d_W_law_729 (kr_k1 ?_) kr_kn
  refine r_istore (i := 6) (lv' := [(6, .int v86), (0, va_rf (some 2)), (1, va_rf x1), (2, va_rf x2), (3, va_rf x3), (4, .int x4), (5, .int x5)]) (by show (6 : Nat) < 7; decide) rfl d_W_law_732 ?_
  refine r_aload_n (i := 2) (x := x2) 3 rfl d_W_law_734 ?_
  have h2 := kr_ob h
  clear h
  obtain ⟨⟨⟩, eu87, h⟩ := h2
  have h2 := kr_ob2 h
  clear h
  obtain ⟨v89, S88, eS88, h⟩ := h2
  refine r_callV (M1 := m_M_thrown) (κ := 23) (As := []) eu87 (s_M_thrown eS88) mok_M_thrown rfl (by decide) rfl w1688 w1689 w1690 (by decide) (kr_c8 kr_c0) d_W_law_735 (kr_k1 ?_) kr_kn
  refine r_iload (i := 5) (x := x5) 6 rfl d_W_law_738 ?_
  refine r_icmp_eq (tgt := 745) d_W_law_740 rfl (fun c => ?_) (fun c => ?_)
  · replace h := kr_ip c h
    refine r_iload (i := 5) (x := x5) 6 rfl d_W_law_745 ?_
    refine r_if_ne (tgt := 762) d_W_law_747 rfl (fun c => ?_) (fun c => ?_)
    · replace h := kr_ip c h
      refine r_aload_n (i := 3) (x := x3) 4 rfl d_W_law_750 ?_
      refine r_iconst (v := (0 : Int32)) (by decide) d_W_law_751 ?_
      have h2 := kr_ob h
      clear h
      obtain ⟨v90, ev90, h⟩ := h2
      refine r_laload ev90 d_W_law_752 ?_
      refine r_iload (i := 6) (x := v86) 0 rfl d_W_law_753 ?_
      refine r_i2l d_W_law_755 ?_
      refine r_lcmp d_W_law_756 ?_
      refine r_if_eq (tgt := 762) d_W_law_757 rfl (fun c => ?_) (fun c => ?_)
      · replace h := kr_ip c h
        refine r_goto (tgt := 3320) d_W_law_762 rfl ?_
        exact kr_sub [1, 2, 3, 4, 5] rfl (s_W_law_B3320 hk23 h)
      · replace h := kr_in_ c h
        refine r_iconst (v := (0 : Int32)) (by decide) d_W_law_760 ?_
        cases h
        exact r_zret rfl rfl d_W_law_761
    · replace h := kr_in_ c h
      refine r_goto (tgt := 3320) d_W_law_762 rfl ?_
      exact kr_sub [1, 2, 3, 4, 5] rfl (s_W_law_B3320 hk23 h)
  · replace h := kr_in_ c h
    refine r_iconst (v := (0 : Int32)) (by decide) d_W_law_743 ?_
    cases h
    exact r_zret rfl rfl d_W_law_744
set_option maxRecDepth 20000 in
set_option maxHeartbeats 4000000 in
theorem s_W_law_B696 {X : Nat → Int32} {L : Nat} {k23 : AS → Option Nat → Option Nat → Option Nat → Int32 → Option (Int32 × AS)} (hk23 : ∀ {S : AS} {x1 : Option Nat} {x2 : Option Nat} {x3 : Option Nat} {x4 : Int32} {r : (Int32 × AS)}, k23 S x1 x2 x3 x4 = some r → kr_AW (m_W_law X L) 15 23 [(0, va_rf (some 2)), (1, va_rf x1), (2, va_rf x2), (3, va_rf x3), (4, .int x4)] [] S (kr_eI r)) {S : AS} {x1 : Option Nat} {x2 : Option Nat} {x3 : Option Nat} {x4 : Int32} {y0 : Option Nat} {y1 : Int32} {y2 : Int32} {y3 : Int32} {r : (Int32 × AS)} (h : f_W_law_B696 X L k23 S x1 x2 x3 x4 y0 y1 y2 y3 = some r) : kr_AW (m_W_law X L) 15 696 [(0, va_rf (some 2)), (1, va_rf x1), (2, va_rf x2), (3, va_rf x3), (4, .int x4)] [.int y3, .int y2, .int y1, va_rf y0] S (kr_eI r) := by
  unfold f_W_law_B696 at h
  refine r_aload_n (i := 3) (x := x3) 3 rfl d_W_law_696 ?_
  have h2 := kr_ob2 h
  clear h
  obtain ⟨v92, S91, eS91, h⟩ := h2
  refine r_callSX (M1 := m_W_points) (As := [va_rf y0, .int y1, .int y2, .int y3, va_rf x3]) (s_W_points eS91) mok_W_points (by decide) w757 w758 (by decide) (kr_c8 kr_c0) d_W_law_697 (kr_k1 ?_) kr_kn
  refine r_istore (i := 5) (lv' := [(5, .int v92), (0, va_rf (some 2)), (1, va_rf x1), (2, va_rf x2), (3, va_rf x3), (4, .int x4)]) (by show (5 : Nat) < 7; decide) rfl d_W_law_700 ?_
  refine r_aload_n (i := 2) (x := x2) 3 rfl d_W_law_702 ?_
  refine r_aload_n (i := 0) (x := (some 2)) 1 rfl d_W_law_703 ?_
  refine r_iload (i := 4) (x := x4) 5 rfl d_W_law_704 ?_
  refine r_iconst (v := (1 : Int32)) (by decide) d_W_law_706 ?_
  refine r_iadd d_W_law_707 ?_
  have h2 := kr_ob h
  clear h
  obtain ⟨v93, ev93, h⟩ := h2
  refine r_sload rfl ev93 d_W_law_708 ?_
  refine r_aload_n (i := 0) (x := (some 2)) 1 rfl d_W_law_709 ?_
  refine r_iload (i := 4) (x := x4) 5 rfl d_W_law_710 ?_
  refine r_iconst (v := (2 : Int32)) (by decide) d_W_law_712 ?_
  refine r_iadd d_W_law_713 ?_
  have h2 := kr_ob h
  clear h
  obtain ⟨v94, ev94, h⟩ := h2
  refine r_sload rfl ev94 d_W_law_714 ?_
  refine r_aload_n (i := 0) (x := (some 2)) 1 rfl d_W_law_715 ?_
  refine r_iload (i := 4) (x := x4) 5 rfl d_W_law_716 ?_
  refine r_iconst (v := (3 : Int32)) (by decide) d_W_law_718 ?_
  refine r_iadd d_W_law_719 ?_
  have h2 := kr_ob h
  clear h
  obtain ⟨v95, ev95, h⟩ := h2
  refine r_sload rfl ev95 d_W_law_720 ?_
  refine r_if_eq (tgt := 728) d_W_law_721 rfl (fun c => ?_) (fun c => ?_)
  · replace h := kr_ip c h
    refine r_iconst (v := (0 : Int32)) (by decide) d_W_law_728 ?_
    exact kr_sub [1, 2, 3, 4, 5, 0] rfl (s_W_law_B729 hk23 h)
  · replace h := kr_in_ c h
    refine r_iconst (v := (1 : Int32)) (by decide) d_W_law_724 ?_
    refine r_goto (tgt := 729) d_W_law_725 rfl ?_
    exact kr_sub [1, 2, 3, 4, 5, 0] rfl (s_W_law_B729 hk23 h)
set_option maxRecDepth 20000 in
set_option maxHeartbeats 4000000 in
theorem s_W_law_B669 {X : Nat → Int32} {L : Nat} {k23 : AS → Option Nat → Option Nat → Option Nat → Int32 → Option (Int32 × AS)} (hk23 : ∀ {S : AS} {x1 : Option Nat} {x2 : Option Nat} {x3 : Option Nat} {x4 : Int32} {r : (Int32 × AS)}, k23 S x1 x2 x3 x4 = some r → kr_AW (m_W_law X L) 15 23 [(0, va_rf (some 2)), (1, va_rf x1), (2, va_rf x2), (3, va_rf x3), (4, .int x4)] [] S (kr_eI r)) {S : AS} {x1 : Option Nat} {x2 : Option Nat} {x3 : Option Nat} {x4 : Int32} {r : (Int32 × AS)} (h : f_W_law_B669 X L k23 S x1 x2 x3 x4 = some r) : kr_AW (m_W_law X L) 15 669 [(0, va_rf (some 2)), (1, va_rf x1), (2, va_rf x2), (3, va_rf x3), (4, .int x4)] [] S (kr_eI r) := by
  unfold f_W_law_B669 at h
  refine r_aload_n (i := 1) (x := x1) 1 rfl d_W_law_669 ?_
  refine r_aload_n (i := 0) (x := (some 2)) 0 rfl d_W_law_670 ?_
  refine r_iload (i := 4) (x := x4) 4 rfl d_W_law_671 ?_
  refine r_iconst (v := (1 : Int32)) (by decide) d_W_law_673 ?_
  refine r_iadd d_W_law_674 ?_
  have h2 := kr_ob h
  clear h
  obtain ⟨v96, ev96, h⟩ := h2
  refine r_sload rfl ev96 d_W_law_675 ?_
  refine r_aload_n (i := 0) (x := (some 2)) 0 rfl d_W_law_676 ?_
  refine r_iload (i := 4) (x := x4) 4 rfl d_W_law_677 ?_
  refine r_iconst (v := (2 : Int32)) (by decide) d_W_law_679 ?_
  refine r_iadd d_W_law_680 ?_
  have h2 := kr_ob h
  clear h
  obtain ⟨v97, ev97, h⟩ := h2
  refine r_sload rfl ev97 d_W_law_681 ?_
  refine r_aload_n (i := 0) (x := (some 2)) 0 rfl d_W_law_682 ?_
  refine r_iload (i := 4) (x := x4) 4 rfl d_W_law_683 ?_
  refine r_iconst (v := (3 : Int32)) (by decide) d_W_law_685 ?_
  refine r_iadd d_W_law_686 ?_
  have h2 := kr_ob h
  clear h
  obtain ⟨v98, ev98, h⟩ := h2
  refine r_sload rfl ev98 d_W_law_687 ?_
  refine r_if_eq (tgt := 695) d_W_law_688 rfl (fun c => ?_) (fun c => ?_)
  · replace h := kr_ip c h
    refine r_iconst (v := (0 : Int32)) (by decide) d_W_law_695 ?_
    exact kr_sub [0, 1, 2, 3, 4] rfl (s_W_law_B696 hk23 h)
  · replace h := kr_in_ c h
    refine r_iconst (v := (1 : Int32)) (by decide) d_W_law_691 ?_
    refine r_goto (tgt := 696) d_W_law_692 rfl ?_
    exact kr_sub [0, 1, 2, 3, 4] rfl (s_W_law_B696 hk23 h)
set_option maxRecDepth 20000 in
set_option maxHeartbeats 4000000 in
theorem s_W_law_B765 {X : Nat → Int32} {L : Nat} {k23 : AS → Option Nat → Option Nat → Option Nat → Int32 → Option (Int32 × AS)} (hk23 : ∀ {S : AS} {x1 : Option Nat} {x2 : Option Nat} {x3 : Option Nat} {x4 : Int32} {r : (Int32 × AS)}, k23 S x1 x2 x3 x4 = some r → kr_AW (m_W_law X L) 15 23 [(0, va_rf (some 2)), (1, va_rf x1), (2, va_rf x2), (3, va_rf x3), (4, .int x4)] [] S (kr_eI r)) {S : AS} {x1 : Option Nat} {x2 : Option Nat} {x3 : Option Nat} {x4 : Int32} {r : (Int32 × AS)} (h : f_W_law_B765 X L k23 S x1 x2 x3 x4 = some r) : kr_AW (m_W_law X L) 15 765 [(0, va_rf (some 2)), (1, va_rf x1), (2, va_rf x2), (3, va_rf x3), (4, .int x4)] [] S (kr_eI r) := by
  unfold f_W_law_B765 at h
  refine r_aload_n (i := 1) (x := x1) 1 rfl d_W_law_765 ?_
  refine r_aload_n (i := 0) (x := (some 2)) 0 rfl d_W_law_766 ?_
  refine r_iload (i := 4) (x := x4) 4 rfl d_W_law_767 ?_
  refine r_iconst (v := (1 : Int32)) (by decide) d_W_law_769 ?_
  refine r_iadd d_W_law_770 ?_
  have h2 := kr_ob h
  clear h
  obtain ⟨v99, ev99, h⟩ := h2
  refine r_sload rfl ev99 d_W_law_771 ?_
  refine r_aload_n (i := 0) (x := (some 2)) 0 rfl d_W_law_772 ?_
  refine r_iload (i := 4) (x := x4) 4 rfl d_W_law_773 ?_
  refine r_iconst (v := (2 : Int32)) (by decide) d_W_law_775 ?_
  refine r_iadd d_W_law_776 ?_
  have h2 := kr_ob h
  clear h
  obtain ⟨v100, ev100, h⟩ := h2
  refine r_sload rfl ev100 d_W_law_777 ?_
  refine r_aload_n (i := 0) (x := (some 2)) 0 rfl d_W_law_778 ?_
  refine r_iload (i := 4) (x := x4) 4 rfl d_W_law_779 ?_
  refine r_iconst (v := (3 : Int32)) (by decide) d_W_law_781 ?_
  refine r_iadd d_W_law_782 ?_
  have h2 := kr_ob h
  clear h
  obtain ⟨v101, ev101, h⟩ := h2
  refine r_sload rfl ev101 d_W_law_783 ?_
  refine r_aload_n (i := 3) (x := x3) 3 rfl d_W_law_784 ?_
  have h2 := kr_ob2 h
  clear h
  obtain ⟨v103, S102, eS102, h⟩ := h2
  refine r_callSX (M1 := m_W_begin) (As := [va_rf x1, .int v99, .int v100, .int v101, va_rf x3]) (s_W_begin eS102) mok_W_begin (by decide) w764 w765 (by decide) (kr_c8 kr_c0) d_W_law_785 (kr_k1 ?_) kr_kn
  refine r_istore (i := 5) (lv' := [(5, .int v103), (0, va_rf (some 2)), (1, va_rf x1), (2, va_rf x2), (3, va_rf x3), (4, .int x4)]) (by show (5 : Nat) < 7; decide) rfl d_W_law_788 ?_
  refine r_aload_n (i := 2) (x := x2) 3 rfl d_W_law_790 ?_
  refine r_aload_n (i := 0) (x := (some 2)) 1 rfl d_W_law_791 ?_
  refine r_iload (i := 4) (x := x4) 5 rfl d_W_law_792 ?_
  refine r_iconst (v := (1 : Int32)) (by decide) d_W_law_794 ?_
  refine r_iadd d_W_law_795 ?_
  have h2 := kr_ob h
  clear h
  obtain ⟨v104, ev104, h⟩ := h2
  refine r_sload rfl ev104 d_W_law_796 ?_
  refine r_aload_n (i := 0) (x := (some 2)) 1 rfl d_W_law_797 ?_
  refine r_iload (i := 4) (x := x4) 5 rfl d_W_law_798 ?_
  refine r_iconst (v := (2 : Int32)) (by decide) d_W_law_800 ?_
  refine r_iadd d_W_law_801 ?_
  have h2 := kr_ob h
  clear h
  obtain ⟨v105, ev105, h⟩ := h2
  refine r_sload rfl ev105 d_W_law_802 ?_
  refine r_aload_n (i := 0) (x := (some 2)) 1 rfl d_W_law_803 ?_
  refine r_iload (i := 4) (x := x4) 5 rfl d_W_law_804 ?_
  refine r_iconst (v := (3 : Int32)) (by decide) d_W_law_806 ?_
  refine r_iadd d_W_law_807 ?_
  have h2 := kr_ob h
  clear h
  obtain ⟨v106, ev106, h⟩ := h2
  refine r_sload rfl ev106 d_W_law_808 ?_
  have h2 := kr_ob h
  clear h
  obtain ⟨⟨⟩, eu107, h⟩ := h2
  have h2 := kr_ob2 h
  clear h
  obtain ⟨v109, S108, eS108, h⟩ := h2
  refine r_callV (M1 := m_M_begin) (κ := 23) (As := [.int v104, .int v105, .int v106]) eu107 (s_M_begin eS108) mok_M_begin rfl (by decide) rfl w1799 w1800 w1801 (by decide) (kr_c8 kr_c0) d_W_law_809 (kr_k1 ?_) kr_kn
  refine r_istore (i := 6) (lv' := [(6, .int v109), (5, .int v103), (0, va_rf (some 2)), (1, va_rf x1), (2, va_rf x2), (3, va_rf x3), (4, .int x4)]) (by show (6 : Nat) < 7; decide) rfl d_W_law_812 ?_
  refine r_aload_n (i := 2) (x := x2) 4 rfl d_W_law_814 ?_
  have h2 := kr_ob h
  clear h
  obtain ⟨⟨⟩, eu110, h⟩ := h2
  have h2 := kr_ob2 h
  clear h
  obtain ⟨v112, S111, eS111, h⟩ := h2
  refine r_callV (M1 := m_M_thrown) (κ := 23) (As := []) eu110 (s_M_thrown eS111) mok_M_thrown rfl (by decide) rfl w1688 w1689 w1690 (by decide) (kr_c8 kr_c0) d_W_law_815 (kr_k1 ?_) kr_kn
  refine r_iload (i := 5) (x := v103) 1 rfl d_W_law_818 ?_
  refine r_icmp_eq (tgt := 825) d_W_law_820 rfl (fun c => ?_) (fun c => ?_)
  · replace h := kr_ip c h
    refine r_iload (i := 5) (x := v103) 1 rfl d_W_law_825 ?_
    refine r_if_ne (tgt := 842) d_W_law_827 rfl (fun c => ?_) (fun c => ?_)
    · replace h := kr_ip c h
      refine r_aload_n (i := 3) (x := x3) 5 rfl d_W_law_830 ?_
      refine r_iconst (v := (0 : Int32)) (by decide) d_W_law_831 ?_
      have h2 := kr_ob h
      clear h
      obtain ⟨v113, ev113, h⟩ := h2
      refine r_laload ev113 d_W_law_832 ?_
      refine r_iload (i := 6) (x := v109) 0 rfl d_W_law_833 ?_
      refine r_i2l d_W_law_835 ?_
      refine r_lcmp d_W_law_836 ?_
      refine r_if_eq (tgt := 842) d_W_law_837 rfl (fun c => ?_) (fun c => ?_)
      · replace h := kr_ip c h
        refine r_goto (tgt := 3320) d_W_law_842 rfl ?_
        exact kr_sub [2, 3, 4, 5, 6] rfl (s_W_law_B3320 hk23 h)
      · replace h := kr_in_ c h
        refine r_iconst (v := (0 : Int32)) (by decide) d_W_law_840 ?_
        cases h
        exact r_zret rfl rfl d_W_law_841
    · replace h := kr_in_ c h
      refine r_goto (tgt := 3320) d_W_law_842 rfl ?_
      exact kr_sub [2, 3, 4, 5, 6] rfl (s_W_law_B3320 hk23 h)
  · replace h := kr_in_ c h
    refine r_iconst (v := (0 : Int32)) (by decide) d_W_law_823 ?_
    cases h
    exact r_zret rfl rfl d_W_law_824
set_option maxRecDepth 20000 in
set_option maxHeartbeats 4000000 in
theorem s_W_law_B899 {X : Nat → Int32} {L : Nat} {k23 : AS → Option Nat → Option Nat → Option Nat → Int32 → Option (Int32 × AS)} (hk23 : ∀ {S : AS} {x1 : Option Nat} {x2 : Option Nat} {x3 : Option Nat} {x4 : Int32} {r : (Int32 × AS)}, k23 S x1 x2 x3 x4 = some r → kr_AW (m_W_law X L) 15 23 [(0, va_rf (some 2)), (1, va_rf x1), (2, va_rf x2), (3, va_rf x3), (4, .int x4)] [] S (kr_eI r)) {S : AS} {x1 : Option Nat} {x2 : Option Nat} {x3 : Option Nat} {x4 : Int32} {x5 : Int32} {y0 : Option Nat} {y1 : Int32} {y2 : Int32} {r : (Int32 × AS)} (h : f_W_law_B899 X L k23 S x1 x2 x3 x4 x5 y0 y1 y2 = some r) : kr_AW (m_W_law X L) 15 899 [(0, va_rf (some 2)), (1, va_rf x1), (2, va_rf x2), (3, va_rf x3), (4, .int x4), (5, .int x5)] [.int y2, .int y1, va_rf y0] S (kr_eI r) := by
  unfold f_W_law_B899 at h
  refine r_aload_n (i := 0) (x := (some 2)) 0 rfl d_W_law_899 ?_
  refine r_iload (i := 4) (x := x4) 4 rfl d_W_law_900 ?_
  refine r_iconst (v := (3 : Int32)) (by decide) d_W_law_902 ?_
  refine r_iadd d_W_law_903 ?_
  have h2 := kr_ob h
  clear h
  obtain ⟨v114, ev114, h⟩ := h2
  refine r_sload rfl ev114 d_W_law_904 ?_
  have h2 := kr_ob h
  clear h
  obtain ⟨⟨⟩, eu115, h⟩ := h2
  have h2 := kr_ob2 h
  clear h
  obtain ⟨v117, S116, eS116, h⟩ := h2
  refine r_callV (M1 := m_M_answer) (κ := 23) (As := [.int y1, .int y2, .int v114]) eu115 (s_M_answer eS116) mok_M_answer rfl (by decide) rfl w1835 w1836 w1837 (by decide) (kr_c8 kr_c0) d_W_law_905 (kr_k1 ?_) kr_kn
  refine r_istore (i := 6) (lv' := [(6, .int v117), (0, va_rf (some 2)), (1, va_rf x1), (2, va_rf x2), (3, va_rf x3), (4, .int x4), (5, .int x5)]) (by show (6 : Nat) < 7; decide) rfl d_W_law_908 ?_
  refine r_aload_n (i := 2) (x := x2) 3 rfl d_W_law_910 ?_
  have h2 := kr_ob h
  clear h
  obtain ⟨⟨⟩, eu118, h⟩ := h2
  have h2 := kr_ob2 h
  clear h
  obtain ⟨v120, S119, eS119, h⟩ := h2
  refine r_callV (M1 := m_M_thrown) (κ := 23) (As := []) eu118 (s_M_thrown eS119) mok_M_thrown rfl (by decide) rfl w1688 w1689 w1690 (by decide) (kr_c8 kr_c0) d_W_law_911 (kr_k1 ?_) kr_kn
  refine r_iload (i := 5) (x := x5) 6 rfl d_W_law_914 ?_
  refine r_icmp_eq (tgt := 921) d_W_law_916 rfl (fun c => ?_) (fun c => ?_)
  · replace h := kr_ip c h
    refine r_iload (i := 5) (x := x5) 6 rfl d_W_law_921 ?_
    refine r_if_ne (tgt := 938) d_W_law_923 rfl (fun c => ?_) (fun c => ?_)
    · replace h := kr_ip c h
      refine r_aload_n (i := 3) (x := x3) 4 rfl d_W_law_926 ?_
      refine r_iconst (v := (0 : Int32)) (by decide) d_W_law_927 ?_
      have h2 := kr_ob h
      clear h
      obtain ⟨v121, ev121, h⟩ := h2
      refine r_laload ev121 d_W_law_928 ?_
      refine r_iload (i := 6) (x := v117) 0 rfl d_W_law_929 ?_
      refine r_i2l d_W_law_931 ?_
      refine r_lcmp d_W_law_932 ?_
      refine r_if_eq (tgt := 938) d_W_law_933 rfl (fun c => ?_) (fun c => ?_)
      · replace h := kr_ip c h
        refine r_goto (tgt := 3320) d_W_law_938 rfl ?_
        exact kr_sub [1, 2, 3, 4, 5] rfl (s_W_law_B3320 hk23 h)
      · replace h := kr_in_ c h
        refine r_iconst (v := (0 : Int32)) (by decide) d_W_law_936 ?_
        cases h
        exact r_zret rfl rfl d_W_law_937
    · replace h := kr_in_ c h
      refine r_goto (tgt := 3320) d_W_law_938 rfl ?_
      exact kr_sub [1, 2, 3, 4, 5] rfl (s_W_law_B3320 hk23 h)
  · replace h := kr_in_ c h
    refine r_iconst (v := (0 : Int32)) (by decide) d_W_law_919 ?_
    cases h
    exact r_zret rfl rfl d_W_law_920
set_option maxRecDepth 20000 in
set_option maxHeartbeats 4000000 in
theorem s_W_law_B866 {X : Nat → Int32} {L : Nat} {k23 : AS → Option Nat → Option Nat → Option Nat → Int32 → Option (Int32 × AS)} (hk23 : ∀ {S : AS} {x1 : Option Nat} {x2 : Option Nat} {x3 : Option Nat} {x4 : Int32} {r : (Int32 × AS)}, k23 S x1 x2 x3 x4 = some r → kr_AW (m_W_law X L) 15 23 [(0, va_rf (some 2)), (1, va_rf x1), (2, va_rf x2), (3, va_rf x3), (4, .int x4)] [] S (kr_eI r)) {S : AS} {x1 : Option Nat} {x2 : Option Nat} {x3 : Option Nat} {x4 : Int32} {y0 : Option Nat} {y1 : Int32} {y2 : Int32} {r : (Int32 × AS)} (h : f_W_law_B866 X L k23 S x1 x2 x3 x4 y0 y1 y2 = some r) : kr_AW (m_W_law X L) 15 866 [(0, va_rf (some 2)), (1, va_rf x1), (2, va_rf x2), (3, va_rf x3), (4, .int x4)] [.int y2, .int y1, va_rf y0] S (kr_eI r) := by
  unfold f_W_law_B866 at h
  refine r_aload_n (i := 0) (x := (some 2)) 0 rfl d_W_law_866 ?_
  refine r_iload (i := 4) (x := x4) 4 rfl d_W_law_867 ?_
  refine r_iconst (v := (3 : Int32)) (by decide) d_W_law_869 ?_
  refine r_iadd d_W_law_870 ?_
  have h2 := kr_ob h
  clear h
  obtain ⟨v122, ev122, h⟩ := h2
  refine r_sload rfl ev122 d_W_law_871 ?_
  refine r_aload_n (i := 3) (x := x3) 3 rfl d_W_law_872 ?_
  have h2 := kr_ob2 h
  clear h
  obtain ⟨v124, S123, eS123, h⟩ := h2
  refine r_callSX (M1 := m_W_answer) (As := [va_rf y0, .int y1, .int y2, .int v122, va_rf x3]) (s_W_answer eS123) mok_W_answer (by decide) w914 w915 (by decide) (kr_c8 kr_c0) d_W_law_873 (kr_k1 ?_) kr_kn
  refine r_istore (i := 5) (lv' := [(5, .int v124), (0, va_rf (some 2)), (1, va_rf x1), (2, va_rf x2), (3, va_rf x3), (4, .int x4)]) (by show (5 : Nat) < 7; decide) rfl d_W_law_876 ?_
  refine r_aload_n (i := 2) (x := x2) 3 rfl d_W_law_878 ?_
  refine r_aload_n (i := 0) (x := (some 2)) 1 rfl d_W_law_879 ?_
  refine r_iload (i := 4) (x := x4) 5 rfl d_W_law_880 ?_
  refine r_iconst (v := (1 : Int32)) (by decide) d_W_law_882 ?_
  refine r_iadd d_W_law_883 ?_
  have h2 := kr_ob h
  clear h
  obtain ⟨v125, ev125, h⟩ := h2
  refine r_sload rfl ev125 d_W_law_884 ?_
  refine r_aload_n (i := 0) (x := (some 2)) 1 rfl d_W_law_885 ?_
  refine r_iload (i := 4) (x := x4) 5 rfl d_W_law_886 ?_
  refine r_iconst (v := (2 : Int32)) (by decide) d_W_law_888 ?_
  refine r_iadd d_W_law_889 ?_
  have h2 := kr_ob h
  clear h
  obtain ⟨v126, ev126, h⟩ := h2
  refine r_sload rfl ev126 d_W_law_890 ?_
  refine r_if_eq (tgt := 898) d_W_law_891 rfl (fun c => ?_) (fun c => ?_)
  · replace h := kr_ip c h
    refine r_iconst (v := (0 : Int32)) (by decide) d_W_law_898 ?_
    exact kr_sub [1, 2, 3, 4, 5, 0] rfl (s_W_law_B899 hk23 h)
  · replace h := kr_in_ c h
    refine r_iconst (v := (1 : Int32)) (by decide) d_W_law_894 ?_
    refine r_goto (tgt := 899) d_W_law_895 rfl ?_
    exact kr_sub [1, 2, 3, 4, 5, 0] rfl (s_W_law_B899 hk23 h)
set_option maxRecDepth 20000 in
set_option maxHeartbeats 4000000 in
theorem s_W_law_B845 {X : Nat → Int32} {L : Nat} {k23 : AS → Option Nat → Option Nat → Option Nat → Int32 → Option (Int32 × AS)} (hk23 : ∀ {S : AS} {x1 : Option Nat} {x2 : Option Nat} {x3 : Option Nat} {x4 : Int32} {r : (Int32 × AS)}, k23 S x1 x2 x3 x4 = some r → kr_AW (m_W_law X L) 15 23 [(0, va_rf (some 2)), (1, va_rf x1), (2, va_rf x2), (3, va_rf x3), (4, .int x4)] [] S (kr_eI r)) {S : AS} {x1 : Option Nat} {x2 : Option Nat} {x3 : Option Nat} {x4 : Int32} {r : (Int32 × AS)} (h : f_W_law_B845 X L k23 S x1 x2 x3 x4 = some r) : kr_AW (m_W_law X L) 15 845 [(0, va_rf (some 2)), (1, va_rf x1), (2, va_rf x2), (3, va_rf x3), (4, .int x4)] [] S (kr_eI r) := by
  unfold f_W_law_B845 at h
  refine r_aload_n (i := 1) (x := x1) 1 rfl d_W_law_845 ?_
  refine r_aload_n (i := 0) (x := (some 2)) 0 rfl d_W_law_846 ?_
  refine r_iload (i := 4) (x := x4) 4 rfl d_W_law_847 ?_
  refine r_iconst (v := (1 : Int32)) (by decide) d_W_law_849 ?_
  refine r_iadd d_W_law_850 ?_
  have h2 := kr_ob h
  clear h
  obtain ⟨v127, ev127, h⟩ := h2
  refine r_sload rfl ev127 d_W_law_851 ?_
  refine r_aload_n (i := 0) (x := (some 2)) 0 rfl d_W_law_852 ?_
  refine r_iload (i := 4) (x := x4) 4 rfl d_W_law_853 ?_
  refine r_iconst (v := (2 : Int32)) (by decide) d_W_law_855 ?_
  refine r_iadd d_W_law_856 ?_
  have h2 := kr_ob h
  clear h
  obtain ⟨v128, ev128, h⟩ := h2
  refine r_sload rfl ev128 d_W_law_857 ?_
  refine r_if_eq (tgt := 865) d_W_law_858 rfl (fun c => ?_) (fun c => ?_)
  · replace h := kr_ip c h
    refine r_iconst (v := (0 : Int32)) (by decide) d_W_law_865 ?_
    exact kr_sub [0, 1, 2, 3, 4] rfl (s_W_law_B866 hk23 h)
  · replace h := kr_in_ c h
    refine r_iconst (v := (1 : Int32)) (by decide) d_W_law_861 ?_
    refine r_goto (tgt := 866) d_W_law_862 rfl ?_
    exact kr_sub [0, 1, 2, 3, 4] rfl (s_W_law_B866 hk23 h)
set_option maxRecDepth 20000 in
set_option maxHeartbeats 4000000 in
theorem s_W_law_B941 {X : Nat → Int32} {L : Nat} {k23 : AS → Option Nat → Option Nat → Option Nat → Int32 → Option (Int32 × AS)} (hk23 : ∀ {S : AS} {x1 : Option Nat} {x2 : Option Nat} {x3 : Option Nat} {x4 : Int32} {r : (Int32 × AS)}, k23 S x1 x2 x3 x4 = some r → kr_AW (m_W_law X L) 15 23 [(0, va_rf (some 2)), (1, va_rf x1), (2, va_rf x2), (3, va_rf x3), (4, .int x4)] [] S (kr_eI r)) {S : AS} {x1 : Option Nat} {x2 : Option Nat} {x3 : Option Nat} {x4 : Int32} {r : (Int32 × AS)} (h : f_W_law_B941 X L k23 S x1 x2 x3 x4 = some r) : kr_AW (m_W_law X L) 15 941 [(0, va_rf (some 2)), (1, va_rf x1), (2, va_rf x2), (3, va_rf x3), (4, .int x4)] [] S (kr_eI r) := by
  unfold f_W_law_B941 at h
  refine r_aload_n (i := 1) (x := x1) 1 rfl d_W_law_941 ?_
  refine r_aload_n (i := 0) (x := (some 2)) 0 rfl d_W_law_942 ?_
  refine r_iload (i := 4) (x := x4) 4 rfl d_W_law_943 ?_
  refine r_iconst (v := (1 : Int32)) (by decide) d_W_law_945 ?_
  refine r_iadd d_W_law_946 ?_
  have h2 := kr_ob h
  clear h
  obtain ⟨v129, ev129, h⟩ := h2
  refine r_sload rfl ev129 d_W_law_947 ?_
  refine r_aload_n (i := 3) (x := x3) 3 rfl d_W_law_948 ?_
  have h2 := kr_ob2 h
  clear h
  obtain ⟨v131, S130, eS130, h⟩ := h2
  refine r_callSX (M1 := m_W_state) (As := [va_rf x1, .int v129, va_rf x3]) (s_W_state eS130) mok_W_state (by decide) w949 w950 (by decide) (kr_c8 kr_c0) d_W_law_949 (kr_k1 ?_) kr_kn
  refine r_istore (i := 5) (lv' := [(5, .int v131), (0, va_rf (some 2)), (1, va_rf x1), (2, va_rf x2), (3, va_rf x3), (4, .int x4)]) (by show (5 : Nat) < 7; decide) rfl d_W_law_952 ?_
  refine r_aload_n (i := 2) (x := x2) 3 rfl d_W_law_954 ?_
  refine r_aload_n (i := 0) (x := (some 2)) 1 rfl d_W_law_955 ?_
  refine r_iload (i := 4) (x := x4) 5 rfl d_W_law_956 ?_
  refine r_iconst (v := (1 : Int32)) (by decide) d_W_law_958 ?_
  refine r_iadd d_W_law_959 ?_
  have h2 := kr_ob h
  clear h
  obtain ⟨v132, ev132, h⟩ := h2
  refine r_sload rfl ev132 d_W_law_960 ?_
  have h2 := kr_ob h
  clear h
  obtain ⟨⟨⟩, eu133, h⟩ := h2
  have h2 := kr_ob2 h
  clear h
  obtain ⟨v135, S134, eS134, h⟩ := h2
  refine r_callV (M1 := m_M_state) (κ := 23) (As := [.int v132]) eu133 (s_M_state eS134) mok_M_state rfl (by decide) rfl w1855 w1856 w1857 (by decide) (kr_c8 kr_c0) d_W_law_961 (kr_k1 ?_) kr_kn
  refine r_istore (i := 6) (lv' := [(6, .int v135), (5, .int v131), (0, va_rf (some 2)), (1, va_rf x1), (2, va_rf x2), (3, va_rf x3), (4, .int x4)]) (by show (6 : Nat) < 7; decide) rfl d_W_law_964 ?_
  refine r_aload_n (i := 2) (x := x2) 4 rfl d_W_law_966 ?_
  have h2 := kr_ob h
  clear h
  obtain ⟨⟨⟩, eu136, h⟩ := h2
  have h2 := kr_ob2 h
  clear h
  obtain ⟨v138, S137, eS137, h⟩ := h2
  refine r_callV (M1 := m_M_thrown) (κ := 23) (As := []) eu136 (s_M_thrown eS137) mok_M_thrown rfl (by decide) rfl w1688 w1689 w1690 (by decide) (kr_c8 kr_c0) d_W_law_967 (kr_k1 ?_) kr_kn
  refine r_iload (i := 5) (x := v131) 1 rfl d_W_law_970 ?_
  refine r_icmp_eq (tgt := 977) d_W_law_972 rfl (fun c => ?_) (fun c => ?_)
  · replace h := kr_ip c h
    refine r_iload (i := 5) (x := v131) 1 rfl d_W_law_977 ?_
    refine r_if_ne (tgt := 994) d_W_law_979 rfl (fun c => ?_) (fun c => ?_)
    · replace h := kr_ip c h
      refine r_aload_n (i := 3) (x := x3) 5 rfl d_W_law_982 ?_
      refine r_iconst (v := (0 : Int32)) (by decide) d_W_law_983 ?_
      have h2 := kr_ob h
      clear h
      obtain ⟨v139, ev139, h⟩ := h2
      refine r_laload ev139 d_W_law_984 ?_
      refine r_iload (i := 6) (x := v135) 0 rfl d_W_law_985 ?_
      refine r_i2l d_W_law_987 ?_
      refine r_lcmp d_W_law_988 ?_
      refine r_if_eq (tgt := 994) d_W_law_989 rfl (fun c => ?_) (fun c => ?_)
      · replace h := kr_ip c h
        refine r_goto (tgt := 3320) d_W_law_994 rfl ?_
        exact kr_sub [2, 3, 4, 5, 6] rfl (s_W_law_B3320 hk23 h)
      · replace h := kr_in_ c h
        refine r_iconst (v := (0 : Int32)) (by decide) d_W_law_992 ?_
        cases h
        exact r_zret rfl rfl d_W_law_993
    · replace h := kr_in_ c h
      refine r_goto (tgt := 3320) d_W_law_994 rfl ?_
      exact kr_sub [2, 3, 4, 5, 6] rfl (s_W_law_B3320 hk23 h)
  · replace h := kr_in_ c h
    refine r_iconst (v := (0 : Int32)) (by decide) d_W_law_975 ?_
    cases h
    exact r_zret rfl rfl d_W_law_976
set_option maxRecDepth 20000 in
set_option maxHeartbeats 4000000 in
theorem s_W_law_B997 {X : Nat → Int32} {L : Nat} {k23 : AS → Option Nat → Option Nat → Option Nat → Int32 → Option (Int32 × AS)} (hk23 : ∀ {S : AS} {x1 : Option Nat} {x2 : Option Nat} {x3 : Option Nat} {x4 : Int32} {r : (Int32 × AS)}, k23 S x1 x2 x3 x4 = some r → kr_AW (m_W_law X L) 15 23 [(0, va_rf (some 2)), (1, va_rf x1), (2, va_rf x2), (3, va_rf x3), (4, .int x4)] [] S (kr_eI r)) {S : AS} {x1 : Option Nat} {x2 : Option Nat} {x3 : Option Nat} {x4 : Int32} {r : (Int32 × AS)} (h : f_W_law_B997 X L k23 S x1 x2 x3 x4 = some r) : kr_AW (m_W_law X L) 15 997 [(0, va_rf (some 2)), (1, va_rf x1), (2, va_rf x2), (3, va_rf x3), (4, .int x4)] [] S (kr_eI r) := by
  unfold f_W_law_B997 at h
  refine r_aload_n (i := 1) (x := x1) 1 rfl d_W_law_997 ?_
  refine r_aload_n (i := 0) (x := (some 2)) 0 rfl d_W_law_998 ?_
  refine r_iload (i := 4) (x := x4) 4 rfl d_W_law_999 ?_
  refine r_iconst (v := (1 : Int32)) (by decide) d_W_law_1001 ?_
  refine r_iadd d_W_law_1002 ?_
  have h2 := kr_ob h
  clear h
  obtain ⟨v140, ev140, h⟩ := h2
  refine r_sload rfl ev140 d_W_law_1003 ?_
  refine r_aload_n (i := 3) (x := x3) 3 rfl d_W_law_1004 ?_
  have h2 := kr_ob2 h
  clear h
  obtain ⟨v142, S141, eS141, h⟩ := h2
  refine r_callSX (M1 := m_W_asked) (As := [va_rf x1, .int v140, va_rf x3]) (s_W_asked eS141) mok_W_asked (by decide) w956 w957 (by decide) (kr_c8 kr_c0) d_W_law_1005 (kr_k1 ?_) kr_kn
  refine r_istore (i := 5) (lv' := [(5, .int v142), (0, va_rf (some 2)), (1, va_rf x1), (2, va_rf x2), (3, va_rf x3), (4, .int x4)]) (by show (5 : Nat) < 7; decide) rfl d_W_law_1008 ?_
  refine r_aload_n (i := 2) (x := x2) 3 rfl d_W_law_1010 ?_
  refine r_aload_n (i := 0) (x := (some 2)) 1 rfl d_W_law_1011 ?_
  refine r_iload (i := 4) (x := x4) 5 rfl d_W_law_1012 ?_
  refine r_iconst (v := (1 : Int32)) (by decide) d_W_law_1014 ?_
  refine r_iadd d_W_law_1015 ?_
  have h2 := kr_ob h
  clear h
  obtain ⟨v143, ev143, h⟩ := h2
  refine r_sload rfl ev143 d_W_law_1016 ?_
  have h2 := kr_ob h
  clear h
  obtain ⟨⟨⟩, eu144, h⟩ := h2
  have h2 := kr_ob2 h
  clear h
  obtain ⟨v146, S145, eS145, h⟩ := h2
  refine r_callV (M1 := m_M_asked) (κ := 23) (As := [.int v143]) eu144 (s_M_asked eS145) mok_M_asked rfl (by decide) rfl w1859 w1860 w1861 (by decide) (kr_c8 kr_c0) d_W_law_1017 (kr_k1 ?_) kr_kn
  refine r_istore (i := 6) (lv' := [(6, .int v146), (5, .int v142), (0, va_rf (some 2)), (1, va_rf x1), (2, va_rf x2), (3, va_rf x3), (4, .int x4)]) (by show (6 : Nat) < 7; decide) rfl d_W_law_1020 ?_
  refine r_aload_n (i := 2) (x := x2) 4 rfl d_W_law_1022 ?_
  have h2 := kr_ob h
  clear h
  obtain ⟨⟨⟩, eu147, h⟩ := h2
  have h2 := kr_ob2 h
  clear h
  obtain ⟨v149, S148, eS148, h⟩ := h2
  refine r_callV (M1 := m_M_thrown) (κ := 23) (As := []) eu147 (s_M_thrown eS148) mok_M_thrown rfl (by decide) rfl w1688 w1689 w1690 (by decide) (kr_c8 kr_c0) d_W_law_1023 (kr_k1 ?_) kr_kn
  refine r_iload (i := 5) (x := v142) 1 rfl d_W_law_1026 ?_
  refine r_icmp_eq (tgt := 1033) d_W_law_1028 rfl (fun c => ?_) (fun c => ?_)
  · replace h := kr_ip c h
    refine r_iload (i := 5) (x := v142) 1 rfl d_W_law_1033 ?_
    refine r_if_ne (tgt := 1050) d_W_law_1035 rfl (fun c => ?_) (fun c => ?_)
    · replace h := kr_ip c h
      refine r_aload_n (i := 3) (x := x3) 5 rfl d_W_law_1038 ?_
      refine r_iconst (v := (0 : Int32)) (by decide) d_W_law_1039 ?_
      have h2 := kr_ob h
      clear h
      obtain ⟨v150, ev150, h⟩ := h2
      refine r_laload ev150 d_W_law_1040 ?_
      refine r_iload (i := 6) (x := v146) 0 rfl d_W_law_1041 ?_
      refine r_i2l d_W_law_1043 ?_
      refine r_lcmp d_W_law_1044 ?_
      refine r_if_eq (tgt := 1050) d_W_law_1045 rfl (fun c => ?_) (fun c => ?_)
      · replace h := kr_ip c h
        refine r_goto (tgt := 3320) d_W_law_1050 rfl ?_
        exact kr_sub [2, 3, 4, 5, 6] rfl (s_W_law_B3320 hk23 h)
      · replace h := kr_in_ c h
        refine r_iconst (v := (0 : Int32)) (by decide) d_W_law_1048 ?_
        cases h
        exact r_zret rfl rfl d_W_law_1049
    · replace h := kr_in_ c h
      refine r_goto (tgt := 3320) d_W_law_1050 rfl ?_
      exact kr_sub [2, 3, 4, 5, 6] rfl (s_W_law_B3320 hk23 h)
  · replace h := kr_in_ c h
    refine r_iconst (v := (0 : Int32)) (by decide) d_W_law_1031 ?_
    cases h
    exact r_zret rfl rfl d_W_law_1032
set_option maxRecDepth 20000 in
set_option maxHeartbeats 4000000 in
theorem s_W_law_B1053 {X : Nat → Int32} {L : Nat} {k23 : AS → Option Nat → Option Nat → Option Nat → Int32 → Option (Int32 × AS)} (hk23 : ∀ {S : AS} {x1 : Option Nat} {x2 : Option Nat} {x3 : Option Nat} {x4 : Int32} {r : (Int32 × AS)}, k23 S x1 x2 x3 x4 = some r → kr_AW (m_W_law X L) 15 23 [(0, va_rf (some 2)), (1, va_rf x1), (2, va_rf x2), (3, va_rf x3), (4, .int x4)] [] S (kr_eI r)) {S : AS} {x1 : Option Nat} {x2 : Option Nat} {x3 : Option Nat} {x4 : Int32} {r : (Int32 × AS)} (h : f_W_law_B1053 X L k23 S x1 x2 x3 x4 = some r) : kr_AW (m_W_law X L) 15 1053 [(0, va_rf (some 2)), (1, va_rf x1), (2, va_rf x2), (3, va_rf x3), (4, .int x4)] [] S (kr_eI r) := by
  unfold f_W_law_B1053 at h
  refine r_aload_n (i := 1) (x := x1) 1 rfl d_W_law_1053 ?_
  refine r_aload_n (i := 0) (x := (some 2)) 0 rfl d_W_law_1054 ?_
  refine r_iload (i := 4) (x := x4) 4 rfl d_W_law_1055 ?_
  refine r_iconst (v := (1 : Int32)) (by decide) d_W_law_1057 ?_
  refine r_iadd d_W_law_1058 ?_
  have h2 := kr_ob h
  clear h
  obtain ⟨v151, ev151, h⟩ := h2
  refine r_sload rfl ev151 d_W_law_1059 ?_
  refine r_aload_n (i := 3) (x := x3) 3 rfl d_W_law_1060 ?_
  have h2 := kr_ob2 h
  clear h
  obtain ⟨v153, S152, eS152, h⟩ := h2
  refine r_callSX (M1 := m_W_sessionOf) (As := [va_rf x1, .int v151, va_rf x3]) (s_W_sessionOf eS152) mok_W_sessionOf (by decide) w963 w964 (by decide) (kr_c8 kr_c0) d_W_law_1061 (kr_k1 ?_) kr_kn
  refine r_istore (i := 5) (lv' := [(5, .int v153), (0, va_rf (some 2)), (1, va_rf x1), (2, va_rf x2), (3, va_rf x3), (4, .int x4)]) (by show (5 : Nat) < 7; decide) rfl d_W_law_1064 ?_
  refine r_aload_n (i := 2) (x := x2) 3 rfl d_W_law_1066 ?_
  refine r_aload_n (i := 0) (x := (some 2)) 1 rfl d_W_law_1067 ?_
  refine r_iload (i := 4) (x := x4) 5 rfl d_W_law_1068 ?_
  refine r_iconst (v := (1 : Int32)) (by decide) d_W_law_1070 ?_
  refine r_iadd d_W_law_1071 ?_
  have h2 := kr_ob h
  clear h
  obtain ⟨v154, ev154, h⟩ := h2
  refine r_sload rfl ev154 d_W_law_1072 ?_
  have h2 := kr_ob h
  clear h
  obtain ⟨⟨⟩, eu155, h⟩ := h2
  have h2 := kr_ob2 h
  clear h
  obtain ⟨v157, S156, eS156, h⟩ := h2
  refine r_callV (M1 := m_M_sessionOf) (κ := 23) (As := [.int v154]) eu155 (s_M_sessionOf eS156) mok_M_sessionOf rfl (by decide) rfl w1863 w1864 w1865 (by decide) (kr_c8 kr_c0) d_W_law_1073 (kr_k1 ?_) kr_kn
  refine r_istore (i := 6) (lv' := [(6, .int v157), (5, .int v153), (0, va_rf (some 2)), (1, va_rf x1), (2, va_rf x2), (3, va_rf x3), (4, .int x4)]) (by show (6 : Nat) < 7; decide) rfl d_W_law_1076 ?_
  refine r_aload_n (i := 2) (x := x2) 4 rfl d_W_law_1078 ?_
  have h2 := kr_ob h
  clear h
  obtain ⟨⟨⟩, eu158, h⟩ := h2
  have h2 := kr_ob2 h
  clear h
  obtain ⟨v160, S159, eS159, h⟩ := h2
  refine r_callV (M1 := m_M_thrown) (κ := 23) (As := []) eu158 (s_M_thrown eS159) mok_M_thrown rfl (by decide) rfl w1688 w1689 w1690 (by decide) (kr_c8 kr_c0) d_W_law_1079 (kr_k1 ?_) kr_kn
  refine r_iload (i := 5) (x := v153) 1 rfl d_W_law_1082 ?_
  refine r_icmp_eq (tgt := 1089) d_W_law_1084 rfl (fun c => ?_) (fun c => ?_)
  · replace h := kr_ip c h
    refine r_iload (i := 5) (x := v153) 1 rfl d_W_law_1089 ?_
    refine r_if_ne (tgt := 1106) d_W_law_1091 rfl (fun c => ?_) (fun c => ?_)
    · replace h := kr_ip c h
      refine r_aload_n (i := 3) (x := x3) 5 rfl d_W_law_1094 ?_
      refine r_iconst (v := (0 : Int32)) (by decide) d_W_law_1095 ?_
      have h2 := kr_ob h
      clear h
      obtain ⟨v161, ev161, h⟩ := h2
      refine r_laload ev161 d_W_law_1096 ?_
      refine r_iload (i := 6) (x := v157) 0 rfl d_W_law_1097 ?_
      refine r_i2l d_W_law_1099 ?_
      refine r_lcmp d_W_law_1100 ?_
      refine r_if_eq (tgt := 1106) d_W_law_1101 rfl (fun c => ?_) (fun c => ?_)
      · replace h := kr_ip c h
        refine r_goto (tgt := 3320) d_W_law_1106 rfl ?_
        exact kr_sub [2, 3, 4, 5, 6] rfl (s_W_law_B3320 hk23 h)
      · replace h := kr_in_ c h
        refine r_iconst (v := (0 : Int32)) (by decide) d_W_law_1104 ?_
        cases h
        exact r_zret rfl rfl d_W_law_1105
    · replace h := kr_in_ c h
      refine r_goto (tgt := 3320) d_W_law_1106 rfl ?_
      exact kr_sub [2, 3, 4, 5, 6] rfl (s_W_law_B3320 hk23 h)
  · replace h := kr_in_ c h
    refine r_iconst (v := (0 : Int32)) (by decide) d_W_law_1087 ?_
    cases h
    exact r_zret rfl rfl d_W_law_1088
set_option maxRecDepth 20000 in
set_option maxHeartbeats 4000000 in
theorem s_W_law_B1109 {X : Nat → Int32} {L : Nat} {k23 : AS → Option Nat → Option Nat → Option Nat → Int32 → Option (Int32 × AS)} (hk23 : ∀ {S : AS} {x1 : Option Nat} {x2 : Option Nat} {x3 : Option Nat} {x4 : Int32} {r : (Int32 × AS)}, k23 S x1 x2 x3 x4 = some r → kr_AW (m_W_law X L) 15 23 [(0, va_rf (some 2)), (1, va_rf x1), (2, va_rf x2), (3, va_rf x3), (4, .int x4)] [] S (kr_eI r)) {S : AS} {x1 : Option Nat} {x2 : Option Nat} {x3 : Option Nat} {x4 : Int32} {r : (Int32 × AS)} (h : f_W_law_B1109 X L k23 S x1 x2 x3 x4 = some r) : kr_AW (m_W_law X L) 15 1109 [(0, va_rf (some 2)), (1, va_rf x1), (2, va_rf x2), (3, va_rf x3), (4, .int x4)] [] S (kr_eI r) := by
  unfold f_W_law_B1109 at h
  refine r_aload_n (i := 1) (x := x1) 1 rfl d_W_law_1109 ?_
  refine r_aload_n (i := 0) (x := (some 2)) 0 rfl d_W_law_1110 ?_
  refine r_iload (i := 4) (x := x4) 4 rfl d_W_law_1111 ?_
  refine r_iconst (v := (1 : Int32)) (by decide) d_W_law_1113 ?_
  refine r_iadd d_W_law_1114 ?_
  have h2 := kr_ob h
  clear h
  obtain ⟨v162, ev162, h⟩ := h2
  refine r_sload rfl ev162 d_W_law_1115 ?_
  refine r_aload_n (i := 3) (x := x3) 3 rfl d_W_law_1116 ?_
  have h2 := kr_ob2 h
  clear h
  obtain ⟨v164, S163, eS163, h⟩ := h2
  refine r_callSX (M1 := m_W_risk) (As := [va_rf x1, .int v162, va_rf x3]) (s_W_risk eS163) mok_W_risk (by decide) w970 w971 (by decide) (kr_c8 kr_c0) d_W_law_1117 (kr_k1 ?_) kr_kn
  refine r_istore (i := 5) (lv' := [(5, .int v164), (0, va_rf (some 2)), (1, va_rf x1), (2, va_rf x2), (3, va_rf x3), (4, .int x4)]) (by show (5 : Nat) < 7; decide) rfl d_W_law_1120 ?_
  refine r_aload_n (i := 2) (x := x2) 3 rfl d_W_law_1122 ?_
  refine r_aload_n (i := 0) (x := (some 2)) 1 rfl d_W_law_1123 ?_
  refine r_iload (i := 4) (x := x4) 5 rfl d_W_law_1124 ?_
  refine r_iconst (v := (1 : Int32)) (by decide) d_W_law_1126 ?_
  refine r_iadd d_W_law_1127 ?_
  have h2 := kr_ob h
  clear h
  obtain ⟨v165, ev165, h⟩ := h2
  refine r_sload rfl ev165 d_W_law_1128 ?_
  have h2 := kr_ob h
  clear h
  obtain ⟨⟨⟩, eu166, h⟩ := h2
  have h2 := kr_ob2 h
  clear h
  obtain ⟨v168, S167, eS167, h⟩ := h2
  refine r_callV (M1 := m_M_risk) (κ := 23) (As := [.int v165]) eu166 (s_M_risk eS167) mok_M_risk rfl (by decide) rfl w1867 w1868 w1869 (by decide) (kr_c8 kr_c0) d_W_law_1129 (kr_k1 ?_) kr_kn
  refine r_istore (i := 6) (lv' := [(6, .int v168), (5, .int v164), (0, va_rf (some 2)), (1, va_rf x1), (2, va_rf x2), (3, va_rf x3), (4, .int x4)]) (by show (6 : Nat) < 7; decide) rfl d_W_law_1132 ?_
  refine r_aload_n (i := 2) (x := x2) 4 rfl d_W_law_1134 ?_
  have h2 := kr_ob h
  clear h
  obtain ⟨⟨⟩, eu169, h⟩ := h2
  have h2 := kr_ob2 h
  clear h
  obtain ⟨v171, S170, eS170, h⟩ := h2
  refine r_callV (M1 := m_M_thrown) (κ := 23) (As := []) eu169 (s_M_thrown eS170) mok_M_thrown rfl (by decide) rfl w1688 w1689 w1690 (by decide) (kr_c8 kr_c0) d_W_law_1135 (kr_k1 ?_) kr_kn
  refine r_iload (i := 5) (x := v164) 1 rfl d_W_law_1138 ?_
  refine r_icmp_eq (tgt := 1145) d_W_law_1140 rfl (fun c => ?_) (fun c => ?_)
  · replace h := kr_ip c h
    refine r_iload (i := 5) (x := v164) 1 rfl d_W_law_1145 ?_
    refine r_if_ne (tgt := 1162) d_W_law_1147 rfl (fun c => ?_) (fun c => ?_)
    · replace h := kr_ip c h
      refine r_aload_n (i := 3) (x := x3) 5 rfl d_W_law_1150 ?_
      refine r_iconst (v := (0 : Int32)) (by decide) d_W_law_1151 ?_
      have h2 := kr_ob h
      clear h
      obtain ⟨v172, ev172, h⟩ := h2
      refine r_laload ev172 d_W_law_1152 ?_
      refine r_iload (i := 6) (x := v168) 0 rfl d_W_law_1153 ?_
      refine r_i2l d_W_law_1155 ?_
      refine r_lcmp d_W_law_1156 ?_
      refine r_if_eq (tgt := 1162) d_W_law_1157 rfl (fun c => ?_) (fun c => ?_)
      · replace h := kr_ip c h
        refine r_goto (tgt := 3320) d_W_law_1162 rfl ?_
        exact kr_sub [2, 3, 4, 5, 6] rfl (s_W_law_B3320 hk23 h)
      · replace h := kr_in_ c h
        refine r_iconst (v := (0 : Int32)) (by decide) d_W_law_1160 ?_
        cases h
        exact r_zret rfl rfl d_W_law_1161
    · replace h := kr_in_ c h
      refine r_goto (tgt := 3320) d_W_law_1162 rfl ?_
      exact kr_sub [2, 3, 4, 5, 6] rfl (s_W_law_B3320 hk23 h)
  · replace h := kr_in_ c h
    refine r_iconst (v := (0 : Int32)) (by decide) d_W_law_1143 ?_
    cases h
    exact r_zret rfl rfl d_W_law_1144
set_option maxRecDepth 20000 in
set_option maxHeartbeats 4000000 in
theorem s_W_law_B1165 {X : Nat → Int32} {L : Nat} {k23 : AS → Option Nat → Option Nat → Option Nat → Int32 → Option (Int32 × AS)} (hk23 : ∀ {S : AS} {x1 : Option Nat} {x2 : Option Nat} {x3 : Option Nat} {x4 : Int32} {r : (Int32 × AS)}, k23 S x1 x2 x3 x4 = some r → kr_AW (m_W_law X L) 15 23 [(0, va_rf (some 2)), (1, va_rf x1), (2, va_rf x2), (3, va_rf x3), (4, .int x4)] [] S (kr_eI r)) {S : AS} {x1 : Option Nat} {x2 : Option Nat} {x3 : Option Nat} {x4 : Int32} {r : (Int32 × AS)} (h : f_W_law_B1165 X L k23 S x1 x2 x3 x4 = some r) : kr_AW (m_W_law X L) 15 1165 [(0, va_rf (some 2)), (1, va_rf x1), (2, va_rf x2), (3, va_rf x3), (4, .int x4)] [] S (kr_eI r) := by
  unfold f_W_law_B1165 at h
  refine r_aload_n (i := 1) (x := x1) 1 rfl d_W_law_1165 ?_
  refine r_aload_n (i := 0) (x := (some 2)) 0 rfl d_W_law_1166 ?_
  refine r_iload (i := 4) (x := x4) 4 rfl d_W_law_1167 ?_
  refine r_iconst (v := (1 : Int32)) (by decide) d_W_law_1169 ?_
  refine r_iadd d_W_law_1170 ?_
  have h2 := kr_ob h
  clear h
  obtain ⟨v173, ev173, h⟩ := h2
  refine r_sload rfl ev173 d_W_law_1171 ?_
  refine r_aload_n (i := 3) (x := x3) 3 rfl d_W_law_1172 ?_
  have h2 := kr_ob2 h
  clear h
  obtain ⟨v175, S174, eS174, h⟩ := h2
  refine r_callSX (M1 := m_W_trialRisk) (As := [va_rf x1, .int v173, va_rf x3]) (s_W_trialRisk eS174) mok_W_trialRisk (by decide) w977 w978 (by decide) (kr_c8 kr_c0) d_W_law_1173 (kr_k1 ?_) kr_kn
  refine r_istore (i := 5) (lv' := [(5, .int v175), (0, va_rf (some 2)), (1, va_rf x1), (2, va_rf x2), (3, va_rf x3), (4, .int x4)]) (by show (5 : Nat) < 7; decide) rfl d_W_law_1176 ?_
  refine r_aload_n (i := 2) (x := x2) 3 rfl d_W_law_1178 ?_
  refine r_aload_n (i := 0) (x := (some 2)) 1 rfl d_W_law_1179 ?_
  refine r_iload (i := 4) (x := x4) 5 rfl d_W_law_1180 ?_
  refine r_iconst (v := (1 : Int32)) (by decide) d_W_law_1182 ?_
  refine r_iadd d_W_law_1183 ?_
  have h2 := kr_ob h
  clear h
  obtain ⟨v176, ev176, h⟩ := h2
  refine r_sload rfl ev176 d_W_law_1184 ?_
  have h2 := kr_ob h
  clear h
  obtain ⟨⟨⟩, eu177, h⟩ := h2
  have h2 := kr_ob2 h
  clear h
  obtain ⟨v179, S178, eS178, h⟩ := h2
  refine r_callV (M1 := m_M_trialRisk) (κ := 23) (As := [.int v176]) eu177 (s_M_trialRisk eS178) mok_M_trialRisk rfl (by decide) rfl w1871 w1872 w1873 (by decide) (kr_c8 kr_c0) d_W_law_1185 (kr_k1 ?_) kr_kn
  refine r_istore (i := 6) (lv' := [(6, .int v179), (5, .int v175), (0, va_rf (some 2)), (1, va_rf x1), (2, va_rf x2), (3, va_rf x3), (4, .int x4)]) (by show (6 : Nat) < 7; decide) rfl d_W_law_1188 ?_
  refine r_aload_n (i := 2) (x := x2) 4 rfl d_W_law_1190 ?_
  have h2 := kr_ob h
  clear h
  obtain ⟨⟨⟩, eu180, h⟩ := h2
  have h2 := kr_ob2 h
  clear h
  obtain ⟨v182, S181, eS181, h⟩ := h2
  refine r_callV (M1 := m_M_thrown) (κ := 23) (As := []) eu180 (s_M_thrown eS181) mok_M_thrown rfl (by decide) rfl w1688 w1689 w1690 (by decide) (kr_c8 kr_c0) d_W_law_1191 (kr_k1 ?_) kr_kn
  refine r_iload (i := 5) (x := v175) 1 rfl d_W_law_1194 ?_
  refine r_icmp_eq (tgt := 1201) d_W_law_1196 rfl (fun c => ?_) (fun c => ?_)
  · replace h := kr_ip c h
    refine r_iload (i := 5) (x := v175) 1 rfl d_W_law_1201 ?_
    refine r_if_ne (tgt := 1218) d_W_law_1203 rfl (fun c => ?_) (fun c => ?_)
    · replace h := kr_ip c h
      refine r_aload_n (i := 3) (x := x3) 5 rfl d_W_law_1206 ?_
      refine r_iconst (v := (0 : Int32)) (by decide) d_W_law_1207 ?_
      have h2 := kr_ob h
      clear h
      obtain ⟨v183, ev183, h⟩ := h2
      refine r_laload ev183 d_W_law_1208 ?_
      refine r_iload (i := 6) (x := v179) 0 rfl d_W_law_1209 ?_
      refine r_i2l d_W_law_1211 ?_
      refine r_lcmp d_W_law_1212 ?_
      refine r_if_eq (tgt := 1218) d_W_law_1213 rfl (fun c => ?_) (fun c => ?_)
      · replace h := kr_ip c h
        refine r_goto (tgt := 3320) d_W_law_1218 rfl ?_
        exact kr_sub [2, 3, 4, 5, 6] rfl (s_W_law_B3320 hk23 h)
      · replace h := kr_in_ c h
        refine r_iconst (v := (0 : Int32)) (by decide) d_W_law_1216 ?_
        cases h
        exact r_zret rfl rfl d_W_law_1217
    · replace h := kr_in_ c h
      refine r_goto (tgt := 3320) d_W_law_1218 rfl ?_
      exact kr_sub [2, 3, 4, 5, 6] rfl (s_W_law_B3320 hk23 h)
  · replace h := kr_in_ c h
    refine r_iconst (v := (0 : Int32)) (by decide) d_W_law_1199 ?_
    cases h
    exact r_zret rfl rfl d_W_law_1200
set_option maxRecDepth 20000 in
set_option maxHeartbeats 4000000 in
theorem s_W_law_B1221 {X : Nat → Int32} {L : Nat} {k23 : AS → Option Nat → Option Nat → Option Nat → Int32 → Option (Int32 × AS)} (hk23 : ∀ {S : AS} {x1 : Option Nat} {x2 : Option Nat} {x3 : Option Nat} {x4 : Int32} {r : (Int32 × AS)}, k23 S x1 x2 x3 x4 = some r → kr_AW (m_W_law X L) 15 23 [(0, va_rf (some 2)), (1, va_rf x1), (2, va_rf x2), (3, va_rf x3), (4, .int x4)] [] S (kr_eI r)) {S : AS} {x1 : Option Nat} {x2 : Option Nat} {x3 : Option Nat} {x4 : Int32} {r : (Int32 × AS)} (h : f_W_law_B1221 X L k23 S x1 x2 x3 x4 = some r) : kr_AW (m_W_law X L) 15 1221 [(0, va_rf (some 2)), (1, va_rf x1), (2, va_rf x2), (3, va_rf x3), (4, .int x4)] [] S (kr_eI r) := by
  unfold f_W_law_B1221 at h
  refine r_aload_n (i := 1) (x := x1) 1 rfl d_W_law_1221 ?_
  have h2 := kr_ob h
  clear h
  obtain ⟨⟨⟩, eu184, h⟩ := h2
  have h2 := kr_ob2 h
  clear h
  obtain ⟨v186, S185, eS185, h⟩ := h2
  refine r_callV (M1 := m_K_sessions) (κ := 22) (As := []) eu184 (s_K_sessions eS185) mok_K_sessions rfl (by decide) rfl w344 w345 w346 (by decide) (kr_c8 kr_c0) d_W_law_1222 (kr_k1 ?_) kr_kn
  refine r_aload_n (i := 2) (x := x2) 2 rfl d_W_law_1225 ?_
  have h2 := kr_ob h
  clear h
  obtain ⟨⟨⟩, eu187, h⟩ := h2
  have h2 := kr_ob2 h
  clear h
  obtain ⟨v189, S188, eS188, h⟩ := h2
  refine r_callV (M1 := m_M_sessions) (κ := 23) (As := []) eu187 (s_M_sessions eS188) mok_M_sessions rfl (by decide) rfl w1875 w1876 w1877 (by decide) (kr_c8 (kr_cI kr_c0)) d_W_law_1226 (kr_k1 ?_) kr_kn
  refine r_icmp_eq (tgt := 3320) d_W_law_1229 rfl (fun c => ?_) (fun c => ?_)
  · replace h := kr_ip c h
    exact kr_sub [0, 1, 2, 3, 4] rfl (s_W_law_B3320 hk23 h)
  · replace h := kr_in_ c h
    refine r_iconst (v := (0 : Int32)) (by decide) d_W_law_1232 ?_
    cases h
    exact r_zret rfl rfl d_W_law_1233
set_option maxRecDepth 20000 in
set_option maxHeartbeats 4000000 in
theorem s_W_law_B1288 {X : Nat → Int32} {L : Nat} {k23 : AS → Option Nat → Option Nat → Option Nat → Int32 → Option (Int32 × AS)} (hk23 : ∀ {S : AS} {x1 : Option Nat} {x2 : Option Nat} {x3 : Option Nat} {x4 : Int32} {r : (Int32 × AS)}, k23 S x1 x2 x3 x4 = some r → kr_AW (m_W_law X L) 15 23 [(0, va_rf (some 2)), (1, va_rf x1), (2, va_rf x2), (3, va_rf x3), (4, .int x4)] [] S (kr_eI r)) {S : AS} {x1 : Option Nat} {x2 : Option Nat} {x3 : Option Nat} {x4 : Int32} {y0 : Int64} {y1 : Int64} {r : (Int32 × AS)} (h : f_W_law_B1288 X L k23 S x1 x2 x3 x4 y0 y1 = some r) : kr_AW (m_W_law X L) 15 1288 [(0, va_rf (some 2)), (1, va_rf x1), (2, va_rf x2), (3, va_rf x3), (4, .int x4)] [.long y1, .long y0] S (kr_eI r) := by
  unfold f_W_law_B1288 at h
  refine r_lcmp d_W_law_1288 ?_
  refine r_if_eq (tgt := 1294) d_W_law_1289 rfl (fun c => ?_) (fun c => ?_)
  · replace h := kr_ip c h
    refine r_goto (tgt := 3320) d_W_law_1294 rfl ?_
    exact kr_sub [0, 1, 2, 3, 4] rfl (s_W_law_B3320 hk23 h)
  · replace h := kr_in_ c h
    refine r_iconst (v := (0 : Int32)) (by decide) d_W_law_1292 ?_
    cases h
    exact r_zret rfl rfl d_W_law_1293
set_option maxRecDepth 20000 in
set_option maxHeartbeats 4000000 in
theorem s_W_law_B1234 {X : Nat → Int32} {L : Nat} {k23 : AS → Option Nat → Option Nat → Option Nat → Int32 → Option (Int32 × AS)} (hk23 : ∀ {S : AS} {x1 : Option Nat} {x2 : Option Nat} {x3 : Option Nat} {x4 : Int32} {r : (Int32 × AS)}, k23 S x1 x2 x3 x4 = some r → kr_AW (m_W_law X L) 15 23 [(0, va_rf (some 2)), (1, va_rf x1), (2, va_rf x2), (3, va_rf x3), (4, .int x4)] [] S (kr_eI r)) {S : AS} {x1 : Option Nat} {x2 : Option Nat} {x3 : Option Nat} {x4 : Int32} {r : (Int32 × AS)} (h : f_W_law_B1234 X L k23 S x1 x2 x3 x4 = some r) : kr_AW (m_W_law X L) 15 1234 [(0, va_rf (some 2)), (1, va_rf x1), (2, va_rf x2), (3, va_rf x3), (4, .int x4)] [] S (kr_eI r) := by
  unfold f_W_law_B1234 at h
  refine r_aload_n (i := 1) (x := x1) 1 rfl d_W_law_1234 ?_
  refine r_aload_n (i := 0) (x := (some 2)) 0 rfl d_W_law_1235 ?_
  refine r_iload (i := 4) (x := x4) 4 rfl d_W_law_1236 ?_
  refine r_iconst (v := (1 : Int32)) (by decide) d_W_law_1238 ?_
  refine r_iadd d_W_law_1239 ?_
  have h2 := kr_ob h
  clear h
  obtain ⟨v190, ev190, h⟩ := h2
  refine r_sload rfl ev190 d_W_law_1240 ?_
  refine r_aload_n (i := 3) (x := x3) 3 rfl d_W_law_1241 ?_
  have h2 := kr_ob2 h
  clear h
  obtain ⟨v192, S191, eS191, h⟩ := h2
  refine r_callSX (M1 := m_W_isLive) (As := [va_rf x1, .int v190, va_rf x3]) (s_W_isLive eS191) mok_W_isLive (by decide) w984 w985 (by decide) (kr_c8 kr_c0) d_W_law_1242 (kr_k1 ?_) kr_kn
  refine r_istore (i := 5) (lv' := [(5, .int v192), (0, va_rf (some 2)), (1, va_rf x1), (2, va_rf x2), (3, va_rf x3), (4, .int x4)]) (by show (5 : Nat) < 7; decide) rfl d_W_law_1245 ?_
  refine r_aload_n (i := 2) (x := x2) 3 rfl d_W_law_1247 ?_
  refine r_aload_n (i := 0) (x := (some 2)) 1 rfl d_W_law_1248 ?_
  refine r_iload (i := 4) (x := x4) 5 rfl d_W_law_1249 ?_
  refine r_iconst (v := (1 : Int32)) (by decide) d_W_law_1251 ?_
  refine r_iadd d_W_law_1252 ?_
  have h2 := kr_ob h
  clear h
  obtain ⟨v193, ev193, h⟩ := h2
  refine r_sload rfl ev193 d_W_law_1253 ?_
  have h2 := kr_ob h
  clear h
  obtain ⟨⟨⟩, eu194, h⟩ := h2
  have h2 := kr_ob2 h
  clear h
  obtain ⟨v196, S195, eS195, h⟩ := h2
  refine r_callV (M1 := m_M_isLive) (κ := 23) (As := [.int v193]) eu194 (s_M_isLive eS195) mok_M_isLive rfl (by decide) rfl w1879 w1880 w1881 (by decide) (kr_c8 kr_c0) d_W_law_1254 (kr_k1 ?_) kr_kn
  refine r_istore (i := 6) (lv' := [(6, .int v196), (5, .int v192), (0, va_rf (some 2)), (1, va_rf x1), (2, va_rf x2), (3, va_rf x3), (4, .int x4)]) (by show (6 : Nat) < 7; decide) rfl d_W_law_1257 ?_
  refine r_aload_n (i := 2) (x := x2) 4 rfl d_W_law_1259 ?_
  have h2 := kr_ob h
  clear h
  obtain ⟨⟨⟩, eu197, h⟩ := h2
  have h2 := kr_ob2 h
  clear h
  obtain ⟨v199, S198, eS198, h⟩ := h2
  refine r_callV (M1 := m_M_thrown) (κ := 23) (As := []) eu197 (s_M_thrown eS198) mok_M_thrown rfl (by decide) rfl w1688 w1689 w1690 (by decide) (kr_c8 kr_c0) d_W_law_1260 (kr_k1 ?_) kr_kn
  refine r_iload (i := 5) (x := v192) 1 rfl d_W_law_1263 ?_
  refine r_icmp_eq (tgt := 1270) d_W_law_1265 rfl (fun c => ?_) (fun c => ?_)
  · replace h := kr_ip c h
    refine r_iload (i := 5) (x := v192) 1 rfl d_W_law_1270 ?_
    refine r_if_ne (tgt := 1294) d_W_law_1272 rfl (fun c => ?_) (fun c => ?_)
    · replace h := kr_ip c h
      refine r_aload_n (i := 3) (x := x3) 5 rfl d_W_law_1275 ?_
      refine r_iconst (v := (0 : Int32)) (by decide) d_W_law_1276 ?_
      have h2 := kr_ob h
      clear h
      obtain ⟨v200, ev200, h⟩ := h2
      refine r_laload ev200 d_W_law_1277 ?_
      refine r_iload (i := 6) (x := v196) 0 rfl d_W_law_1278 ?_
      refine r_if_eq (tgt := 1287) d_W_law_1280 rfl (fun c => ?_) (fun c => ?_)
      · replace h := kr_ip c h
        refine r_lconst (v := (0 : Int64)) (by decide) d_W_law_1287 ?_
        exact kr_sub [2, 3, 4, 5, 6] rfl (s_W_law_B1288 hk23 h)
      · replace h := kr_in_ c h
        refine r_lconst (v := (1 : Int64)) (by decide) d_W_law_1283 ?_
        refine r_goto (tgt := 1288) d_W_law_1284 rfl ?_
        exact kr_sub [2, 3, 4, 5, 6] rfl (s_W_law_B1288 hk23 h)
    · replace h := kr_in_ c h
      refine r_goto (tgt := 3320) d_W_law_1294 rfl ?_
      exact kr_sub [2, 3, 4, 5, 6] rfl (s_W_law_B3320 hk23 h)
  · replace h := kr_in_ c h
    refine r_iconst (v := (0 : Int32)) (by decide) d_W_law_1268 ?_
    cases h
    exact r_zret rfl rfl d_W_law_1269
set_option maxRecDepth 20000 in
set_option maxHeartbeats 4000000 in
theorem s_W_law_B1351 {X : Nat → Int32} {L : Nat} {k23 : AS → Option Nat → Option Nat → Option Nat → Int32 → Option (Int32 × AS)} (hk23 : ∀ {S : AS} {x1 : Option Nat} {x2 : Option Nat} {x3 : Option Nat} {x4 : Int32} {r : (Int32 × AS)}, k23 S x1 x2 x3 x4 = some r → kr_AW (m_W_law X L) 15 23 [(0, va_rf (some 2)), (1, va_rf x1), (2, va_rf x2), (3, va_rf x3), (4, .int x4)] [] S (kr_eI r)) {S : AS} {x1 : Option Nat} {x2 : Option Nat} {x3 : Option Nat} {x4 : Int32} {y0 : Int64} {y1 : Int64} {r : (Int32 × AS)} (h : f_W_law_B1351 X L k23 S x1 x2 x3 x4 y0 y1 = some r) : kr_AW (m_W_law X L) 15 1351 [(0, va_rf (some 2)), (1, va_rf x1), (2, va_rf x2), (3, va_rf x3), (4, .int x4)] [.long y1, .long y0] S (kr_eI r) := by
  unfold f_W_law_B1351 at h
  refine r_lcmp d_W_law_1351 ?_
  refine r_if_eq (tgt := 1357) d_W_law_1352 rfl (fun c => ?_) (fun c => ?_)
  · replace h := kr_ip c h
    refine r_goto (tgt := 3320) d_W_law_1357 rfl ?_
    exact kr_sub [0, 1, 2, 3, 4] rfl (s_W_law_B3320 hk23 h)
  · replace h := kr_in_ c h
    refine r_iconst (v := (0 : Int32)) (by decide) d_W_law_1355 ?_
    cases h
    exact r_zret rfl rfl d_W_law_1356
set_option maxRecDepth 20000 in
set_option maxHeartbeats 4000000 in
theorem s_W_law_B1297 {X : Nat → Int32} {L : Nat} {k23 : AS → Option Nat → Option Nat → Option Nat → Int32 → Option (Int32 × AS)} (hk23 : ∀ {S : AS} {x1 : Option Nat} {x2 : Option Nat} {x3 : Option Nat} {x4 : Int32} {r : (Int32 × AS)}, k23 S x1 x2 x3 x4 = some r → kr_AW (m_W_law X L) 15 23 [(0, va_rf (some 2)), (1, va_rf x1), (2, va_rf x2), (3, va_rf x3), (4, .int x4)] [] S (kr_eI r)) {S : AS} {x1 : Option Nat} {x2 : Option Nat} {x3 : Option Nat} {x4 : Int32} {r : (Int32 × AS)} (h : f_W_law_B1297 X L k23 S x1 x2 x3 x4 = some r) : kr_AW (m_W_law X L) 15 1297 [(0, va_rf (some 2)), (1, va_rf x1), (2, va_rf x2), (3, va_rf x3), (4, .int x4)] [] S (kr_eI r) := by
  unfold f_W_law_B1297 at h
  refine r_aload_n (i := 1) (x := x1) 1 rfl d_W_law_1297 ?_
  refine r_aload_n (i := 0) (x := (some 2)) 0 rfl d_W_law_1298 ?_
  refine r_iload (i := 4) (x := x4) 4 rfl d_W_law_1299 ?_
  refine r_iconst (v := (1 : Int32)) (by decide) d_W_law_1301 ?_
  refine r_iadd d_W_law_1302 ?_
  have h2 := kr_ob h
  clear h
  obtain ⟨v201, ev201, h⟩ := h2
  refine r_sload rfl ev201 d_W_law_1303 ?_
  refine r_aload_n (i := 3) (x := x3) 3 rfl d_W_law_1304 ?_
  have h2 := kr_ob2 h
  clear h
  obtain ⟨v203, S202, eS202, h⟩ := h2
  refine r_callSX (M1 := m_W_isLiveByAudit) (As := [va_rf x1, .int v201, va_rf x3]) (s_W_isLiveByAudit eS202) mok_W_isLiveByAudit (by decide) w995 w996 (by decide) (kr_c8 kr_c0) d_W_law_1305 (kr_k1 ?_) kr_kn
  refine r_istore (i := 5) (lv' := [(5, .int v203), (0, va_rf (some 2)), (1, va_rf x1), (2, va_rf x2), (3, va_rf x3), (4, .int x4)]) (by show (5 : Nat) < 7; decide) rfl d_W_law_1308 ?_
  refine r_aload_n (i := 2) (x := x2) 3 rfl d_W_law_1310 ?_
  refine r_aload_n (i := 0) (x := (some 2)) 1 rfl d_W_law_1311 ?_
  refine r_iload (i := 4) (x := x4) 5 rfl d_W_law_1312 ?_
  refine r_iconst (v := (1 : Int32)) (by decide) d_W_law_1314 ?_
  refine r_iadd d_W_law_1315 ?_
  have h2 := kr_ob h
  clear h
  obtain ⟨v204, ev204, h⟩ := h2
  refine r_sload rfl ev204 d_W_law_1316 ?_
  have h2 := kr_ob h
  clear h
  obtain ⟨⟨⟩, eu205, h⟩ := h2
  have h2 := kr_ob2 h
  clear h
  obtain ⟨v207, S206, eS206, h⟩ := h2
  refine r_callV (M1 := m_M_isLiveByAudit) (κ := 23) (As := [.int v204]) eu205 (s_M_isLiveByAudit eS206) mok_M_isLiveByAudit rfl (by decide) rfl w1887 w1888 w1889 (by decide) (kr_c8 kr_c0) d_W_law_1317 (kr_k1 ?_) kr_kn
  refine r_istore (i := 6) (lv' := [(6, .int v207), (5, .int v203), (0, va_rf (some 2)), (1, va_rf x1), (2, va_rf x2), (3, va_rf x3), (4, .int x4)]) (by show (6 : Nat) < 7; decide) rfl d_W_law_1320 ?_
  refine r_aload_n (i := 2) (x := x2) 4 rfl d_W_law_1322 ?_
  have h2 := kr_ob h
  clear h
  obtain ⟨⟨⟩, eu208, h⟩ := h2
  have h2 := kr_ob2 h
  clear h
  obtain ⟨v210, S209, eS209, h⟩ := h2
  refine r_callV (M1 := m_M_thrown) (κ := 23) (As := []) eu208 (s_M_thrown eS209) mok_M_thrown rfl (by decide) rfl w1688 w1689 w1690 (by decide) (kr_c8 kr_c0) d_W_law_1323 (kr_k1 ?_) kr_kn
  refine r_iload (i := 5) (x := v203) 1 rfl d_W_law_1326 ?_
  refine r_icmp_eq (tgt := 1333) d_W_law_1328 rfl (fun c => ?_) (fun c => ?_)
  · replace h := kr_ip c h
    refine r_iload (i := 5) (x := v203) 1 rfl d_W_law_1333 ?_
    refine r_if_ne (tgt := 1357) d_W_law_1335 rfl (fun c => ?_) (fun c => ?_)
    · replace h := kr_ip c h
      refine r_aload_n (i := 3) (x := x3) 5 rfl d_W_law_1338 ?_
      refine r_iconst (v := (0 : Int32)) (by decide) d_W_law_1339 ?_
      have h2 := kr_ob h
      clear h
      obtain ⟨v211, ev211, h⟩ := h2
      refine r_laload ev211 d_W_law_1340 ?_
      refine r_iload (i := 6) (x := v207) 0 rfl d_W_law_1341 ?_
      refine r_if_eq (tgt := 1350) d_W_law_1343 rfl (fun c => ?_) (fun c => ?_)
      · replace h := kr_ip c h
        refine r_lconst (v := (0 : Int64)) (by decide) d_W_law_1350 ?_
        exact kr_sub [2, 3, 4, 5, 6] rfl (s_W_law_B1351 hk23 h)
      · replace h := kr_in_ c h
        refine r_lconst (v := (1 : Int64)) (by decide) d_W_law_1346 ?_
        refine r_goto (tgt := 1351) d_W_law_1347 rfl ?_
        exact kr_sub [2, 3, 4, 5, 6] rfl (s_W_law_B1351 hk23 h)
    · replace h := kr_in_ c h
      refine r_goto (tgt := 3320) d_W_law_1357 rfl ?_
      exact kr_sub [2, 3, 4, 5, 6] rfl (s_W_law_B3320 hk23 h)
  · replace h := kr_in_ c h
    refine r_iconst (v := (0 : Int32)) (by decide) d_W_law_1331 ?_
    cases h
    exact r_zret rfl rfl d_W_law_1332
set_option maxRecDepth 20000 in
set_option maxHeartbeats 4000000 in
theorem s_W_law_B1360 {X : Nat → Int32} {L : Nat} {k23 : AS → Option Nat → Option Nat → Option Nat → Int32 → Option (Int32 × AS)} (hk23 : ∀ {S : AS} {x1 : Option Nat} {x2 : Option Nat} {x3 : Option Nat} {x4 : Int32} {r : (Int32 × AS)}, k23 S x1 x2 x3 x4 = some r → kr_AW (m_W_law X L) 15 23 [(0, va_rf (some 2)), (1, va_rf x1), (2, va_rf x2), (3, va_rf x3), (4, .int x4)] [] S (kr_eI r)) {S : AS} {x1 : Option Nat} {x2 : Option Nat} {x3 : Option Nat} {x4 : Int32} {r : (Int32 × AS)} (h : f_W_law_B1360 X L k23 S x1 x2 x3 x4 = some r) : kr_AW (m_W_law X L) 15 1360 [(0, va_rf (some 2)), (1, va_rf x1), (2, va_rf x2), (3, va_rf x3), (4, .int x4)] [] S (kr_eI r) := by
  unfold f_W_law_B1360 at h
  refine r_aload_n (i := 1) (x := x1) 1 rfl d_W_law_1360 ?_
  refine r_aload_n (i := 0) (x := (some 2)) 0 rfl d_W_law_1361 ?_
  refine r_iload (i := 4) (x := x4) 4 rfl d_W_law_1362 ?_
  refine r_iconst (v := (1 : Int32)) (by decide) d_W_law_1364 ?_
  refine r_iadd d_W_law_1365 ?_
  have h2 := kr_ob h
  clear h
  obtain ⟨v212, ev212, h⟩ := h2
  refine r_sload rfl ev212 d_W_law_1366 ?_
  refine r_aload_n (i := 3) (x := x3) 3 rfl d_W_law_1367 ?_
  have h2 := kr_ob2 h
  clear h
  obtain ⟨v214, S213, eS213, h⟩ := h2
  refine r_callSX (M1 := m_W_level) (As := [va_rf x1, .int v212, va_rf x3]) (s_W_level eS213) mok_W_level (by decide) w1010 w1011 (by decide) (kr_c8 kr_c0) d_W_law_1368 (kr_k1 ?_) kr_kn
  refine r_istore (i := 5) (lv' := [(5, .int v214), (0, va_rf (some 2)), (1, va_rf x1), (2, va_rf x2), (3, va_rf x3), (4, .int x4)]) (by show (5 : Nat) < 7; decide) rfl d_W_law_1371 ?_
  refine r_aload_n (i := 2) (x := x2) 3 rfl d_W_law_1373 ?_
  refine r_aload_n (i := 0) (x := (some 2)) 1 rfl d_W_law_1374 ?_
  refine r_iload (i := 4) (x := x4) 5 rfl d_W_law_1375 ?_
  refine r_iconst (v := (1 : Int32)) (by decide) d_W_law_1377 ?_
  refine r_iadd d_W_law_1378 ?_
  have h2 := kr_ob h
  clear h
  obtain ⟨v215, ev215, h⟩ := h2
  refine r_sload rfl ev215 d_W_law_1379 ?_
  have h2 := kr_ob h
  clear h
  obtain ⟨⟨⟩, eu216, h⟩ := h2
  have h2 := kr_ob2 h
  clear h
  obtain ⟨v218, S217, eS217, h⟩ := h2
  refine r_callV (M1 := m_M_level) (κ := 23) (As := [.int v215]) eu216 (s_M_level eS217) mok_M_level rfl (by decide) rfl w1891 w1892 w1893 (by decide) (kr_c8 kr_c0) d_W_law_1380 (kr_k1 ?_) kr_kn
  refine r_istore (i := 6) (lv' := [(6, .int v218), (5, .int v214), (0, va_rf (some 2)), (1, va_rf x1), (2, va_rf x2), (3, va_rf x3), (4, .int x4)]) (by show (6 : Nat) < 7; decide) rfl d_W_law_1383 ?_
  refine r_aload_n (i := 2) (x := x2) 4 rfl d_W_law_1385 ?_
  have h2 := kr_ob h
  clear h
  obtain ⟨⟨⟩, eu219, h⟩ := h2
  have h2 := kr_ob2 h
  clear h
  obtain ⟨v221, S220, eS220, h⟩ := h2
  refine r_callV (M1 := m_M_thrown) (κ := 23) (As := []) eu219 (s_M_thrown eS220) mok_M_thrown rfl (by decide) rfl w1688 w1689 w1690 (by decide) (kr_c8 kr_c0) d_W_law_1386 (kr_k1 ?_) kr_kn
  refine r_iload (i := 5) (x := v214) 1 rfl d_W_law_1389 ?_
  refine r_icmp_eq (tgt := 1396) d_W_law_1391 rfl (fun c => ?_) (fun c => ?_)
  · replace h := kr_ip c h
    refine r_iload (i := 5) (x := v214) 1 rfl d_W_law_1396 ?_
    refine r_if_ne (tgt := 1413) d_W_law_1398 rfl (fun c => ?_) (fun c => ?_)
    · replace h := kr_ip c h
      refine r_aload_n (i := 3) (x := x3) 5 rfl d_W_law_1401 ?_
      refine r_iconst (v := (0 : Int32)) (by decide) d_W_law_1402 ?_
      have h2 := kr_ob h
      clear h
      obtain ⟨v222, ev222, h⟩ := h2
      refine r_laload ev222 d_W_law_1403 ?_
      refine r_iload (i := 6) (x := v218) 0 rfl d_W_law_1404 ?_
      refine r_i2l d_W_law_1406 ?_
      refine r_lcmp d_W_law_1407 ?_
      refine r_if_eq (tgt := 1413) d_W_law_1408 rfl (fun c => ?_) (fun c => ?_)
      · replace h := kr_ip c h
        refine r_goto (tgt := 3320) d_W_law_1413 rfl ?_
        exact kr_sub [2, 3, 4, 5, 6] rfl (s_W_law_B3320 hk23 h)
      · replace h := kr_in_ c h
        refine r_iconst (v := (0 : Int32)) (by decide) d_W_law_1411 ?_
        cases h
        exact r_zret rfl rfl d_W_law_1412
    · replace h := kr_in_ c h
      refine r_goto (tgt := 3320) d_W_law_1413 rfl ?_
      exact kr_sub [2, 3, 4, 5, 6] rfl (s_W_law_B3320 hk23 h)
  · replace h := kr_in_ c h
    refine r_iconst (v := (0 : Int32)) (by decide) d_W_law_1394 ?_
    cases h
    exact r_zret rfl rfl d_W_law_1395
set_option maxRecDepth 20000 in
set_option maxHeartbeats 4000000 in
theorem s_W_law_B1482 {X : Nat → Int32} {L : Nat} {k23 : AS → Option Nat → Option Nat → Option Nat → Int32 → Option (Int32 × AS)} (hk23 : ∀ {S : AS} {x1 : Option Nat} {x2 : Option Nat} {x3 : Option Nat} {x4 : Int32} {r : (Int32 × AS)}, k23 S x1 x2 x3 x4 = some r → kr_AW (m_W_law X L) 15 23 [(0, va_rf (some 2)), (1, va_rf x1), (2, va_rf x2), (3, va_rf x3), (4, .int x4)] [] S (kr_eI r)) {S : AS} {x1 : Option Nat} {x2 : Option Nat} {x3 : Option Nat} {x4 : Int32} {x5 : Int32} {y0 : Option Nat} {y1 : Int32} {y2 : Int32} {y3 : Int32} {r : (Int32 × AS)} (h : f_W_law_B1482 X L k23 S x1 x2 x3 x4 x5 y0 y1 y2 y3 = some r) : kr_AW (m_W_law X L) 15 1482 [(0, va_rf (some 2)), (1, va_rf x1), (2, va_rf x2), (3, va_rf x3), (4, .int x4), (5, .int x5)] [.int y3, .int y2, .int y1, va_rf y0] S (kr_eI r) := by
  unfold f_W_law_B1482 at h
  refine r_aload_n (i := 0) (x := (some 2)) 0 rfl d_W_law_1482 ?_
  refine r_iload (i := 4) (x := x4) 4 rfl d_W_law_1483 ?_
  refine r_iconst (v := (4 : Int32)) (by decide) d_W_law_1485 ?_
  refine r_iadd d_W_law_1486 ?_
  have h2 := kr_ob h
  clear h
  obtain ⟨v223, ev223, h⟩ := h2
  refine r_sload rfl ev223 d_W_law_1487 ?_
  have h2 := kr_ob h
  clear h
  obtain ⟨⟨⟩, eu224, h⟩ := h2
  have h2 := kr_ob2 h
  clear h
  obtain ⟨v226, S225, eS225, h⟩ := h2
  refine r_callV (M1 := m_M_stepUp) (κ := 23) (As := [.int y1, .int y2, .int y3, .int v223]) eu224 (s_M_stepUp eS225) mok_M_stepUp rfl (by decide) rfl w1899 w1900 w1901 (by decide) (kr_c8 kr_c0) d_W_law_1488 (kr_k1 ?_) kr_kn
  refine r_istore (i := 6) (lv' := [(6, .int v226), (0, va_rf (some 2)), (1, va_rf x1), (2, va_rf x2), (3, va_rf x3), (4, .int x4), (5, .int x5)]) (by show (6 : Nat) < 7; decide) rfl d_W_law_1491 ?_
  refine r_aload_n (i := 2) (x := x2) 3 rfl d_W_law_1493 ?_
  have h2 := kr_ob h
  clear h
  obtain ⟨⟨⟩, eu227, h⟩ := h2
  have h2 := kr_ob2 h
  clear h
  obtain ⟨v229, S228, eS228, h⟩ := h2
  refine r_callV (M1 := m_M_thrown) (κ := 23) (As := []) eu227 (s_M_thrown eS228) mok_M_thrown rfl (by decide) rfl w1688 w1689 w1690 (by decide) (kr_c8 kr_c0) d_W_law_1494 (kr_k1 ?_) kr_kn
  refine r_iload (i := 5) (x := x5) 6 rfl d_W_law_1497 ?_
  refine r_icmp_eq (tgt := 1504) d_W_law_1499 rfl (fun c => ?_) (fun c => ?_)
  · replace h := kr_ip c h
    refine r_iload (i := 5) (x := x5) 6 rfl d_W_law_1504 ?_
    refine r_if_ne (tgt := 1521) d_W_law_1506 rfl (fun c => ?_) (fun c => ?_)
    · replace h := kr_ip c h
      refine r_aload_n (i := 3) (x := x3) 4 rfl d_W_law_1509 ?_
      refine r_iconst (v := (0 : Int32)) (by decide) d_W_law_1510 ?_
      have h2 := kr_ob h
      clear h
      obtain ⟨v230, ev230, h⟩ := h2
      refine r_laload ev230 d_W_law_1511 ?_
      refine r_iload (i := 6) (x := v226) 0 rfl d_W_law_1512 ?_
      refine r_i2l d_W_law_1514 ?_
      refine r_lcmp d_W_law_1515 ?_
      refine r_if_eq (tgt := 1521) d_W_law_1516 rfl (fun c => ?_) (fun c => ?_)
      · replace h := kr_ip c h
        refine r_goto (tgt := 3320) d_W_law_1521 rfl ?_
        exact kr_sub [1, 2, 3, 4, 5] rfl (s_W_law_B3320 hk23 h)
      · replace h := kr_in_ c h
        refine r_iconst (v := (0 : Int32)) (by decide) d_W_law_1519 ?_
        cases h
        exact r_zret rfl rfl d_W_law_1520
    · replace h := kr_in_ c h
      refine r_goto (tgt := 3320) d_W_law_1521 rfl ?_
      exact kr_sub [1, 2, 3, 4, 5] rfl (s_W_law_B3320 hk23 h)
  · replace h := kr_in_ c h
    refine r_iconst (v := (0 : Int32)) (by decide) d_W_law_1502 ?_
    cases h
    exact r_zret rfl rfl d_W_law_1503
set_option maxRecDepth 20000 in
set_option maxHeartbeats 4000000 in
theorem s_W_law_B1443 {X : Nat → Int32} {L : Nat} {k23 : AS → Option Nat → Option Nat → Option Nat → Int32 → Option (Int32 × AS)} (hk23 : ∀ {S : AS} {x1 : Option Nat} {x2 : Option Nat} {x3 : Option Nat} {x4 : Int32} {r : (Int32 × AS)}, k23 S x1 x2 x3 x4 = some r → kr_AW (m_W_law X L) 15 23 [(0, va_rf (some 2)), (1, va_rf x1), (2, va_rf x2), (3, va_rf x3), (4, .int x4)] [] S (kr_eI r)) {S : AS} {x1 : Option Nat} {x2 : Option Nat} {x3 : Option Nat} {x4 : Int32} {y0 : Option Nat} {y1 : Int32} {y2 : Int32} {y3 : Int32} {r : (Int32 × AS)} (h : f_W_law_B1443 X L k23 S x1 x2 x3 x4 y0 y1 y2 y3 = some r) : kr_AW (m_W_law X L) 15 1443 [(0, va_rf (some 2)), (1, va_rf x1), (2, va_rf x2), (3, va_rf x3), (4, .int x4)] [.int y3, .int y2, .int y1, va_rf y0] S (kr_eI r) := by
  unfold f_W_law_B1443 at h
  refine r_aload_n (i := 0) (x := (some 2)) 0 rfl d_W_law_1443 ?_
  refine r_iload (i := 4) (x := x4) 4 rfl d_W_law_1444 ?_
  refine r_iconst (v := (4 : Int32)) (by decide) d_W_law_1446 ?_
  refine r_iadd d_W_law_1447 ?_
  have h2 := kr_ob h
  clear h
  obtain ⟨v231, ev231, h⟩ := h2
  refine r_sload rfl ev231 d_W_law_1448 ?_
  refine r_aload_n (i := 3) (x := x3) 3 rfl d_W_law_1449 ?_
  have h2 := kr_ob2 h
  clear h
  obtain ⟨v233, S232, eS232, h⟩ := h2
  refine r_callSX (M1 := m_W_stepUp) (As := [va_rf y0, .int y1, .int y2, .int y3, .int v231, va_rf x3]) (s_W_stepUp eS232) mok_W_stepUp (by decide) w1022 w1023 (by decide) (kr_c8 kr_c0) d_W_law_1450 (kr_k1 ?_) kr_kn
  refine r_istore (i := 5) (lv' := [(5, .int v233), (0, va_rf (some 2)), (1, va_rf x1), (2, va_rf x2), (3, va_rf x3), (4, .int x4)]) (by show (5 : Nat) < 7; decide) rfl d_W_law_1453 ?_
  refine r_aload_n (i := 2) (x := x2) 3 rfl d_W_law_1455 ?_
  refine r_aload_n (i := 0) (x := (some 2)) 1 rfl d_W_law_1456 ?_
  refine r_iload (i := 4) (x := x4) 5 rfl d_W_law_1457 ?_
  refine r_iconst (v := (1 : Int32)) (by decide) d_W_law_1459 ?_
  refine r_iadd d_W_law_1460 ?_
  have h2 := kr_ob h
  clear h
  obtain ⟨v234, ev234, h⟩ := h2
  refine r_sload rfl ev234 d_W_law_1461 ?_
  refine r_aload_n (i := 0) (x := (some 2)) 1 rfl d_W_law_1462 ?_
  refine r_iload (i := 4) (x := x4) 5 rfl d_W_law_1463 ?_
  refine r_iconst (v := (2 : Int32)) (by decide) d_W_law_1465 ?_
  refine r_iadd d_W_law_1466 ?_
  have h2 := kr_ob h
  clear h
  obtain ⟨v235, ev235, h⟩ := h2
  refine r_sload rfl ev235 d_W_law_1467 ?_
  refine r_aload_n (i := 0) (x := (some 2)) 1 rfl d_W_law_1468 ?_
  refine r_iload (i := 4) (x := x4) 5 rfl d_W_law_1469 ?_
  refine r_iconst (v := (3 : Int32)) (by decide) d_W_law_1471 ?_
  refine r_iadd d_W_law_1472 ?_
  have h2 := kr_ob h
  clear h
  obtain ⟨v236, ev236, h⟩ := h2
  refine r_sload rfl ev236 d_W_law_1473 ?_
  refine r_if_eq (tgt := 1481) d_W_law_1474 rfl (fun c => ?_) (fun c => ?_)
  · replace h := kr_ip c h
    refine r_iconst (v := (0 : Int32)) (by decide) d_W_law_1481 ?_
    exact kr_sub [1, 2, 3, 4, 5, 0] rfl (s_W_law_B1482 hk23 h)
  · replace h := kr_in_ c h
    refine r_iconst (v := (1 : Int32)) (by decide) d_W_law_1477 ?_
    refine r_goto (tgt := 1482) d_W_law_1478 rfl ?_
    exact kr_sub [1, 2, 3, 4, 5, 0] rfl (s_W_law_B1482 hk23 h)
set_option maxRecDepth 20000 in
set_option maxHeartbeats 4000000 in
theorem s_W_law_B1416 {X : Nat → Int32} {L : Nat} {k23 : AS → Option Nat → Option Nat → Option Nat → Int32 → Option (Int32 × AS)} (hk23 : ∀ {S : AS} {x1 : Option Nat} {x2 : Option Nat} {x3 : Option Nat} {x4 : Int32} {r : (Int32 × AS)}, k23 S x1 x2 x3 x4 = some r → kr_AW (m_W_law X L) 15 23 [(0, va_rf (some 2)), (1, va_rf x1), (2, va_rf x2), (3, va_rf x3), (4, .int x4)] [] S (kr_eI r)) {S : AS} {x1 : Option Nat} {x2 : Option Nat} {x3 : Option Nat} {x4 : Int32} {r : (Int32 × AS)} (h : f_W_law_B1416 X L k23 S x1 x2 x3 x4 = some r) : kr_AW (m_W_law X L) 15 1416 [(0, va_rf (some 2)), (1, va_rf x1), (2, va_rf x2), (3, va_rf x3), (4, .int x4)] [] S (kr_eI r) := by
  unfold f_W_law_B1416 at h
  refine r_aload_n (i := 1) (x := x1) 1 rfl d_W_law_1416 ?_
  refine r_aload_n (i := 0) (x := (some 2)) 0 rfl d_W_law_1417 ?_
  refine r_iload (i := 4) (x := x4) 4 rfl d_W_law_1418 ?_
  refine r_iconst (v := (1 : Int32)) (by decide) d_W_law_1420 ?_
  refine r_iadd d_W_law_1421 ?_
  have h2 := kr_ob h
  clear h
  obtain ⟨v237, ev237, h⟩ := h2
  refine r_sload rfl ev237 d_W_law_1422 ?_
  refine r_aload_n (i := 0) (x := (some 2)) 0 rfl d_W_law_1423 ?_
  refine r_iload (i := 4) (x := x4) 4 rfl d_W_law_1424 ?_
  refine r_iconst (v := (2 : Int32)) (by decide) d_W_law_1426 ?_
  refine r_iadd d_W_law_1427 ?_
  have h2 := kr_ob h
  clear h
  obtain ⟨v238, ev238, h⟩ := h2
  refine r_sload rfl ev238 d_W_law_1428 ?_
  refine r_aload_n (i := 0) (x := (some 2)) 0 rfl d_W_law_1429 ?_
  refine r_iload (i := 4) (x := x4) 4 rfl d_W_law_1430 ?_
  refine r_iconst (v := (3 : Int32)) (by decide) d_W_law_1432 ?_
  refine r_iadd d_W_law_1433 ?_
  have h2 := kr_ob h
  clear h
  obtain ⟨v239, ev239, h⟩ := h2
  refine r_sload rfl ev239 d_W_law_1434 ?_
  refine r_if_eq (tgt := 1442) d_W_law_1435 rfl (fun c => ?_) (fun c => ?_)
  · replace h := kr_ip c h
    refine r_iconst (v := (0 : Int32)) (by decide) d_W_law_1442 ?_
    exact kr_sub [0, 1, 2, 3, 4] rfl (s_W_law_B1443 hk23 h)
  · replace h := kr_in_ c h
    refine r_iconst (v := (1 : Int32)) (by decide) d_W_law_1438 ?_
    refine r_goto (tgt := 1443) d_W_law_1439 rfl ?_
    exact kr_sub [0, 1, 2, 3, 4] rfl (s_W_law_B1443 hk23 h)
set_option maxRecDepth 20000 in
set_option maxHeartbeats 4000000 in
theorem s_W_law_B1524 {X : Nat → Int32} {L : Nat} {k23 : AS → Option Nat → Option Nat → Option Nat → Int32 → Option (Int32 × AS)} (hk23 : ∀ {S : AS} {x1 : Option Nat} {x2 : Option Nat} {x3 : Option Nat} {x4 : Int32} {r : (Int32 × AS)}, k23 S x1 x2 x3 x4 = some r → kr_AW (m_W_law X L) 15 23 [(0, va_rf (some 2)), (1, va_rf x1), (2, va_rf x2), (3, va_rf x3), (4, .int x4)] [] S (kr_eI r)) {S : AS} {x1 : Option Nat} {x2 : Option Nat} {x3 : Option Nat} {x4 : Int32} {r : (Int32 × AS)} (h : f_W_law_B1524 X L k23 S x1 x2 x3 x4 = some r) : kr_AW (m_W_law X L) 15 1524 [(0, va_rf (some 2)), (1, va_rf x1), (2, va_rf x2), (3, va_rf x3), (4, .int x4)] [] S (kr_eI r) := by
  unfold f_W_law_B1524 at h
  refine r_aload_n (i := 1) (x := x1) 1 rfl d_W_law_1524 ?_
  refine r_aload_n (i := 0) (x := (some 2)) 0 rfl d_W_law_1525 ?_
  refine r_iload (i := 4) (x := x4) 4 rfl d_W_law_1526 ?_
  refine r_iconst (v := (1 : Int32)) (by decide) d_W_law_1528 ?_
  refine r_iadd d_W_law_1529 ?_
  have h2 := kr_ob h
  clear h
  obtain ⟨v240, ev240, h⟩ := h2
  refine r_sload rfl ev240 d_W_law_1530 ?_
  refine r_aload_n (i := 3) (x := x3) 3 rfl d_W_law_1531 ?_
  have h2 := kr_ob2 h
  clear h
  obtain ⟨v242, S241, eS241, h⟩ := h2
  refine r_callSX (M1 := m_W_signOut) (As := [va_rf x1, .int v240, va_rf x3]) (s_W_signOut eS241) mok_W_signOut (by decide) w1029 w1030 (by decide) (kr_c8 kr_c0) d_W_law_1532 (kr_k1 ?_) kr_kn
  refine r_istore (i := 5) (lv' := [(5, .int v242), (0, va_rf (some 2)), (1, va_rf x1), (2, va_rf x2), (3, va_rf x3), (4, .int x4)]) (by show (5 : Nat) < 7; decide) rfl d_W_law_1535 ?_
  refine r_aload_n (i := 2) (x := x2) 3 rfl d_W_law_1537 ?_
  refine r_aload_n (i := 0) (x := (some 2)) 1 rfl d_W_law_1538 ?_
  refine r_iload (i := 4) (x := x4) 5 rfl d_W_law_1539 ?_
  refine r_iconst (v := (1 : Int32)) (by decide) d_W_law_1541 ?_
  refine r_iadd d_W_law_1542 ?_
  have h2 := kr_ob h
  clear h
  obtain ⟨v243, ev243, h⟩ := h2
  refine r_sload rfl ev243 d_W_law_1543 ?_
  have h2 := kr_ob h
  clear h
  obtain ⟨⟨⟩, eu244, h⟩ := h2
  have h2 := kr_ob2 h
  clear h
  obtain ⟨v246, S245, eS245, h⟩ := h2
  refine r_callV (M1 := m_M_signOut) (κ := 23) (As := [.int v243]) eu244 (s_M_signOut eS245) mok_M_signOut rfl (by decide) rfl w1903 w1904 w1905 (by decide) (kr_c8 kr_c0) d_W_law_1544 (kr_k1 ?_) kr_kn
  refine r_istore (i := 6) (lv' := [(6, .int v246), (5, .int v242), (0, va_rf (some 2)), (1, va_rf x1), (2, va_rf x2), (3, va_rf x3), (4, .int x4)]) (by show (6 : Nat) < 7; decide) rfl d_W_law_1547 ?_
  refine r_aload_n (i := 2) (x := x2) 4 rfl d_W_law_1549 ?_
  have h2 := kr_ob h
  clear h
  obtain ⟨⟨⟩, eu247, h⟩ := h2
  have h2 := kr_ob2 h
  clear h
  obtain ⟨v249, S248, eS248, h⟩ := h2
  refine r_callV (M1 := m_M_thrown) (κ := 23) (As := []) eu247 (s_M_thrown eS248) mok_M_thrown rfl (by decide) rfl w1688 w1689 w1690 (by decide) (kr_c8 kr_c0) d_W_law_1550 (kr_k1 ?_) kr_kn
  refine r_iload (i := 5) (x := v242) 1 rfl d_W_law_1553 ?_
  refine r_icmp_eq (tgt := 1560) d_W_law_1555 rfl (fun c => ?_) (fun c => ?_)
  · replace h := kr_ip c h
    refine r_iload (i := 5) (x := v242) 1 rfl d_W_law_1560 ?_
    refine r_if_ne (tgt := 1577) d_W_law_1562 rfl (fun c => ?_) (fun c => ?_)
    · replace h := kr_ip c h
      refine r_aload_n (i := 3) (x := x3) 5 rfl d_W_law_1565 ?_
      refine r_iconst (v := (0 : Int32)) (by decide) d_W_law_1566 ?_
      have h2 := kr_ob h
      clear h
      obtain ⟨v250, ev250, h⟩ := h2
      refine r_laload ev250 d_W_law_1567 ?_
      refine r_iload (i := 6) (x := v246) 0 rfl d_W_law_1568 ?_
      refine r_i2l d_W_law_1570 ?_
      refine r_lcmp d_W_law_1571 ?_
      refine r_if_eq (tgt := 1577) d_W_law_1572 rfl (fun c => ?_) (fun c => ?_)
      · replace h := kr_ip c h
        refine r_goto (tgt := 3320) d_W_law_1577 rfl ?_
        exact kr_sub [2, 3, 4, 5, 6] rfl (s_W_law_B3320 hk23 h)
      · replace h := kr_in_ c h
        refine r_iconst (v := (0 : Int32)) (by decide) d_W_law_1575 ?_
        cases h
        exact r_zret rfl rfl d_W_law_1576
    · replace h := kr_in_ c h
      refine r_goto (tgt := 3320) d_W_law_1577 rfl ?_
      exact kr_sub [2, 3, 4, 5, 6] rfl (s_W_law_B3320 hk23 h)
  · replace h := kr_in_ c h
    refine r_iconst (v := (0 : Int32)) (by decide) d_W_law_1558 ?_
    cases h
    exact r_zret rfl rfl d_W_law_1559
set_option maxRecDepth 20000 in
set_option maxHeartbeats 4000000 in
theorem s_W_law_B1634 {X : Nat → Int32} {L : Nat} {k23 : AS → Option Nat → Option Nat → Option Nat → Int32 → Option (Int32 × AS)} (hk23 : ∀ {S : AS} {x1 : Option Nat} {x2 : Option Nat} {x3 : Option Nat} {x4 : Int32} {r : (Int32 × AS)}, k23 S x1 x2 x3 x4 = some r → kr_AW (m_W_law X L) 15 23 [(0, va_rf (some 2)), (1, va_rf x1), (2, va_rf x2), (3, va_rf x3), (4, .int x4)] [] S (kr_eI r)) {S : AS} {x1 : Option Nat} {x2 : Option Nat} {x3 : Option Nat} {x4 : Int32} {y0 : Int64} {y1 : Int64} {r : (Int32 × AS)} (h : f_W_law_B1634 X L k23 S x1 x2 x3 x4 y0 y1 = some r) : kr_AW (m_W_law X L) 15 1634 [(0, va_rf (some 2)), (1, va_rf x1), (2, va_rf x2), (3, va_rf x3), (4, .int x4)] [.long y1, .long y0] S (kr_eI r) := by
  unfold f_W_law_B1634 at h
  refine r_lcmp d_W_law_1634 ?_
  refine r_if_eq (tgt := 1640) d_W_law_1635 rfl (fun c => ?_) (fun c => ?_)
  · replace h := kr_ip c h
    refine r_goto (tgt := 3320) d_W_law_1640 rfl ?_
    exact kr_sub [0, 1, 2, 3, 4] rfl (s_W_law_B3320 hk23 h)
  · replace h := kr_in_ c h
    refine r_iconst (v := (0 : Int32)) (by decide) d_W_law_1638 ?_
    cases h
    exact r_zret rfl rfl d_W_law_1639
set_option maxRecDepth 20000 in
set_option maxHeartbeats 4000000 in
theorem s_W_law_B1580 {X : Nat → Int32} {L : Nat} {k23 : AS → Option Nat → Option Nat → Option Nat → Int32 → Option (Int32 × AS)} (hk23 : ∀ {S : AS} {x1 : Option Nat} {x2 : Option Nat} {x3 : Option Nat} {x4 : Int32} {r : (Int32 × AS)}, k23 S x1 x2 x3 x4 = some r → kr_AW (m_W_law X L) 15 23 [(0, va_rf (some 2)), (1, va_rf x1), (2, va_rf x2), (3, va_rf x3), (4, .int x4)] [] S (kr_eI r)) {S : AS} {x1 : Option Nat} {x2 : Option Nat} {x3 : Option Nat} {x4 : Int32} {r : (Int32 × AS)} (h : f_W_law_B1580 X L k23 S x1 x2 x3 x4 = some r) : kr_AW (m_W_law X L) 15 1580 [(0, va_rf (some 2)), (1, va_rf x1), (2, va_rf x2), (3, va_rf x3), (4, .int x4)] [] S (kr_eI r) := by
  unfold f_W_law_B1580 at h
  refine r_aload_n (i := 1) (x := x1) 1 rfl d_W_law_1580 ?_
  refine r_aload_n (i := 0) (x := (some 2)) 0 rfl d_W_law_1581 ?_
  refine r_iload (i := 4) (x := x4) 4 rfl d_W_law_1582 ?_
  refine r_iconst (v := (1 : Int32)) (by decide) d_W_law_1584 ?_
  refine r_iadd d_W_law_1585 ?_
  have h2 := kr_ob h
  clear h
  obtain ⟨v251, ev251, h⟩ := h2
  refine r_sload rfl ev251 d_W_law_1586 ?_
  refine r_aload_n (i := 3) (x := x3) 3 rfl d_W_law_1587 ?_
  have h2 := kr_ob2 h
  clear h
  obtain ⟨v253, S252, eS252, h⟩ := h2
  refine r_callSX (M1 := m_W_helper) (As := [va_rf x1, .int v251, va_rf x3]) (s_W_helper eS252) mok_W_helper (by decide) w1036 w1037 (by decide) (kr_c8 kr_c0) d_W_law_1588 (kr_k1 ?_) kr_kn
  refine r_istore (i := 5) (lv' := [(5, .int v253), (0, va_rf (some 2)), (1, va_rf x1), (2, va_rf x2), (3, va_rf x3), (4, .int x4)]) (by show (5 : Nat) < 7; decide) rfl d_W_law_1591 ?_
  refine r_aload_n (i := 2) (x := x2) 3 rfl d_W_law_1593 ?_
  refine r_aload_n (i := 0) (x := (some 2)) 1 rfl d_W_law_1594 ?_
  refine r_iload (i := 4) (x := x4) 5 rfl d_W_law_1595 ?_
  refine r_iconst (v := (1 : Int32)) (by decide) d_W_law_1597 ?_
  refine r_iadd d_W_law_1598 ?_
  have h2 := kr_ob h
  clear h
  obtain ⟨v254, ev254, h⟩ := h2
  refine r_sload rfl ev254 d_W_law_1599 ?_
  have h2 := kr_ob h
  clear h
  obtain ⟨⟨⟩, eu255, h⟩ := h2
  have h2 := kr_ob2 h
  clear h
  obtain ⟨v257, S256, eS256, h⟩ := h2
  refine r_callV (M1 := m_M_helper) (κ := 23) (As := [.int v254]) eu255 (s_M_helper eS256) mok_M_helper rfl (by decide) rfl w1907 w1908 w1909 (by decide) (kr_c8 kr_c0) d_W_law_1600 (kr_k1 ?_) kr_kn
  refine r_istore (i := 6) (lv' := [(6, .int v257), (5, .int v253), (0, va_rf (some 2)), (1, va_rf x1), (2, va_rf x2), (3, va_rf x3), (4, .int x4)]) (by show (6 : Nat) < 7; decide) rfl d_W_law_1603 ?_
  refine r_aload_n (i := 2) (x := x2) 4 rfl d_W_law_1605 ?_
  have h2 := kr_ob h
  clear h
  obtain ⟨⟨⟩, eu258, h⟩ := h2
  have h2 := kr_ob2 h
  clear h
  obtain ⟨v260, S259, eS259, h⟩ := h2
  refine r_callV (M1 := m_M_thrown) (κ := 23) (As := []) eu258 (s_M_thrown eS259) mok_M_thrown rfl (by decide) rfl w1688 w1689 w1690 (by decide) (kr_c8 kr_c0) d_W_law_1606 (kr_k1 ?_) kr_kn
  refine r_iload (i := 5) (x := v253) 1 rfl d_W_law_1609 ?_
  refine r_icmp_eq (tgt := 1616) d_W_law_1611 rfl (fun c => ?_) (fun c => ?_)
  · replace h := kr_ip c h
    refine r_iload (i := 5) (x := v253) 1 rfl d_W_law_1616 ?_
    refine r_if_ne (tgt := 1640) d_W_law_1618 rfl (fun c => ?_) (fun c => ?_)
    · replace h := kr_ip c h
      refine r_aload_n (i := 3) (x := x3) 5 rfl d_W_law_1621 ?_
      refine r_iconst (v := (0 : Int32)) (by decide) d_W_law_1622 ?_
      have h2 := kr_ob h
      clear h
      obtain ⟨v261, ev261, h⟩ := h2
      refine r_laload ev261 d_W_law_1623 ?_
      refine r_iload (i := 6) (x := v257) 0 rfl d_W_law_1624 ?_
      refine r_if_eq (tgt := 1633) d_W_law_1626 rfl (fun c => ?_) (fun c => ?_)
      · replace h := kr_ip c h
        refine r_lconst (v := (0 : Int64)) (by decide) d_W_law_1633 ?_
        exact kr_sub [2, 3, 4, 5, 6] rfl (s_W_law_B1634 hk23 h)
      · replace h := kr_in_ c h
        refine r_lconst (v := (1 : Int64)) (by decide) d_W_law_1629 ?_
        refine r_goto (tgt := 1634) d_W_law_1630 rfl ?_
        exact kr_sub [2, 3, 4, 5, 6] rfl (s_W_law_B1634 hk23 h)
    · replace h := kr_in_ c h
      refine r_goto (tgt := 3320) d_W_law_1640 rfl ?_
      exact kr_sub [2, 3, 4, 5, 6] rfl (s_W_law_B3320 hk23 h)
  · replace h := kr_in_ c h
    refine r_iconst (v := (0 : Int32)) (by decide) d_W_law_1614 ?_
    cases h
    exact r_zret rfl rfl d_W_law_1615
set_option maxRecDepth 20000 in
set_option maxHeartbeats 4000000 in
theorem s_W_law_B1643 {X : Nat → Int32} {L : Nat} {k23 : AS → Option Nat → Option Nat → Option Nat → Int32 → Option (Int32 × AS)} (hk23 : ∀ {S : AS} {x1 : Option Nat} {x2 : Option Nat} {x3 : Option Nat} {x4 : Int32} {r : (Int32 × AS)}, k23 S x1 x2 x3 x4 = some r → kr_AW (m_W_law X L) 15 23 [(0, va_rf (some 2)), (1, va_rf x1), (2, va_rf x2), (3, va_rf x3), (4, .int x4)] [] S (kr_eI r)) {S : AS} {x1 : Option Nat} {x2 : Option Nat} {x3 : Option Nat} {x4 : Int32} {r : (Int32 × AS)} (h : f_W_law_B1643 X L k23 S x1 x2 x3 x4 = some r) : kr_AW (m_W_law X L) 15 1643 [(0, va_rf (some 2)), (1, va_rf x1), (2, va_rf x2), (3, va_rf x3), (4, .int x4)] [] S (kr_eI r) := by
  unfold f_W_law_B1643 at h
  refine r_aload_n (i := 1) (x := x1) 1 rfl d_W_law_1643 ?_
  refine r_aload_n (i := 0) (x := (some 2)) 0 rfl d_W_law_1644 ?_
  refine r_iload (i := 4) (x := x4) 4 rfl d_W_law_1645 ?_
  refine r_iconst (v := (1 : Int32)) (by decide) d_W_law_1647 ?_
  refine r_iadd d_W_law_1648 ?_
  have h2 := kr_ob h
  clear h
  obtain ⟨v262, ev262, h⟩ := h2
  refine r_sload rfl ev262 d_W_law_1649 ?_
  refine r_aload_n (i := 0) (x := (some 2)) 0 rfl d_W_law_1650 ?_
  refine r_iload (i := 4) (x := x4) 4 rfl d_W_law_1651 ?_
  refine r_iconst (v := (2 : Int32)) (by decide) d_W_law_1653 ?_
  refine r_iadd d_W_law_1654 ?_
  have h2 := kr_ob h
  clear h
  obtain ⟨v263, ev263, h⟩ := h2
  refine r_sload rfl ev263 d_W_law_1655 ?_
  refine r_aload_n (i := 3) (x := x3) 3 rfl d_W_law_1656 ?_
  have h2 := kr_ob2 h
  clear h
  obtain ⟨v265, S264, eS264, h⟩ := h2
  refine r_callSX (M1 := m_W_act) (As := [va_rf x1, .int v262, .int v263, va_rf x3]) (s_W_act eS264) mok_W_act (by decide) w1043 w1044 (by decide) (kr_c8 kr_c0) d_W_law_1657 (kr_k1 ?_) kr_kn
  refine r_istore (i := 5) (lv' := [(5, .int v265), (0, va_rf (some 2)), (1, va_rf x1), (2, va_rf x2), (3, va_rf x3), (4, .int x4)]) (by show (5 : Nat) < 7; decide) rfl d_W_law_1660 ?_
  refine r_aload_n (i := 2) (x := x2) 3 rfl d_W_law_1662 ?_
  refine r_aload_n (i := 0) (x := (some 2)) 1 rfl d_W_law_1663 ?_
  refine r_iload (i := 4) (x := x4) 5 rfl d_W_law_1664 ?_
  refine r_iconst (v := (1 : Int32)) (by decide) d_W_law_1666 ?_
  refine r_iadd d_W_law_1667 ?_
  have h2 := kr_ob h
  clear h
  obtain ⟨v266, ev266, h⟩ := h2
  refine r_sload rfl ev266 d_W_law_1668 ?_
  refine r_aload_n (i := 0) (x := (some 2)) 1 rfl d_W_law_1669 ?_
  refine r_iload (i := 4) (x := x4) 5 rfl d_W_law_1670 ?_
  refine r_iconst (v := (2 : Int32)) (by decide) d_W_law_1672 ?_
  refine r_iadd d_W_law_1673 ?_
  have h2 := kr_ob h
  clear h
  obtain ⟨v267, ev267, h⟩ := h2
  refine r_sload rfl ev267 d_W_law_1674 ?_
  have h2 := kr_ob h
  clear h
  obtain ⟨⟨⟩, eu268, h⟩ := h2
  have h2 := kr_ob2 h
  clear h
  obtain ⟨v270, S269, eS269, h⟩ := h2
  refine r_callV (M1 := m_M_act) (κ := 23) (As := [.int v266, .int v267]) eu268 (s_M_act eS269) mok_M_act rfl (by decide) rfl w1911 w1912 w1913 (by decide) (kr_c8 kr_c0) d_W_law_1675 (kr_k1 ?_) kr_kn
  refine r_istore (i := 6) (lv' := [(6, .int v270), (5, .int v265), (0, va_rf (some 2)), (1, va_rf x1), (2, va_rf x2), (3, va_rf x3), (4, .int x4)]) (by show (6 : Nat) < 7; decide) rfl d_W_law_1678 ?_
  refine r_aload_n (i := 2) (x := x2) 4 rfl d_W_law_1680 ?_
  have h2 := kr_ob h
  clear h
  obtain ⟨⟨⟩, eu271, h⟩ := h2
  have h2 := kr_ob2 h
  clear h
  obtain ⟨v273, S272, eS272, h⟩ := h2
  refine r_callV (M1 := m_M_thrown) (κ := 23) (As := []) eu271 (s_M_thrown eS272) mok_M_thrown rfl (by decide) rfl w1688 w1689 w1690 (by decide) (kr_c8 kr_c0) d_W_law_1681 (kr_k1 ?_) kr_kn
  refine r_iload (i := 5) (x := v265) 1 rfl d_W_law_1684 ?_
  refine r_icmp_eq (tgt := 1691) d_W_law_1686 rfl (fun c => ?_) (fun c => ?_)
  · replace h := kr_ip c h
    refine r_iload (i := 5) (x := v265) 1 rfl d_W_law_1691 ?_
    refine r_if_ne (tgt := 1708) d_W_law_1693 rfl (fun c => ?_) (fun c => ?_)
    · replace h := kr_ip c h
      refine r_aload_n (i := 3) (x := x3) 5 rfl d_W_law_1696 ?_
      refine r_iconst (v := (0 : Int32)) (by decide) d_W_law_1697 ?_
      have h2 := kr_ob h
      clear h
      obtain ⟨v274, ev274, h⟩ := h2
      refine r_laload ev274 d_W_law_1698 ?_
      refine r_iload (i := 6) (x := v270) 0 rfl d_W_law_1699 ?_
      refine r_i2l d_W_law_1701 ?_
      refine r_lcmp d_W_law_1702 ?_
      refine r_if_eq (tgt := 1708) d_W_law_1703 rfl (fun c => ?_) (fun c => ?_)
      · replace h := kr_ip c h
        refine r_goto (tgt := 3320) d_W_law_1708 rfl ?_
        exact kr_sub [2, 3, 4, 5, 6] rfl (s_W_law_B3320 hk23 h)
      · replace h := kr_in_ c h
        refine r_iconst (v := (0 : Int32)) (by decide) d_W_law_1706 ?_
        cases h
        exact r_zret rfl rfl d_W_law_1707
    · replace h := kr_in_ c h
      refine r_goto (tgt := 3320) d_W_law_1708 rfl ?_
      exact kr_sub [2, 3, 4, 5, 6] rfl (s_W_law_B3320 hk23 h)
  · replace h := kr_in_ c h
    refine r_iconst (v := (0 : Int32)) (by decide) d_W_law_1689 ?_
    cases h
    exact r_zret rfl rfl d_W_law_1690
set_option maxRecDepth 20000 in
set_option maxHeartbeats 4000000 in
theorem s_W_law_B1711 {X : Nat → Int32} {L : Nat} {k23 : AS → Option Nat → Option Nat → Option Nat → Int32 → Option (Int32 × AS)} (hk23 : ∀ {S : AS} {x1 : Option Nat} {x2 : Option Nat} {x3 : Option Nat} {x4 : Int32} {r : (Int32 × AS)}, k23 S x1 x2 x3 x4 = some r → kr_AW (m_W_law X L) 15 23 [(0, va_rf (some 2)), (1, va_rf x1), (2, va_rf x2), (3, va_rf x3), (4, .int x4)] [] S (kr_eI r)) {S : AS} {x1 : Option Nat} {x2 : Option Nat} {x3 : Option Nat} {x4 : Int32} {r : (Int32 × AS)} (h : f_W_law_B1711 X L k23 S x1 x2 x3 x4 = some r) : kr_AW (m_W_law X L) 15 1711 [(0, va_rf (some 2)), (1, va_rf x1), (2, va_rf x2), (3, va_rf x3), (4, .int x4)] [] S (kr_eI r) := by
  unfold f_W_law_B1711 at h
  refine r_aload_n (i := 1) (x := x1) 1 rfl d_W_law_1711 ?_
  refine r_aload_n (i := 0) (x := (some 2)) 0 rfl d_W_law_1712 ?_
  refine r_iload (i := 4) (x := x4) 4 rfl d_W_law_1713 ?_
  refine r_iconst (v := (1 : Int32)) (by decide) d_W_law_1715 ?_
  refine r_iadd d_W_law_1716 ?_
  have h2 := kr_ob h
  clear h
  obtain ⟨v275, ev275, h⟩ := h2
  refine r_sload rfl ev275 d_W_law_1717 ?_
  refine r_aload_n (i := 0) (x := (some 2)) 0 rfl d_W_law_1718 ?_
  refine r_iload (i := 4) (x := x4) 4 rfl d_W_law_1719 ?_
  refine r_iconst (v := (2 : Int32)) (by decide) d_W_law_1721 ?_
  refine r_iadd d_W_law_1722 ?_
  have h2 := kr_ob h
  clear h
  obtain ⟨v276, ev276, h⟩ := h2
  refine r_sload rfl ev276 d_W_law_1723 ?_
  refine r_aload_n (i := 0) (x := (some 2)) 0 rfl d_W_law_1724 ?_
  refine r_iload (i := 4) (x := x4) 4 rfl d_W_law_1725 ?_
  refine r_iconst (v := (3 : Int32)) (by decide) d_W_law_1727 ?_
  refine r_iadd d_W_law_1728 ?_
  have h2 := kr_ob h
  clear h
  obtain ⟨v277, ev277, h⟩ := h2
  refine r_sload rfl ev277 d_W_law_1729 ?_
  refine r_aload_n (i := 3) (x := x3) 3 rfl d_W_law_1730 ?_
  have h2 := kr_ob2 h
  clear h
  obtain ⟨v279, S278, eS278, h⟩ := h2
  refine r_callSX (M1 := m_W_consent) (As := [va_rf x1, .int v275, .int v276, .int v277, va_rf x3]) (s_W_consent eS278) mok_W_consent (by decide) w1050 w1051 (by decide) (kr_c8 kr_c0) d_W_law_1731 (kr_k1 ?_) kr_kn
  refine r_istore (i := 5) (lv' := [(5, .int v279), (0, va_rf (some 2)), (1, va_rf x1), (2, va_rf x2), (3, va_rf x3), (4, .int x4)]) (by show (5 : Nat) < 7; decide) rfl d_W_law_1734 ?_
  refine r_aload_n (i := 2) (x := x2) 3 rfl d_W_law_1736 ?_
  refine r_aload_n (i := 0) (x := (some 2)) 1 rfl d_W_law_1737 ?_
  refine r_iload (i := 4) (x := x4) 5 rfl d_W_law_1738 ?_
  refine r_iconst (v := (1 : Int32)) (by decide) d_W_law_1740 ?_
  refine r_iadd d_W_law_1741 ?_
  have h2 := kr_ob h
  clear h
  obtain ⟨v280, ev280, h⟩ := h2
  refine r_sload rfl ev280 d_W_law_1742 ?_
  refine r_aload_n (i := 0) (x := (some 2)) 1 rfl d_W_law_1743 ?_
  refine r_iload (i := 4) (x := x4) 5 rfl d_W_law_1744 ?_
  refine r_iconst (v := (2 : Int32)) (by decide) d_W_law_1746 ?_
  refine r_iadd d_W_law_1747 ?_
  have h2 := kr_ob h
  clear h
  obtain ⟨v281, ev281, h⟩ := h2
  refine r_sload rfl ev281 d_W_law_1748 ?_
  refine r_aload_n (i := 0) (x := (some 2)) 1 rfl d_W_law_1749 ?_
  refine r_iload (i := 4) (x := x4) 5 rfl d_W_law_1750 ?_
  refine r_iconst (v := (3 : Int32)) (by decide) d_W_law_1752 ?_
  refine r_iadd d_W_law_1753 ?_
  have h2 := kr_ob h
  clear h
  obtain ⟨v282, ev282, h⟩ := h2
  refine r_sload rfl ev282 d_W_law_1754 ?_
  have h2 := kr_ob h
  clear h
  obtain ⟨⟨⟩, eu283, h⟩ := h2
  have h2 := kr_ob2 h
  clear h
  obtain ⟨v285, S284, eS284, h⟩ := h2
  refine r_callV (M1 := m_M_consent) (κ := 23) (As := [.int v280, .int v281, .int v282]) eu283 (s_M_consent eS284) mok_M_consent rfl (by decide) rfl w1915 w1916 w1917 (by decide) (kr_c8 kr_c0) d_W_law_1755 (kr_k1 ?_) kr_kn
  refine r_istore (i := 6) (lv' := [(6, .int v285), (5, .int v279), (0, va_rf (some 2)), (1, va_rf x1), (2, va_rf x2), (3, va_rf x3), (4, .int x4)]) (by show (6 : Nat) < 7; decide) rfl d_W_law_1758 ?_
  refine r_aload_n (i := 2) (x := x2) 4 rfl d_W_law_1760 ?_
  have h2 := kr_ob h
  clear h
  obtain ⟨⟨⟩, eu286, h⟩ := h2
  have h2 := kr_ob2 h
  clear h
  obtain ⟨v288, S287, eS287, h⟩ := h2
  refine r_callV (M1 := m_M_thrown) (κ := 23) (As := []) eu286 (s_M_thrown eS287) mok_M_thrown rfl (by decide) rfl w1688 w1689 w1690 (by decide) (kr_c8 kr_c0) d_W_law_1761 (kr_k1 ?_) kr_kn
  refine r_iload (i := 5) (x := v279) 1 rfl d_W_law_1764 ?_
  refine r_icmp_eq (tgt := 1771) d_W_law_1766 rfl (fun c => ?_) (fun c => ?_)
  · replace h := kr_ip c h
    refine r_iload (i := 5) (x := v279) 1 rfl d_W_law_1771 ?_
    refine r_if_ne (tgt := 1788) d_W_law_1773 rfl (fun c => ?_) (fun c => ?_)
    · replace h := kr_ip c h
      refine r_aload_n (i := 3) (x := x3) 5 rfl d_W_law_1776 ?_
      refine r_iconst (v := (0 : Int32)) (by decide) d_W_law_1777 ?_
      have h2 := kr_ob h
      clear h
      obtain ⟨v289, ev289, h⟩ := h2
      refine r_laload ev289 d_W_law_1778 ?_
      refine r_iload (i := 6) (x := v285) 0 rfl d_W_law_1779 ?_
      refine r_i2l d_W_law_1781 ?_
      refine r_lcmp d_W_law_1782 ?_
      refine r_if_eq (tgt := 1788) d_W_law_1783 rfl (fun c => ?_) (fun c => ?_)
      · replace h := kr_ip c h
        refine r_goto (tgt := 3320) d_W_law_1788 rfl ?_
        exact kr_sub [2, 3, 4, 5, 6] rfl (s_W_law_B3320 hk23 h)
      · replace h := kr_in_ c h
        refine r_iconst (v := (0 : Int32)) (by decide) d_W_law_1786 ?_
        cases h
        exact r_zret rfl rfl d_W_law_1787
    · replace h := kr_in_ c h
      refine r_goto (tgt := 3320) d_W_law_1788 rfl ?_
      exact kr_sub [2, 3, 4, 5, 6] rfl (s_W_law_B3320 hk23 h)
  · replace h := kr_in_ c h
    refine r_iconst (v := (0 : Int32)) (by decide) d_W_law_1769 ?_
    cases h
    exact r_zret rfl rfl d_W_law_1770
set_option maxRecDepth 20000 in
set_option maxHeartbeats 4000000 in
theorem s_W_law_B1791 {X : Nat → Int32} {L : Nat} {k23 : AS → Option Nat → Option Nat → Option Nat → Int32 → Option (Int32 × AS)} (hk23 : ∀ {S : AS} {x1 : Option Nat} {x2 : Option Nat} {x3 : Option Nat} {x4 : Int32} {r : (Int32 × AS)}, k23 S x1 x2 x3 x4 = some r → kr_AW (m_W_law X L) 15 23 [(0, va_rf (some 2)), (1, va_rf x1), (2, va_rf x2), (3, va_rf x3), (4, .int x4)] [] S (kr_eI r)) {S : AS} {x1 : Option Nat} {x2 : Option Nat} {x3 : Option Nat} {x4 : Int32} {r : (Int32 × AS)} (h : f_W_law_B1791 X L k23 S x1 x2 x3 x4 = some r) : kr_AW (m_W_law X L) 15 1791 [(0, va_rf (some 2)), (1, va_rf x1), (2, va_rf x2), (3, va_rf x3), (4, .int x4)] [] S (kr_eI r) := by
  unfold f_W_law_B1791 at h
  refine r_aload_n (i := 1) (x := x1) 1 rfl d_W_law_1791 ?_
  refine r_aload_n (i := 0) (x := (some 2)) 0 rfl d_W_law_1792 ?_
  refine r_iload (i := 4) (x := x4) 4 rfl d_W_law_1793 ?_
  refine r_iconst (v := (1 : Int32)) (by decide) d_W_law_1795 ?_
  refine r_iadd d_W_law_1796 ?_
  have h2 := kr_ob h
  clear h
  obtain ⟨v290, ev290, h⟩ := h2
  refine r_sload rfl ev290 d_W_law_1797 ?_
  refine r_aload_n (i := 0) (x := (some 2)) 0 rfl d_W_law_1798 ?_
  refine r_iload (i := 4) (x := x4) 4 rfl d_W_law_1799 ?_
  refine r_iconst (v := (2 : Int32)) (by decide) d_W_law_1801 ?_
  refine r_iadd d_W_law_1802 ?_
  have h2 := kr_ob h
  clear h
  obtain ⟨v291, ev291, h⟩ := h2
  refine r_sload rfl ev291 d_W_law_1803 ?_
  refine r_aload_n (i := 3) (x := x3) 3 rfl d_W_law_1804 ?_
  have h2 := kr_ob2 h
  clear h
  obtain ⟨v293, S292, eS292, h⟩ := h2
  refine r_callSX (M1 := m_W_withdraw) (As := [va_rf x1, .int v290, .int v291, va_rf x3]) (s_W_withdraw eS292) mok_W_withdraw (by decide) w1057 w1058 (by decide) (kr_c8 kr_c0) d_W_law_1805 (kr_k1 ?_) kr_kn
  refine r_istore (i := 5) (lv' := [(5, .int v293), (0, va_rf (some 2)), (1, va_rf x1), (2, va_rf x2), (3, va_rf x3), (4, .int x4)]) (by show (5 : Nat) < 7; decide) rfl d_W_law_1808 ?_
  refine r_aload_n (i := 2) (x := x2) 3 rfl d_W_law_1810 ?_
  refine r_aload_n (i := 0) (x := (some 2)) 1 rfl d_W_law_1811 ?_
  refine r_iload (i := 4) (x := x4) 5 rfl d_W_law_1812 ?_
  refine r_iconst (v := (1 : Int32)) (by decide) d_W_law_1814 ?_
  refine r_iadd d_W_law_1815 ?_
  have h2 := kr_ob h
  clear h
  obtain ⟨v294, ev294, h⟩ := h2
  refine r_sload rfl ev294 d_W_law_1816 ?_
  refine r_aload_n (i := 0) (x := (some 2)) 1 rfl d_W_law_1817 ?_
  refine r_iload (i := 4) (x := x4) 5 rfl d_W_law_1818 ?_
  refine r_iconst (v := (2 : Int32)) (by decide) d_W_law_1820 ?_
  refine r_iadd d_W_law_1821 ?_
  have h2 := kr_ob h
  clear h
  obtain ⟨v295, ev295, h⟩ := h2
  refine r_sload rfl ev295 d_W_law_1822 ?_
  have h2 := kr_ob h
  clear h
  obtain ⟨⟨⟩, eu296, h⟩ := h2
  have h2 := kr_ob2 h
  clear h
  obtain ⟨v298, S297, eS297, h⟩ := h2
  refine r_callV (M1 := m_M_withdraw) (κ := 23) (As := [.int v294, .int v295]) eu296 (s_M_withdraw eS297) mok_M_withdraw rfl (by decide) rfl w1922 w1923 w1924 (by decide) (kr_c8 kr_c0) d_W_law_1823 (kr_k1 ?_) kr_kn
  refine r_istore (i := 6) (lv' := [(6, .int v298), (5, .int v293), (0, va_rf (some 2)), (1, va_rf x1), (2, va_rf x2), (3, va_rf x3), (4, .int x4)]) (by show (6 : Nat) < 7; decide) rfl d_W_law_1826 ?_
  refine r_aload_n (i := 2) (x := x2) 4 rfl d_W_law_1828 ?_
  have h2 := kr_ob h
  clear h
  obtain ⟨⟨⟩, eu299, h⟩ := h2
  have h2 := kr_ob2 h
  clear h
  obtain ⟨v301, S300, eS300, h⟩ := h2
  refine r_callV (M1 := m_M_thrown) (κ := 23) (As := []) eu299 (s_M_thrown eS300) mok_M_thrown rfl (by decide) rfl w1688 w1689 w1690 (by decide) (kr_c8 kr_c0) d_W_law_1829 (kr_k1 ?_) kr_kn
  refine r_iload (i := 5) (x := v293) 1 rfl d_W_law_1832 ?_
  refine r_icmp_eq (tgt := 1839) d_W_law_1834 rfl (fun c => ?_) (fun c => ?_)
  · replace h := kr_ip c h
    refine r_iload (i := 5) (x := v293) 1 rfl d_W_law_1839 ?_
    refine r_if_ne (tgt := 1856) d_W_law_1841 rfl (fun c => ?_) (fun c => ?_)
    · replace h := kr_ip c h
      refine r_aload_n (i := 3) (x := x3) 5 rfl d_W_law_1844 ?_
      refine r_iconst (v := (0 : Int32)) (by decide) d_W_law_1845 ?_
      have h2 := kr_ob h
      clear h
      obtain ⟨v302, ev302, h⟩ := h2
      refine r_laload ev302 d_W_law_1846 ?_
      refine r_iload (i := 6) (x := v298) 0 rfl d_W_law_1847 ?_
      refine r_i2l d_W_law_1849 ?_
      refine r_lcmp d_W_law_1850 ?_
      refine r_if_eq (tgt := 1856) d_W_law_1851 rfl (fun c => ?_) (fun c => ?_)
      · replace h := kr_ip c h
        refine r_goto (tgt := 3320) d_W_law_1856 rfl ?_
        exact kr_sub [2, 3, 4, 5, 6] rfl (s_W_law_B3320 hk23 h)
      · replace h := kr_in_ c h
        refine r_iconst (v := (0 : Int32)) (by decide) d_W_law_1854 ?_
        cases h
        exact r_zret rfl rfl d_W_law_1855
    · replace h := kr_in_ c h
      refine r_goto (tgt := 3320) d_W_law_1856 rfl ?_
      exact kr_sub [2, 3, 4, 5, 6] rfl (s_W_law_B3320 hk23 h)
  · replace h := kr_in_ c h
    refine r_iconst (v := (0 : Int32)) (by decide) d_W_law_1837 ?_
    cases h
    exact r_zret rfl rfl d_W_law_1838
set_option maxRecDepth 20000 in
set_option maxHeartbeats 4000000 in
theorem s_W_law_B1859 {X : Nat → Int32} {L : Nat} {k23 : AS → Option Nat → Option Nat → Option Nat → Int32 → Option (Int32 × AS)} (hk23 : ∀ {S : AS} {x1 : Option Nat} {x2 : Option Nat} {x3 : Option Nat} {x4 : Int32} {r : (Int32 × AS)}, k23 S x1 x2 x3 x4 = some r → kr_AW (m_W_law X L) 15 23 [(0, va_rf (some 2)), (1, va_rf x1), (2, va_rf x2), (3, va_rf x3), (4, .int x4)] [] S (kr_eI r)) {S : AS} {x1 : Option Nat} {x2 : Option Nat} {x3 : Option Nat} {x4 : Int32} {r : (Int32 × AS)} (h : f_W_law_B1859 X L k23 S x1 x2 x3 x4 = some r) : kr_AW (m_W_law X L) 15 1859 [(0, va_rf (some 2)), (1, va_rf x1), (2, va_rf x2), (3, va_rf x3), (4, .int x4)] [] S (kr_eI r) := by
  unfold f_W_law_B1859 at h
  refine r_aload_n (i := 1) (x := x1) 1 rfl d_W_law_1859 ?_
  refine r_aload_n (i := 0) (x := (some 2)) 0 rfl d_W_law_1860 ?_
  refine r_iload (i := 4) (x := x4) 4 rfl d_W_law_1861 ?_
  refine r_iconst (v := (1 : Int32)) (by decide) d_W_law_1863 ?_
  refine r_iadd d_W_law_1864 ?_
  have h2 := kr_ob h
  clear h
  obtain ⟨v303, ev303, h⟩ := h2
  refine r_sload rfl ev303 d_W_law_1865 ?_
  refine r_aload_n (i := 0) (x := (some 2)) 0 rfl d_W_law_1866 ?_
  refine r_iload (i := 4) (x := x4) 4 rfl d_W_law_1867 ?_
  refine r_iconst (v := (2 : Int32)) (by decide) d_W_law_1869 ?_
  refine r_iadd d_W_law_1870 ?_
  have h2 := kr_ob h
  clear h
  obtain ⟨v304, ev304, h⟩ := h2
  refine r_sload rfl ev304 d_W_law_1871 ?_
  refine r_aload_n (i := 3) (x := x3) 3 rfl d_W_law_1872 ?_
  have h2 := kr_ob2 h
  clear h
  obtain ⟨v306, S305, eS305, h⟩ := h2
  refine r_callSX (M1 := m_W_need) (As := [va_rf x1, .int v303, .int v304, va_rf x3]) (s_W_need eS305) mok_W_need (by decide) w1064 w1065 (by decide) (kr_c8 kr_c0) d_W_law_1873 (kr_k1 ?_) kr_kn
  refine r_istore (i := 5) (lv' := [(5, .int v306), (0, va_rf (some 2)), (1, va_rf x1), (2, va_rf x2), (3, va_rf x3), (4, .int x4)]) (by show (5 : Nat) < 7; decide) rfl d_W_law_1876 ?_
  refine r_aload_n (i := 2) (x := x2) 3 rfl d_W_law_1878 ?_
  refine r_aload_n (i := 0) (x := (some 2)) 1 rfl d_W_law_1879 ?_
  refine r_iload (i := 4) (x := x4) 5 rfl d_W_law_1880 ?_
  refine r_iconst (v := (1 : Int32)) (by decide) d_W_law_1882 ?_
  refine r_iadd d_W_law_1883 ?_
  have h2 := kr_ob h
  clear h
  obtain ⟨v307, ev307, h⟩ := h2
  refine r_sload rfl ev307 d_W_law_1884 ?_
  refine r_aload_n (i := 0) (x := (some 2)) 1 rfl d_W_law_1885 ?_
  refine r_iload (i := 4) (x := x4) 5 rfl d_W_law_1886 ?_
  refine r_iconst (v := (2 : Int32)) (by decide) d_W_law_1888 ?_
  refine r_iadd d_W_law_1889 ?_
  have h2 := kr_ob h
  clear h
  obtain ⟨v308, ev308, h⟩ := h2
  refine r_sload rfl ev308 d_W_law_1890 ?_
  have h2 := kr_ob h
  clear h
  obtain ⟨⟨⟩, eu309, h⟩ := h2
  have h2 := kr_ob2 h
  clear h
  obtain ⟨v311, S310, eS310, h⟩ := h2
  refine r_callV (M1 := m_M_need) (κ := 23) (As := [.int v307, .int v308]) eu309 (s_M_need eS310) mok_M_need rfl (by decide) rfl w1926 w1927 w1928 (by decide) (kr_c8 kr_c0) d_W_law_1891 (kr_k1 ?_) kr_kn
  refine r_istore (i := 6) (lv' := [(6, .int v311), (5, .int v306), (0, va_rf (some 2)), (1, va_rf x1), (2, va_rf x2), (3, va_rf x3), (4, .int x4)]) (by show (6 : Nat) < 7; decide) rfl d_W_law_1894 ?_
  refine r_aload_n (i := 2) (x := x2) 4 rfl d_W_law_1896 ?_
  have h2 := kr_ob h
  clear h
  obtain ⟨⟨⟩, eu312, h⟩ := h2
  have h2 := kr_ob2 h
  clear h
  obtain ⟨v314, S313, eS313, h⟩ := h2
  refine r_callV (M1 := m_M_thrown) (κ := 23) (As := []) eu312 (s_M_thrown eS313) mok_M_thrown rfl (by decide) rfl w1688 w1689 w1690 (by decide) (kr_c8 kr_c0) d_W_law_1897 (kr_k1 ?_) kr_kn
  refine r_iload (i := 5) (x := v306) 1 rfl d_W_law_1900 ?_
  refine r_icmp_eq (tgt := 1907) d_W_law_1902 rfl (fun c => ?_) (fun c => ?_)
  · replace h := kr_ip c h
    refine r_iload (i := 5) (x := v306) 1 rfl d_W_law_1907 ?_
    refine r_if_ne (tgt := 1924) d_W_law_1909 rfl (fun c => ?_) (fun c => ?_)
    · replace h := kr_ip c h
      refine r_aload_n (i := 3) (x := x3) 5 rfl d_W_law_1912 ?_
      refine r_iconst (v := (0 : Int32)) (by decide) d_W_law_1913 ?_
      have h2 := kr_ob h
      clear h
      obtain ⟨v315, ev315, h⟩ := h2
      refine r_laload ev315 d_W_law_1914 ?_
      refine r_iload (i := 6) (x := v311) 0 rfl d_W_law_1915 ?_
      refine r_i2l d_W_law_1917 ?_
      refine r_lcmp d_W_law_1918 ?_
      refine r_if_eq (tgt := 1924) d_W_law_1919 rfl (fun c => ?_) (fun c => ?_)
      · replace h := kr_ip c h
        refine r_goto (tgt := 3320) d_W_law_1924 rfl ?_
        exact kr_sub [2, 3, 4, 5, 6] rfl (s_W_law_B3320 hk23 h)
      · replace h := kr_in_ c h
        refine r_iconst (v := (0 : Int32)) (by decide) d_W_law_1922 ?_
        cases h
        exact r_zret rfl rfl d_W_law_1923
    · replace h := kr_in_ c h
      refine r_goto (tgt := 3320) d_W_law_1924 rfl ?_
      exact kr_sub [2, 3, 4, 5, 6] rfl (s_W_law_B3320 hk23 h)
  · replace h := kr_in_ c h
    refine r_iconst (v := (0 : Int32)) (by decide) d_W_law_1905 ?_
    cases h
    exact r_zret rfl rfl d_W_law_1906
set_option maxRecDepth 20000 in
set_option maxHeartbeats 4000000 in
theorem s_W_law_B1927 {X : Nat → Int32} {L : Nat} {k23 : AS → Option Nat → Option Nat → Option Nat → Int32 → Option (Int32 × AS)} (hk23 : ∀ {S : AS} {x1 : Option Nat} {x2 : Option Nat} {x3 : Option Nat} {x4 : Int32} {r : (Int32 × AS)}, k23 S x1 x2 x3 x4 = some r → kr_AW (m_W_law X L) 15 23 [(0, va_rf (some 2)), (1, va_rf x1), (2, va_rf x2), (3, va_rf x3), (4, .int x4)] [] S (kr_eI r)) {S : AS} {x1 : Option Nat} {x2 : Option Nat} {x3 : Option Nat} {x4 : Int32} {r : (Int32 × AS)} (h : f_W_law_B1927 X L k23 S x1 x2 x3 x4 = some r) : kr_AW (m_W_law X L) 15 1927 [(0, va_rf (some 2)), (1, va_rf x1), (2, va_rf x2), (3, va_rf x3), (4, .int x4)] [] S (kr_eI r) := by
  unfold f_W_law_B1927 at h
  refine r_aload_n (i := 1) (x := x1) 1 rfl d_W_law_1927 ?_
  refine r_aload_n (i := 0) (x := (some 2)) 0 rfl d_W_law_1928 ?_
  refine r_iload (i := 4) (x := x4) 4 rfl d_W_law_1929 ?_
  refine r_iconst (v := (1 : Int32)) (by decide) d_W_law_1931 ?_
  refine r_iadd d_W_law_1932 ?_
  have h2 := kr_ob h
  clear h
  obtain ⟨v316, ev316, h⟩ := h2
  refine r_sload rfl ev316 d_W_law_1933 ?_
  refine r_aload_n (i := 0) (x := (some 2)) 0 rfl d_W_law_1934 ?_
  refine r_iload (i := 4) (x := x4) 4 rfl d_W_law_1935 ?_
  refine r_iconst (v := (2 : Int32)) (by decide) d_W_law_1937 ?_
  refine r_iadd d_W_law_1938 ?_
  have h2 := kr_ob h
  clear h
  obtain ⟨v317, ev317, h⟩ := h2
  refine r_sload rfl ev317 d_W_law_1939 ?_
  refine r_aload_n (i := 0) (x := (some 2)) 0 rfl d_W_law_1940 ?_
  refine r_iload (i := 4) (x := x4) 4 rfl d_W_law_1941 ?_
  refine r_iconst (v := (3 : Int32)) (by decide) d_W_law_1943 ?_
  refine r_iadd d_W_law_1944 ?_
  have h2 := kr_ob h
  clear h
  obtain ⟨v318, ev318, h⟩ := h2
  refine r_sload rfl ev318 d_W_law_1945 ?_
  refine r_aload_n (i := 0) (x := (some 2)) 0 rfl d_W_law_1946 ?_
  refine r_iload (i := 4) (x := x4) 4 rfl d_W_law_1947 ?_
  refine r_iconst (v := (4 : Int32)) (by decide) d_W_law_1949 ?_
  refine r_iadd d_W_law_1950 ?_
  have h2 := kr_ob h
  clear h
  obtain ⟨v319, ev319, h⟩ := h2
  refine r_sload rfl ev319 d_W_law_1951 ?_
  refine r_aload_n (i := 3) (x := x3) 3 rfl d_W_law_1952 ?_
  have h2 := kr_ob2 h
  clear h
  obtain ⟨v321, S320, eS320, h⟩ := h2
  refine r_callSX (M1 := m_W_authorize) (As := [va_rf x1, .int v316, .int v317, .int v318, .int v319, va_rf x3]) (s_W_authorize eS320) mok_W_authorize (by decide) w1071 w1072 (by decide) (kr_c8 kr_c0) d_W_law_1953 (kr_k1 ?_) kr_kn
  refine r_istore (i := 5) (lv' := [(5, .int v321), (0, va_rf (some 2)), (1, va_rf x1), (2, va_rf x2), (3, va_rf x3), (4, .int x4)]) (by show (5 : Nat) < 7; decide) rfl d_W_law_1956 ?_
  refine r_aload_n (i := 2) (x := x2) 3 rfl d_W_law_1958 ?_
  refine r_aload_n (i := 0) (x := (some 2)) 1 rfl d_W_law_1959 ?_
  refine r_iload (i := 4) (x := x4) 5 rfl d_W_law_1960 ?_
  refine r_iconst (v := (1 : Int32)) (by decide) d_W_law_1962 ?_
  refine r_iadd d_W_law_1963 ?_
  have h2 := kr_ob h
  clear h
  obtain ⟨v322, ev322, h⟩ := h2
  refine r_sload rfl ev322 d_W_law_1964 ?_
  refine r_aload_n (i := 0) (x := (some 2)) 1 rfl d_W_law_1965 ?_
  refine r_iload (i := 4) (x := x4) 5 rfl d_W_law_1966 ?_
  refine r_iconst (v := (2 : Int32)) (by decide) d_W_law_1968 ?_
  refine r_iadd d_W_law_1969 ?_
  have h2 := kr_ob h
  clear h
  obtain ⟨v323, ev323, h⟩ := h2
  refine r_sload rfl ev323 d_W_law_1970 ?_
  refine r_aload_n (i := 0) (x := (some 2)) 1 rfl d_W_law_1971 ?_
  refine r_iload (i := 4) (x := x4) 5 rfl d_W_law_1972 ?_
  refine r_iconst (v := (3 : Int32)) (by decide) d_W_law_1974 ?_
  refine r_iadd d_W_law_1975 ?_
  have h2 := kr_ob h
  clear h
  obtain ⟨v324, ev324, h⟩ := h2
  refine r_sload rfl ev324 d_W_law_1976 ?_
  refine r_aload_n (i := 0) (x := (some 2)) 1 rfl d_W_law_1977 ?_
  refine r_iload (i := 4) (x := x4) 5 rfl d_W_law_1978 ?_
  refine r_iconst (v := (4 : Int32)) (by decide) d_W_law_1980 ?_
  refine r_iadd d_W_law_1981 ?_
  have h2 := kr_ob h
  clear h
  obtain ⟨v325, ev325, h⟩ := h2
  refine r_sload rfl ev325 d_W_law_1982 ?_
  have h2 := kr_ob h
  clear h
  obtain ⟨⟨⟩, eu326, h⟩ := h2
  have h2 := kr_ob2 h
  clear h
  obtain ⟨v328, S327, eS327, h⟩ := h2
  refine r_callV (M1 := m_M_authorize) (κ := 23) (As := [.int v322, .int v323, .int v324, .int v325]) eu326 (s_M_authorize eS327) mok_M_authorize rfl (by decide) rfl w1930 w1931 w1932 (by decide) (kr_c8 kr_c0) d_W_law_1983 (kr_k1 ?_) kr_kn
  refine r_istore (i := 6) (lv' := [(6, .int v328), (5, .int v321), (0, va_rf (some 2)), (1, va_rf x1), (2, va_rf x2), (3, va_rf x3), (4, .int x4)]) (by show (6 : Nat) < 7; decide) rfl d_W_law_1986 ?_
  refine r_aload_n (i := 2) (x := x2) 4 rfl d_W_law_1988 ?_
  have h2 := kr_ob h
  clear h
  obtain ⟨⟨⟩, eu329, h⟩ := h2
  have h2 := kr_ob2 h
  clear h
  obtain ⟨v331, S330, eS330, h⟩ := h2
  refine r_callV (M1 := m_M_thrown) (κ := 23) (As := []) eu329 (s_M_thrown eS330) mok_M_thrown rfl (by decide) rfl w1688 w1689 w1690 (by decide) (kr_c8 kr_c0) d_W_law_1989 (kr_k1 ?_) kr_kn
  refine r_iload (i := 5) (x := v321) 1 rfl d_W_law_1992 ?_
  refine r_icmp_eq (tgt := 1999) d_W_law_1994 rfl (fun c => ?_) (fun c => ?_)
  · replace h := kr_ip c h
    refine r_iload (i := 5) (x := v321) 1 rfl d_W_law_1999 ?_
    refine r_if_ne (tgt := 2016) d_W_law_2001 rfl (fun c => ?_) (fun c => ?_)
    · replace h := kr_ip c h
      refine r_aload_n (i := 3) (x := x3) 5 rfl d_W_law_2004 ?_
      refine r_iconst (v := (0 : Int32)) (by decide) d_W_law_2005 ?_
      have h2 := kr_ob h
      clear h
      obtain ⟨v332, ev332, h⟩ := h2
      refine r_laload ev332 d_W_law_2006 ?_
      refine r_iload (i := 6) (x := v328) 0 rfl d_W_law_2007 ?_
      refine r_i2l d_W_law_2009 ?_
      refine r_lcmp d_W_law_2010 ?_
      refine r_if_eq (tgt := 2016) d_W_law_2011 rfl (fun c => ?_) (fun c => ?_)
      · replace h := kr_ip c h
        refine r_goto (tgt := 3320) d_W_law_2016 rfl ?_
        exact kr_sub [2, 3, 4, 5, 6] rfl (s_W_law_B3320 hk23 h)
      · replace h := kr_in_ c h
        refine r_iconst (v := (0 : Int32)) (by decide) d_W_law_2014 ?_
        cases h
        exact r_zret rfl rfl d_W_law_2015
    · replace h := kr_in_ c h
      refine r_goto (tgt := 3320) d_W_law_2016 rfl ?_
      exact kr_sub [2, 3, 4, 5, 6] rfl (s_W_law_B3320 hk23 h)
  · replace h := kr_in_ c h
    refine r_iconst (v := (0 : Int32)) (by decide) d_W_law_1997 ?_
    cases h
    exact r_zret rfl rfl d_W_law_1998
set_option maxRecDepth 20000 in
set_option maxHeartbeats 4000000 in
theorem s_W_law_B2019 {X : Nat → Int32} {L : Nat} {k23 : AS → Option Nat → Option Nat → Option Nat → Int32 → Option (Int32 × AS)} (hk23 : ∀ {S : AS} {x1 : Option Nat} {x2 : Option Nat} {x3 : Option Nat} {x4 : Int32} {r : (Int32 × AS)}, k23 S x1 x2 x3 x4 = some r → kr_AW (m_W_law X L) 15 23 [(0, va_rf (some 2)), (1, va_rf x1), (2, va_rf x2), (3, va_rf x3), (4, .int x4)] [] S (kr_eI r)) {S : AS} {x1 : Option Nat} {x2 : Option Nat} {x3 : Option Nat} {x4 : Int32} {r : (Int32 × AS)} (h : f_W_law_B2019 X L k23 S x1 x2 x3 x4 = some r) : kr_AW (m_W_law X L) 15 2019 [(0, va_rf (some 2)), (1, va_rf x1), (2, va_rf x2), (3, va_rf x3), (4, .int x4)] [] S (kr_eI r) := by
  unfold f_W_law_B2019 at h
  refine r_aload_n (i := 1) (x := x1) 1 rfl d_W_law_2019 ?_
  refine r_aload_n (i := 0) (x := (some 2)) 0 rfl d_W_law_2020 ?_
  refine r_iload (i := 4) (x := x4) 4 rfl d_W_law_2021 ?_
  refine r_iconst (v := (1 : Int32)) (by decide) d_W_law_2023 ?_
  refine r_iadd d_W_law_2024 ?_
  have h2 := kr_ob h
  clear h
  obtain ⟨v333, ev333, h⟩ := h2
  refine r_sload rfl ev333 d_W_law_2025 ?_
  refine r_aload_n (i := 3) (x := x3) 3 rfl d_W_law_2026 ?_
  have h2 := kr_ob2 h
  clear h
  obtain ⟨v335, S334, eS334, h⟩ := h2
  refine r_callSX (M1 := m_W_redeem) (As := [va_rf x1, .int v333, va_rf x3]) (s_W_redeem eS334) mok_W_redeem (by decide) w1133 w1134 (by decide) (kr_c8 kr_c0) d_W_law_2027 (kr_k1 ?_) kr_kn
  refine r_istore (i := 5) (lv' := [(5, .int v335), (0, va_rf (some 2)), (1, va_rf x1), (2, va_rf x2), (3, va_rf x3), (4, .int x4)]) (by show (5 : Nat) < 7; decide) rfl d_W_law_2030 ?_
  refine r_aload_n (i := 2) (x := x2) 3 rfl d_W_law_2032 ?_
  refine r_aload_n (i := 0) (x := (some 2)) 1 rfl d_W_law_2033 ?_
  refine r_iload (i := 4) (x := x4) 5 rfl d_W_law_2034 ?_
  refine r_iconst (v := (1 : Int32)) (by decide) d_W_law_2036 ?_
  refine r_iadd d_W_law_2037 ?_
  have h2 := kr_ob h
  clear h
  obtain ⟨v336, ev336, h⟩ := h2
  refine r_sload rfl ev336 d_W_law_2038 ?_
  have h2 := kr_ob h
  clear h
  obtain ⟨⟨⟩, eu337, h⟩ := h2
  have h2 := kr_ob2 h
  clear h
  obtain ⟨v339, S338, eS338, h⟩ := h2
  refine r_callV (M1 := m_M_redeem) (κ := 23) (As := [.int v336]) eu337 (s_M_redeem eS338) mok_M_redeem rfl (by decide) rfl w1934 w1935 w1936 (by decide) (kr_c8 kr_c0) d_W_law_2039 (kr_k1 ?_) kr_kn
  refine r_istore (i := 6) (lv' := [(6, .int v339), (5, .int v335), (0, va_rf (some 2)), (1, va_rf x1), (2, va_rf x2), (3, va_rf x3), (4, .int x4)]) (by show (6 : Nat) < 7; decide) rfl d_W_law_2042 ?_
  refine r_aload_n (i := 2) (x := x2) 4 rfl d_W_law_2044 ?_
  have h2 := kr_ob h
  clear h
  obtain ⟨⟨⟩, eu340, h⟩ := h2
  have h2 := kr_ob2 h
  clear h
  obtain ⟨v342, S341, eS341, h⟩ := h2
  refine r_callV (M1 := m_M_thrown) (κ := 23) (As := []) eu340 (s_M_thrown eS341) mok_M_thrown rfl (by decide) rfl w1688 w1689 w1690 (by decide) (kr_c8 kr_c0) d_W_law_2045 (kr_k1 ?_) kr_kn
  refine r_iload (i := 5) (x := v335) 1 rfl d_W_law_2048 ?_
  refine r_icmp_eq (tgt := 2055) d_W_law_2050 rfl (fun c => ?_) (fun c => ?_)
  · replace h := kr_ip c h
    refine r_iload (i := 5) (x := v335) 1 rfl d_W_law_2055 ?_
    refine r_if_ne (tgt := 2072) d_W_law_2057 rfl (fun c => ?_) (fun c => ?_)
    · replace h := kr_ip c h
      refine r_aload_n (i := 3) (x := x3) 5 rfl d_W_law_2060 ?_
      refine r_iconst (v := (0 : Int32)) (by decide) d_W_law_2061 ?_
      have h2 := kr_ob h
      clear h
      obtain ⟨v343, ev343, h⟩ := h2
      refine r_laload ev343 d_W_law_2062 ?_
      refine r_iload (i := 6) (x := v339) 0 rfl d_W_law_2063 ?_
      refine r_i2l d_W_law_2065 ?_
      refine r_lcmp d_W_law_2066 ?_
      refine r_if_eq (tgt := 2072) d_W_law_2067 rfl (fun c => ?_) (fun c => ?_)
      · replace h := kr_ip c h
        refine r_goto (tgt := 3320) d_W_law_2072 rfl ?_
        exact kr_sub [2, 3, 4, 5, 6] rfl (s_W_law_B3320 hk23 h)
      · replace h := kr_in_ c h
        refine r_iconst (v := (0 : Int32)) (by decide) d_W_law_2070 ?_
        cases h
        exact r_zret rfl rfl d_W_law_2071
    · replace h := kr_in_ c h
      refine r_goto (tgt := 3320) d_W_law_2072 rfl ?_
      exact kr_sub [2, 3, 4, 5, 6] rfl (s_W_law_B3320 hk23 h)
  · replace h := kr_in_ c h
    refine r_iconst (v := (0 : Int32)) (by decide) d_W_law_2053 ?_
    cases h
    exact r_zret rfl rfl d_W_law_2054
set_option maxRecDepth 20000 in
set_option maxHeartbeats 4000000 in
theorem s_W_law_B2075 {X : Nat → Int32} {L : Nat} {k23 : AS → Option Nat → Option Nat → Option Nat → Int32 → Option (Int32 × AS)} (hk23 : ∀ {S : AS} {x1 : Option Nat} {x2 : Option Nat} {x3 : Option Nat} {x4 : Int32} {r : (Int32 × AS)}, k23 S x1 x2 x3 x4 = some r → kr_AW (m_W_law X L) 15 23 [(0, va_rf (some 2)), (1, va_rf x1), (2, va_rf x2), (3, va_rf x3), (4, .int x4)] [] S (kr_eI r)) {S : AS} {x1 : Option Nat} {x2 : Option Nat} {x3 : Option Nat} {x4 : Int32} {r : (Int32 × AS)} (h : f_W_law_B2075 X L k23 S x1 x2 x3 x4 = some r) : kr_AW (m_W_law X L) 15 2075 [(0, va_rf (some 2)), (1, va_rf x1), (2, va_rf x2), (3, va_rf x3), (4, .int x4)] [] S (kr_eI r) := by
  unfold f_W_law_B2075 at h
  refine r_aload_n (i := 1) (x := x1) 1 rfl d_W_law_2075 ?_
  refine r_aload_n (i := 0) (x := (some 2)) 0 rfl d_W_law_2076 ?_
  refine r_iload (i := 4) (x := x4) 4 rfl d_W_law_2077 ?_
  refine r_iconst (v := (1 : Int32)) (by decide) d_W_law_2079 ?_
  refine r_iadd d_W_law_2080 ?_
  have h2 := kr_ob h
  clear h
  obtain ⟨v344, ev344, h⟩ := h2
  refine r_sload rfl ev344 d_W_law_2081 ?_
  refine r_aload_n (i := 0) (x := (some 2)) 0 rfl d_W_law_2082 ?_
  refine r_iload (i := 4) (x := x4) 4 rfl d_W_law_2083 ?_
  refine r_iconst (v := (2 : Int32)) (by decide) d_W_law_2085 ?_
  refine r_iadd d_W_law_2086 ?_
  have h2 := kr_ob h
  clear h
  obtain ⟨v345, ev345, h⟩ := h2
  refine r_sload rfl ev345 d_W_law_2087 ?_
  refine r_aload_n (i := 3) (x := x3) 3 rfl d_W_law_2088 ?_
  have h2 := kr_ob2 h
  clear h
  obtain ⟨v347, S346, eS346, h⟩ := h2
  refine r_callSX (M1 := m_W_refresh) (As := [va_rf x1, .int v344, .int v345, va_rf x3]) (s_W_refresh eS346) mok_W_refresh (by decide) w1187 w1188 (by decide) (kr_c8 kr_c0) d_W_law_2089 (kr_k1 ?_) kr_kn
  refine r_istore (i := 5) (lv' := [(5, .int v347), (0, va_rf (some 2)), (1, va_rf x1), (2, va_rf x2), (3, va_rf x3), (4, .int x4)]) (by show (5 : Nat) < 7; decide) rfl d_W_law_2092 ?_
  refine r_aload_n (i := 2) (x := x2) 3 rfl d_W_law_2094 ?_
  refine r_aload_n (i := 0) (x := (some 2)) 1 rfl d_W_law_2095 ?_
  refine r_iload (i := 4) (x := x4) 5 rfl d_W_law_2096 ?_
  refine r_iconst (v := (1 : Int32)) (by decide) d_W_law_2098 ?_
  refine r_iadd d_W_law_2099 ?_
  have h2 := kr_ob h
  clear h
  obtain ⟨v348, ev348, h⟩ := h2
  refine r_sload rfl ev348 d_W_law_2100 ?_
  refine r_aload_n (i := 0) (x := (some 2)) 1 rfl d_W_law_2101 ?_
  refine r_iload (i := 4) (x := x4) 5 rfl d_W_law_2102 ?_
  refine r_iconst (v := (2 : Int32)) (by decide) d_W_law_2104 ?_
  refine r_iadd d_W_law_2105 ?_
  have h2 := kr_ob h
  clear h
  obtain ⟨v349, ev349, h⟩ := h2
  refine r_sload rfl ev349 d_W_law_2106 ?_
  have h2 := kr_ob h
  clear h
  obtain ⟨⟨⟩, eu350, h⟩ := h2
  have h2 := kr_ob2 h
  clear h
  obtain ⟨v352, S351, eS351, h⟩ := h2
  refine r_callV (M1 := m_M_refresh) (κ := 23) (As := [.int v348, .int v349]) eu350 (s_M_refresh eS351) mok_M_refresh rfl (by decide) rfl w1946 w1947 w1948 (by decide) (kr_c8 kr_c0) d_W_law_2107 (kr_k1 ?_) kr_kn
  refine r_istore (i := 6) (lv' := [(6, .int v352), (5, .int v347), (0, va_rf (some 2)), (1, va_rf x1), (2, va_rf x2), (3, va_rf x3), (4, .int x4)]) (by show (6 : Nat) < 7; decide) rfl d_W_law_2110 ?_
  refine r_aload_n (i := 2) (x := x2) 4 rfl d_W_law_2112 ?_
  have h2 := kr_ob h
  clear h
  obtain ⟨⟨⟩, eu353, h⟩ := h2
  have h2 := kr_ob2 h
  clear h
  obtain ⟨v355, S354, eS354, h⟩ := h2
  refine r_callV (M1 := m_M_thrown) (κ := 23) (As := []) eu353 (s_M_thrown eS354) mok_M_thrown rfl (by decide) rfl w1688 w1689 w1690 (by decide) (kr_c8 kr_c0) d_W_law_2113 (kr_k1 ?_) kr_kn
  refine r_iload (i := 5) (x := v347) 1 rfl d_W_law_2116 ?_
  refine r_icmp_eq (tgt := 2123) d_W_law_2118 rfl (fun c => ?_) (fun c => ?_)
  · replace h := kr_ip c h
    refine r_iload (i := 5) (x := v347) 1 rfl d_W_law_2123 ?_
    refine r_if_ne (tgt := 2140) d_W_law_2125 rfl (fun c => ?_) (fun c => ?_)
    · replace h := kr_ip c h
      refine r_aload_n (i := 3) (x := x3) 5 rfl d_W_law_2128 ?_
      refine r_iconst (v := (0 : Int32)) (by decide) d_W_law_2129 ?_
      have h2 := kr_ob h
      clear h
      obtain ⟨v356, ev356, h⟩ := h2
      refine r_laload ev356 d_W_law_2130 ?_
      refine r_iload (i := 6) (x := v352) 0 rfl d_W_law_2131 ?_
      refine r_i2l d_W_law_2133 ?_
      refine r_lcmp d_W_law_2134 ?_
      refine r_if_eq (tgt := 2140) d_W_law_2135 rfl (fun c => ?_) (fun c => ?_)
      · replace h := kr_ip c h
        refine r_goto (tgt := 3320) d_W_law_2140 rfl ?_
        exact kr_sub [2, 3, 4, 5, 6] rfl (s_W_law_B3320 hk23 h)
      · replace h := kr_in_ c h
        refine r_iconst (v := (0 : Int32)) (by decide) d_W_law_2138 ?_
        cases h
        exact r_zret rfl rfl d_W_law_2139
    · replace h := kr_in_ c h
      refine r_goto (tgt := 3320) d_W_law_2140 rfl ?_
      exact kr_sub [2, 3, 4, 5, 6] rfl (s_W_law_B3320 hk23 h)
  · replace h := kr_in_ c h
    refine r_iconst (v := (0 : Int32)) (by decide) d_W_law_2121 ?_
    cases h
    exact r_zret rfl rfl d_W_law_2122
set_option maxRecDepth 20000 in
set_option maxHeartbeats 4000000 in
theorem s_W_law_B2197 {X : Nat → Int32} {L : Nat} {k23 : AS → Option Nat → Option Nat → Option Nat → Int32 → Option (Int32 × AS)} (hk23 : ∀ {S : AS} {x1 : Option Nat} {x2 : Option Nat} {x3 : Option Nat} {x4 : Int32} {r : (Int32 × AS)}, k23 S x1 x2 x3 x4 = some r → kr_AW (m_W_law X L) 15 23 [(0, va_rf (some 2)), (1, va_rf x1), (2, va_rf x2), (3, va_rf x3), (4, .int x4)] [] S (kr_eI r)) {S : AS} {x1 : Option Nat} {x2 : Option Nat} {x3 : Option Nat} {x4 : Int32} {y0 : Int64} {y1 : Int64} {r : (Int32 × AS)} (h : f_W_law_B2197 X L k23 S x1 x2 x3 x4 y0 y1 = some r) : kr_AW (m_W_law X L) 15 2197 [(0, va_rf (some 2)), (1, va_rf x1), (2, va_rf x2), (3, va_rf x3), (4, .int x4)] [.long y1, .long y0] S (kr_eI r) := by
  unfold f_W_law_B2197 at h
  refine r_lcmp d_W_law_2197 ?_
  refine r_if_eq (tgt := 2203) d_W_law_2198 rfl (fun c => ?_) (fun c => ?_)
  · replace h := kr_ip c h
    refine r_goto (tgt := 3320) d_W_law_2203 rfl ?_
    exact kr_sub [0, 1, 2, 3, 4] rfl (s_W_law_B3320 hk23 h)
  · replace h := kr_in_ c h
    refine r_iconst (v := (0 : Int32)) (by decide) d_W_law_2201 ?_
    cases h
    exact r_zret rfl rfl d_W_law_2202
set_option maxRecDepth 20000 in
set_option maxHeartbeats 4000000 in
theorem s_W_law_B2143 {X : Nat → Int32} {L : Nat} {k23 : AS → Option Nat → Option Nat → Option Nat → Int32 → Option (Int32 × AS)} (hk23 : ∀ {S : AS} {x1 : Option Nat} {x2 : Option Nat} {x3 : Option Nat} {x4 : Int32} {r : (Int32 × AS)}, k23 S x1 x2 x3 x4 = some r → kr_AW (m_W_law X L) 15 23 [(0, va_rf (some 2)), (1, va_rf x1), (2, va_rf x2), (3, va_rf x3), (4, .int x4)] [] S (kr_eI r)) {S : AS} {x1 : Option Nat} {x2 : Option Nat} {x3 : Option Nat} {x4 : Int32} {r : (Int32 × AS)} (h : f_W_law_B2143 X L k23 S x1 x2 x3 x4 = some r) : kr_AW (m_W_law X L) 15 2143 [(0, va_rf (some 2)), (1, va_rf x1), (2, va_rf x2), (3, va_rf x3), (4, .int x4)] [] S (kr_eI r) := by
  unfold f_W_law_B2143 at h
  refine r_aload_n (i := 1) (x := x1) 1 rfl d_W_law_2143 ?_
  refine r_aload_n (i := 0) (x := (some 2)) 0 rfl d_W_law_2144 ?_
  refine r_iload (i := 4) (x := x4) 4 rfl d_W_law_2145 ?_
  refine r_iconst (v := (1 : Int32)) (by decide) d_W_law_2147 ?_
  refine r_iadd d_W_law_2148 ?_
  have h2 := kr_ob h
  clear h
  obtain ⟨v357, ev357, h⟩ := h2
  refine r_sload rfl ev357 d_W_law_2149 ?_
  refine r_aload_n (i := 3) (x := x3) 3 rfl d_W_law_2150 ?_
  have h2 := kr_ob2 h
  clear h
  obtain ⟨v359, S358, eS358, h⟩ := h2
  refine r_callSX (M1 := m_W_isGood) (As := [va_rf x1, .int v357, va_rf x3]) (s_W_isGood eS358) mok_W_isGood (by decide) w1202 w1203 (by decide) (kr_c8 kr_c0) d_W_law_2151 (kr_k1 ?_) kr_kn
  refine r_istore (i := 5) (lv' := [(5, .int v359), (0, va_rf (some 2)), (1, va_rf x1), (2, va_rf x2), (3, va_rf x3), (4, .int x4)]) (by show (5 : Nat) < 7; decide) rfl d_W_law_2154 ?_
  refine r_aload_n (i := 2) (x := x2) 3 rfl d_W_law_2156 ?_
  refine r_aload_n (i := 0) (x := (some 2)) 1 rfl d_W_law_2157 ?_
  refine r_iload (i := 4) (x := x4) 5 rfl d_W_law_2158 ?_
  refine r_iconst (v := (1 : Int32)) (by decide) d_W_law_2160 ?_
  refine r_iadd d_W_law_2161 ?_
  have h2 := kr_ob h
  clear h
  obtain ⟨v360, ev360, h⟩ := h2
  refine r_sload rfl ev360 d_W_law_2162 ?_
  have h2 := kr_ob h
  clear h
  obtain ⟨⟨⟩, eu361, h⟩ := h2
  have h2 := kr_ob2 h
  clear h
  obtain ⟨v363, S362, eS362, h⟩ := h2
  refine r_callV (M1 := m_M_isGood) (κ := 23) (As := [.int v360]) eu361 (s_M_isGood eS362) mok_M_isGood rfl (by decide) rfl w1954 w1955 w1956 (by decide) (kr_c8 kr_c0) d_W_law_2163 (kr_k1 ?_) kr_kn
  refine r_istore (i := 6) (lv' := [(6, .int v363), (5, .int v359), (0, va_rf (some 2)), (1, va_rf x1), (2, va_rf x2), (3, va_rf x3), (4, .int x4)]) (by show (6 : Nat) < 7; decide) rfl d_W_law_2166 ?_
  refine r_aload_n (i := 2) (x := x2) 4 rfl d_W_law_2168 ?_
  have h2 := kr_ob h
  clear h
  obtain ⟨⟨⟩, eu364, h⟩ := h2
  have h2 := kr_ob2 h
  clear h
  obtain ⟨v366, S365, eS365, h⟩ := h2
  refine r_callV (M1 := m_M_thrown) (κ := 23) (As := []) eu364 (s_M_thrown eS365) mok_M_thrown rfl (by decide) rfl w1688 w1689 w1690 (by decide) (kr_c8 kr_c0) d_W_law_2169 (kr_k1 ?_) kr_kn
  refine r_iload (i := 5) (x := v359) 1 rfl d_W_law_2172 ?_
  refine r_icmp_eq (tgt := 2179) d_W_law_2174 rfl (fun c => ?_) (fun c => ?_)
  · replace h := kr_ip c h
    refine r_iload (i := 5) (x := v359) 1 rfl d_W_law_2179 ?_
    refine r_if_ne (tgt := 2203) d_W_law_2181 rfl (fun c => ?_) (fun c => ?_)
    · replace h := kr_ip c h
      refine r_aload_n (i := 3) (x := x3) 5 rfl d_W_law_2184 ?_
      refine r_iconst (v := (0 : Int32)) (by decide) d_W_law_2185 ?_
      have h2 := kr_ob h
      clear h
      obtain ⟨v367, ev367, h⟩ := h2
      refine r_laload ev367 d_W_law_2186 ?_
      refine r_iload (i := 6) (x := v363) 0 rfl d_W_law_2187 ?_
      refine r_if_eq (tgt := 2196) d_W_law_2189 rfl (fun c => ?_) (fun c => ?_)
      · replace h := kr_ip c h
        refine r_lconst (v := (0 : Int64)) (by decide) d_W_law_2196 ?_
        exact kr_sub [2, 3, 4, 5, 6] rfl (s_W_law_B2197 hk23 h)
      · replace h := kr_in_ c h
        refine r_lconst (v := (1 : Int64)) (by decide) d_W_law_2192 ?_
        refine r_goto (tgt := 2197) d_W_law_2193 rfl ?_
        exact kr_sub [2, 3, 4, 5, 6] rfl (s_W_law_B2197 hk23 h)
    · replace h := kr_in_ c h
      refine r_goto (tgt := 3320) d_W_law_2203 rfl ?_
      exact kr_sub [2, 3, 4, 5, 6] rfl (s_W_law_B3320 hk23 h)
  · replace h := kr_in_ c h
    refine r_iconst (v := (0 : Int32)) (by decide) d_W_law_2177 ?_
    cases h
    exact r_zret rfl rfl d_W_law_2178
set_option maxRecDepth 20000 in
set_option maxHeartbeats 4000000 in
theorem s_W_law_B2206 {X : Nat → Int32} {L : Nat} {k23 : AS → Option Nat → Option Nat → Option Nat → Int32 → Option (Int32 × AS)} (hk23 : ∀ {S : AS} {x1 : Option Nat} {x2 : Option Nat} {x3 : Option Nat} {x4 : Int32} {r : (Int32 × AS)}, k23 S x1 x2 x3 x4 = some r → kr_AW (m_W_law X L) 15 23 [(0, va_rf (some 2)), (1, va_rf x1), (2, va_rf x2), (3, va_rf x3), (4, .int x4)] [] S (kr_eI r)) {S : AS} {x1 : Option Nat} {x2 : Option Nat} {x3 : Option Nat} {x4 : Int32} {r : (Int32 × AS)} (h : f_W_law_B2206 X L k23 S x1 x2 x3 x4 = some r) : kr_AW (m_W_law X L) 15 2206 [(0, va_rf (some 2)), (1, va_rf x1), (2, va_rf x2), (3, va_rf x3), (4, .int x4)] [] S (kr_eI r) := by
  unfold f_W_law_B2206 at h
  refine r_aload_n (i := 1) (x := x1) 1 rfl d_W_law_2206 ?_
  refine r_aload_n (i := 0) (x := (some 2)) 0 rfl d_W_law_2207 ?_
  refine r_iload (i := 4) (x := x4) 4 rfl d_W_law_2208 ?_
  refine r_iconst (v := (1 : Int32)) (by decide) d_W_law_2210 ?_
  refine r_iadd d_W_law_2211 ?_
  have h2 := kr_ob h
  clear h
  obtain ⟨v368, ev368, h⟩ := h2
  refine r_sload rfl ev368 d_W_law_2212 ?_
  refine r_aload_n (i := 3) (x := x3) 3 rfl d_W_law_2213 ?_
  have h2 := kr_ob2 h
  clear h
  obtain ⟨v370, S369, eS369, h⟩ := h2
  refine r_callSX (M1 := m_W_tokenOf) (As := [va_rf x1, .int v368, va_rf x3]) (s_W_tokenOf eS369) mok_W_tokenOf (by decide) w1209 w1210 (by decide) (kr_c8 kr_c0) d_W_law_2214 (kr_k1 ?_) kr_kn
  refine r_istore (i := 5) (lv' := [(5, .int v370), (0, va_rf (some 2)), (1, va_rf x1), (2, va_rf x2), (3, va_rf x3), (4, .int x4)]) (by show (5 : Nat) < 7; decide) rfl d_W_law_2217 ?_
  refine r_aload_n (i := 2) (x := x2) 3 rfl d_W_law_2219 ?_
  refine r_aload_n (i := 0) (x := (some 2)) 1 rfl d_W_law_2220 ?_
  refine r_iload (i := 4) (x := x4) 5 rfl d_W_law_2221 ?_
  refine r_iconst (v := (1 : Int32)) (by decide) d_W_law_2223 ?_
  refine r_iadd d_W_law_2224 ?_
  have h2 := kr_ob h
  clear h
  obtain ⟨v371, ev371, h⟩ := h2
  refine r_sload rfl ev371 d_W_law_2225 ?_
  have h2 := kr_ob h
  clear h
  obtain ⟨⟨⟩, eu372, h⟩ := h2
  have h2 := kr_ob2 h
  clear h
  obtain ⟨v374, S373, eS373, h⟩ := h2
  refine r_callV (M1 := m_M_tokenOf) (κ := 23) (As := [.int v371]) eu372 (s_M_tokenOf eS373) mok_M_tokenOf rfl (by decide) rfl w1958 w1959 w1960 (by decide) (kr_c8 kr_c0) d_W_law_2226 (kr_k1 ?_) kr_kn
  refine r_istore (i := 6) (lv' := [(6, .int v374), (5, .int v370), (0, va_rf (some 2)), (1, va_rf x1), (2, va_rf x2), (3, va_rf x3), (4, .int x4)]) (by show (6 : Nat) < 7; decide) rfl d_W_law_2229 ?_
  refine r_aload_n (i := 2) (x := x2) 4 rfl d_W_law_2231 ?_
  have h2 := kr_ob h
  clear h
  obtain ⟨⟨⟩, eu375, h⟩ := h2
  have h2 := kr_ob2 h
  clear h
  obtain ⟨v377, S376, eS376, h⟩ := h2
  refine r_callV (M1 := m_M_thrown) (κ := 23) (As := []) eu375 (s_M_thrown eS376) mok_M_thrown rfl (by decide) rfl w1688 w1689 w1690 (by decide) (kr_c8 kr_c0) d_W_law_2232 (kr_k1 ?_) kr_kn
  refine r_iload (i := 5) (x := v370) 1 rfl d_W_law_2235 ?_
  refine r_icmp_eq (tgt := 2242) d_W_law_2237 rfl (fun c => ?_) (fun c => ?_)
  · replace h := kr_ip c h
    refine r_iload (i := 5) (x := v370) 1 rfl d_W_law_2242 ?_
    refine r_if_ne (tgt := 2259) d_W_law_2244 rfl (fun c => ?_) (fun c => ?_)
    · replace h := kr_ip c h
      refine r_aload_n (i := 3) (x := x3) 5 rfl d_W_law_2247 ?_
      refine r_iconst (v := (0 : Int32)) (by decide) d_W_law_2248 ?_
      have h2 := kr_ob h
      clear h
      obtain ⟨v378, ev378, h⟩ := h2
      refine r_laload ev378 d_W_law_2249 ?_
      refine r_iload (i := 6) (x := v374) 0 rfl d_W_law_2250 ?_
      refine r_i2l d_W_law_2252 ?_
      refine r_lcmp d_W_law_2253 ?_
      refine r_if_eq (tgt := 2259) d_W_law_2254 rfl (fun c => ?_) (fun c => ?_)
      · replace h := kr_ip c h
        refine r_goto (tgt := 3320) d_W_law_2259 rfl ?_
        exact kr_sub [2, 3, 4, 5, 6] rfl (s_W_law_B3320 hk23 h)
      · replace h := kr_in_ c h
        refine r_iconst (v := (0 : Int32)) (by decide) d_W_law_2257 ?_
        cases h
        exact r_zret rfl rfl d_W_law_2258
    · replace h := kr_in_ c h
      refine r_goto (tgt := 3320) d_W_law_2259 rfl ?_
      exact kr_sub [2, 3, 4, 5, 6] rfl (s_W_law_B3320 hk23 h)
  · replace h := kr_in_ c h
    refine r_iconst (v := (0 : Int32)) (by decide) d_W_law_2240 ?_
    cases h
    exact r_zret rfl rfl d_W_law_2241
set_option maxRecDepth 20000 in
set_option maxHeartbeats 4000000 in
theorem s_W_law_B2262 {X : Nat → Int32} {L : Nat} {k23 : AS → Option Nat → Option Nat → Option Nat → Int32 → Option (Int32 × AS)} (hk23 : ∀ {S : AS} {x1 : Option Nat} {x2 : Option Nat} {x3 : Option Nat} {x4 : Int32} {r : (Int32 × AS)}, k23 S x1 x2 x3 x4 = some r → kr_AW (m_W_law X L) 15 23 [(0, va_rf (some 2)), (1, va_rf x1), (2, va_rf x2), (3, va_rf x3), (4, .int x4)] [] S (kr_eI r)) {S : AS} {x1 : Option Nat} {x2 : Option Nat} {x3 : Option Nat} {x4 : Int32} {r : (Int32 × AS)} (h : f_W_law_B2262 X L k23 S x1 x2 x3 x4 = some r) : kr_AW (m_W_law X L) 15 2262 [(0, va_rf (some 2)), (1, va_rf x1), (2, va_rf x2), (3, va_rf x3), (4, .int x4)] [] S (kr_eI r) := by
  unfold f_W_law_B2262 at h
  refine r_aload_n (i := 1) (x := x1) 1 rfl d_W_law_2262 ?_
  refine r_aload_n (i := 0) (x := (some 2)) 0 rfl d_W_law_2263 ?_
  refine r_iload (i := 4) (x := x4) 4 rfl d_W_law_2264 ?_
  refine r_iconst (v := (1 : Int32)) (by decide) d_W_law_2266 ?_
  refine r_iadd d_W_law_2267 ?_
  have h2 := kr_ob h
  clear h
  obtain ⟨v379, ev379, h⟩ := h2
  refine r_sload rfl ev379 d_W_law_2268 ?_
  refine r_aload_n (i := 0) (x := (some 2)) 0 rfl d_W_law_2269 ?_
  refine r_iload (i := 4) (x := x4) 4 rfl d_W_law_2270 ?_
  refine r_iconst (v := (2 : Int32)) (by decide) d_W_law_2272 ?_
  refine r_iadd d_W_law_2273 ?_
  have h2 := kr_ob h
  clear h
  obtain ⟨v380, ev380, h⟩ := h2
  refine r_sload rfl ev380 d_W_law_2274 ?_
  refine r_aload_n (i := 0) (x := (some 2)) 0 rfl d_W_law_2275 ?_
  refine r_iload (i := 4) (x := x4) 4 rfl d_W_law_2276 ?_
  refine r_iconst (v := (3 : Int32)) (by decide) d_W_law_2278 ?_
  refine r_iadd d_W_law_2279 ?_
  have h2 := kr_ob h
  clear h
  obtain ⟨v381, ev381, h⟩ := h2
  refine r_sload rfl ev381 d_W_law_2280 ?_
  refine r_aload_n (i := 3) (x := x3) 3 rfl d_W_law_2281 ?_
  have h2 := kr_ob2 h
  clear h
  obtain ⟨v383, S382, eS382, h⟩ := h2
  refine r_callSX (M1 := m_W_exchange) (As := [va_rf x1, .int v379, .int v380, .int v381, va_rf x3]) (s_W_exchange eS382) mok_W_exchange (by decide) w1216 w1217 (by decide) (kr_c8 kr_c0) d_W_law_2282 (kr_k1 ?_) kr_kn
  refine r_istore (i := 5) (lv' := [(5, .int v383), (0, va_rf (some 2)), (1, va_rf x1), (2, va_rf x2), (3, va_rf x3), (4, .int x4)]) (by show (5 : Nat) < 7; decide) rfl d_W_law_2285 ?_
  refine r_aload_n (i := 2) (x := x2) 3 rfl d_W_law_2287 ?_
  refine r_aload_n (i := 0) (x := (some 2)) 1 rfl d_W_law_2288 ?_
  refine r_iload (i := 4) (x := x4) 5 rfl d_W_law_2289 ?_
  refine r_iconst (v := (1 : Int32)) (by decide) d_W_law_2291 ?_
  refine r_iadd d_W_law_2292 ?_
  have h2 := kr_ob h
  clear h
  obtain ⟨v384, ev384, h⟩ := h2
  refine r_sload rfl ev384 d_W_law_2293 ?_
  refine r_aload_n (i := 0) (x := (some 2)) 1 rfl d_W_law_2294 ?_
  refine r_iload (i := 4) (x := x4) 5 rfl d_W_law_2295 ?_
  refine r_iconst (v := (2 : Int32)) (by decide) d_W_law_2297 ?_
  refine r_iadd d_W_law_2298 ?_
  have h2 := kr_ob h
  clear h
  obtain ⟨v385, ev385, h⟩ := h2
  refine r_sload rfl ev385 d_W_law_2299 ?_
  refine r_aload_n (i := 0) (x := (some 2)) 1 rfl d_W_law_2300 ?_
  refine r_iload (i := 4) (x := x4) 5 rfl d_W_law_2301 ?_
  refine r_iconst (v := (3 : Int32)) (by decide) d_W_law_2303 ?_
  refine r_iadd d_W_law_2304 ?_
  have h2 := kr_ob h
  clear h
  obtain ⟨v386, ev386, h⟩ := h2
  refine r_sload rfl ev386 d_W_law_2305 ?_
  have h2 := kr_ob h
  clear h
  obtain ⟨⟨⟩, eu387, h⟩ := h2
  have h2 := kr_ob2 h
  clear h
  obtain ⟨v389, S388, eS388, h⟩ := h2
  refine r_callV (M1 := m_M_exchange) (κ := 23) (As := [.int v384, .int v385, .int v386]) eu387 (s_M_exchange eS388) mok_M_exchange rfl (by decide) rfl w1962 w1963 w1964 (by decide) (kr_c8 kr_c0) d_W_law_2306 (kr_k1 ?_) kr_kn
  refine r_istore (i := 6) (lv' := [(6, .int v389), (5, .int v383), (0, va_rf (some 2)), (1, va_rf x1), (2, va_rf x2), (3, va_rf x3), (4, .int x4)]) (by show (6 : Nat) < 7; decide) rfl d_W_law_2309 ?_
  refine r_aload_n (i := 2) (x := x2) 4 rfl d_W_law_2311 ?_
  have h2 := kr_ob h
  clear h
  obtain ⟨⟨⟩, eu390, h⟩ := h2
  have h2 := kr_ob2 h
  clear h
  obtain ⟨v392, S391, eS391, h⟩ := h2
  refine r_callV (M1 := m_M_thrown) (κ := 23) (As := []) eu390 (s_M_thrown eS391) mok_M_thrown rfl (by decide) rfl w1688 w1689 w1690 (by decide) (kr_c8 kr_c0) d_W_law_2312 (kr_k1 ?_) kr_kn
  refine r_iload (i := 5) (x := v383) 1 rfl d_W_law_2315 ?_
  refine r_icmp_eq (tgt := 2322) d_W_law_2317 rfl (fun c => ?_) (fun c => ?_)
  · replace h := kr_ip c h
    refine r_iload (i := 5) (x := v383) 1 rfl d_W_law_2322 ?_
    refine r_if_ne (tgt := 2339) d_W_law_2324 rfl (fun c => ?_) (fun c => ?_)
    · replace h := kr_ip c h
      refine r_aload_n (i := 3) (x := x3) 5 rfl d_W_law_2327 ?_
      refine r_iconst (v := (0 : Int32)) (by decide) d_W_law_2328 ?_
      have h2 := kr_ob h
      clear h
      obtain ⟨v393, ev393, h⟩ := h2
      refine r_laload ev393 d_W_law_2329 ?_
      refine r_iload (i := 6) (x := v389) 0 rfl d_W_law_2330 ?_
      refine r_i2l d_W_law_2332 ?_
      refine r_lcmp d_W_law_2333 ?_
      refine r_if_eq (tgt := 2339) d_W_law_2334 rfl (fun c => ?_) (fun c => ?_)
      · replace h := kr_ip c h
        refine r_goto (tgt := 3320) d_W_law_2339 rfl ?_
        exact kr_sub [2, 3, 4, 5, 6] rfl (s_W_law_B3320 hk23 h)
      · replace h := kr_in_ c h
        refine r_iconst (v := (0 : Int32)) (by decide) d_W_law_2337 ?_
        cases h
        exact r_zret rfl rfl d_W_law_2338
    · replace h := kr_in_ c h
      refine r_goto (tgt := 3320) d_W_law_2339 rfl ?_
      exact kr_sub [2, 3, 4, 5, 6] rfl (s_W_law_B3320 hk23 h)
  · replace h := kr_in_ c h
    refine r_iconst (v := (0 : Int32)) (by decide) d_W_law_2320 ?_
    cases h
    exact r_zret rfl rfl d_W_law_2321
set_option maxRecDepth 20000 in
set_option maxHeartbeats 4000000 in
theorem s_W_law_B2342 {X : Nat → Int32} {L : Nat} {k23 : AS → Option Nat → Option Nat → Option Nat → Int32 → Option (Int32 × AS)} (hk23 : ∀ {S : AS} {x1 : Option Nat} {x2 : Option Nat} {x3 : Option Nat} {x4 : Int32} {r : (Int32 × AS)}, k23 S x1 x2 x3 x4 = some r → kr_AW (m_W_law X L) 15 23 [(0, va_rf (some 2)), (1, va_rf x1), (2, va_rf x2), (3, va_rf x3), (4, .int x4)] [] S (kr_eI r)) {S : AS} {x1 : Option Nat} {x2 : Option Nat} {x3 : Option Nat} {x4 : Int32} {r : (Int32 × AS)} (h : f_W_law_B2342 X L k23 S x1 x2 x3 x4 = some r) : kr_AW (m_W_law X L) 15 2342 [(0, va_rf (some 2)), (1, va_rf x1), (2, va_rf x2), (3, va_rf x3), (4, .int x4)] [] S (kr_eI r) := by
  unfold f_W_law_B2342 at h
  refine r_aload_n (i := 1) (x := x1) 1 rfl d_W_law_2342 ?_
  refine r_aload_n (i := 0) (x := (some 2)) 0 rfl d_W_law_2343 ?_
  refine r_iload (i := 4) (x := x4) 4 rfl d_W_law_2344 ?_
  refine r_iconst (v := (1 : Int32)) (by decide) d_W_law_2346 ?_
  refine r_iadd d_W_law_2347 ?_
  have h2 := kr_ob h
  clear h
  obtain ⟨v394, ev394, h⟩ := h2
  refine r_sload rfl ev394 d_W_law_2348 ?_
  refine r_aload_n (i := 3) (x := x3) 3 rfl d_W_law_2349 ?_
  have h2 := kr_ob2 h
  clear h
  obtain ⟨v396, S395, eS395, h⟩ := h2
  refine r_callSX (M1 := m_W_token) (As := [va_rf x1, .int v394, va_rf x3]) (s_W_token eS395) mok_W_token (by decide) w1227 w1228 (by decide) (kr_c8 kr_c0) d_W_law_2350 (kr_k1 ?_) kr_kn
  refine r_istore (i := 5) (lv' := [(5, .int v396), (0, va_rf (some 2)), (1, va_rf x1), (2, va_rf x2), (3, va_rf x3), (4, .int x4)]) (by show (5 : Nat) < 7; decide) rfl d_W_law_2353 ?_
  refine r_aload_n (i := 2) (x := x2) 3 rfl d_W_law_2355 ?_
  refine r_aload_n (i := 0) (x := (some 2)) 1 rfl d_W_law_2356 ?_
  refine r_iload (i := 4) (x := x4) 5 rfl d_W_law_2357 ?_
  refine r_iconst (v := (1 : Int32)) (by decide) d_W_law_2359 ?_
  refine r_iadd d_W_law_2360 ?_
  have h2 := kr_ob h
  clear h
  obtain ⟨v397, ev397, h⟩ := h2
  refine r_sload rfl ev397 d_W_law_2361 ?_
  have h2 := kr_ob h
  clear h
  obtain ⟨⟨⟩, eu398, h⟩ := h2
  have h2 := kr_ob2 h
  clear h
  obtain ⟨v400, S399, eS399, h⟩ := h2
  refine r_callV (M1 := m_M_token) (κ := 23) (As := [.int v397]) eu398 (s_M_token eS399) mok_M_token rfl (by decide) rfl w1970 w1971 w1972 (by decide) (kr_c8 kr_c0) d_W_law_2362 (kr_k1 ?_) kr_kn
  refine r_istore (i := 6) (lv' := [(6, .int v400), (5, .int v396), (0, va_rf (some 2)), (1, va_rf x1), (2, va_rf x2), (3, va_rf x3), (4, .int x4)]) (by show (6 : Nat) < 7; decide) rfl d_W_law_2365 ?_
  refine r_aload_n (i := 2) (x := x2) 4 rfl d_W_law_2367 ?_
  have h2 := kr_ob h
  clear h
  obtain ⟨⟨⟩, eu401, h⟩ := h2
  have h2 := kr_ob2 h
  clear h
  obtain ⟨v403, S402, eS402, h⟩ := h2
  refine r_callV (M1 := m_M_thrown) (κ := 23) (As := []) eu401 (s_M_thrown eS402) mok_M_thrown rfl (by decide) rfl w1688 w1689 w1690 (by decide) (kr_c8 kr_c0) d_W_law_2368 (kr_k1 ?_) kr_kn
  refine r_iload (i := 5) (x := v396) 1 rfl d_W_law_2371 ?_
  refine r_icmp_eq (tgt := 2378) d_W_law_2373 rfl (fun c => ?_) (fun c => ?_)
  · replace h := kr_ip c h
    refine r_iload (i := 5) (x := v396) 1 rfl d_W_law_2378 ?_
    refine r_if_ne (tgt := 2395) d_W_law_2380 rfl (fun c => ?_) (fun c => ?_)
    · replace h := kr_ip c h
      refine r_aload_n (i := 3) (x := x3) 5 rfl d_W_law_2383 ?_
      refine r_iconst (v := (0 : Int32)) (by decide) d_W_law_2384 ?_
      have h2 := kr_ob h
      clear h
      obtain ⟨v404, ev404, h⟩ := h2
      refine r_laload ev404 d_W_law_2385 ?_
      refine r_iload (i := 6) (x := v400) 0 rfl d_W_law_2386 ?_
      refine r_i2l d_W_law_2388 ?_
      refine r_lcmp d_W_law_2389 ?_
      refine r_if_eq (tgt := 2395) d_W_law_2390 rfl (fun c => ?_) (fun c => ?_)
      · replace h := kr_ip c h
        refine r_goto (tgt := 3320) d_W_law_2395 rfl ?_
        exact kr_sub [2, 3, 4, 5, 6] rfl (s_W_law_B3320 hk23 h)
      · replace h := kr_in_ c h
        refine r_iconst (v := (0 : Int32)) (by decide) d_W_law_2393 ?_
        cases h
        exact r_zret rfl rfl d_W_law_2394
    · replace h := kr_in_ c h
      refine r_goto (tgt := 3320) d_W_law_2395 rfl ?_
      exact kr_sub [2, 3, 4, 5, 6] rfl (s_W_law_B3320 hk23 h)
  · replace h := kr_in_ c h
    refine r_iconst (v := (0 : Int32)) (by decide) d_W_law_2376 ?_
    cases h
    exact r_zret rfl rfl d_W_law_2377
set_option maxRecDepth 20000 in
set_option maxHeartbeats 4000000 in
theorem s_W_law_B2398 {X : Nat → Int32} {L : Nat} {k23 : AS → Option Nat → Option Nat → Option Nat → Int32 → Option (Int32 × AS)} (hk23 : ∀ {S : AS} {x1 : Option Nat} {x2 : Option Nat} {x3 : Option Nat} {x4 : Int32} {r : (Int32 × AS)}, k23 S x1 x2 x3 x4 = some r → kr_AW (m_W_law X L) 15 23 [(0, va_rf (some 2)), (1, va_rf x1), (2, va_rf x2), (3, va_rf x3), (4, .int x4)] [] S (kr_eI r)) {S : AS} {x1 : Option Nat} {x2 : Option Nat} {x3 : Option Nat} {x4 : Int32} {r : (Int32 × AS)} (h : f_W_law_B2398 X L k23 S x1 x2 x3 x4 = some r) : kr_AW (m_W_law X L) 15 2398 [(0, va_rf (some 2)), (1, va_rf x1), (2, va_rf x2), (3, va_rf x3), (4, .int x4)] [] S (kr_eI r) := by
  unfold f_W_law_B2398 at h
  refine r_aload_n (i := 1) (x := x1) 1 rfl d_W_law_2398 ?_
  refine r_aload_n (i := 3) (x := x3) 3 rfl d_W_law_2399 ?_
  have h2 := kr_ob2 h
  clear h
  obtain ⟨v406, S405, eS405, h⟩ := h2
  refine r_callSX (M1 := m_W_turn) (As := [va_rf x1, va_rf x3]) (s_W_turn eS405) mok_W_turn (by decide) w1234 w1235 (by decide) (kr_c8 kr_c0) d_W_law_2400 (kr_k1 ?_) kr_kn
  refine r_istore (i := 5) (lv' := [(5, .int v406), (0, va_rf (some 2)), (1, va_rf x1), (2, va_rf x2), (3, va_rf x3), (4, .int x4)]) (by show (5 : Nat) < 7; decide) rfl d_W_law_2403 ?_
  refine r_aload_n (i := 2) (x := x2) 3 rfl d_W_law_2405 ?_
  have h2 := kr_ob h
  clear h
  obtain ⟨⟨⟩, eu407, h⟩ := h2
  have h2 := kr_ob2 h
  clear h
  obtain ⟨v409, S408, eS408, h⟩ := h2
  refine r_callV (M1 := m_M_turn) (κ := 23) (As := []) eu407 (s_M_turn eS408) mok_M_turn rfl (by decide) rfl w1974 w1975 w1976 (by decide) (kr_c8 kr_c0) d_W_law_2406 (kr_k1 ?_) kr_kn
  refine r_istore (i := 6) (lv' := [(6, .int v409), (5, .int v406), (0, va_rf (some 2)), (1, va_rf x1), (2, va_rf x2), (3, va_rf x3), (4, .int x4)]) (by show (6 : Nat) < 7; decide) rfl d_W_law_2409 ?_
  refine r_aload_n (i := 2) (x := x2) 4 rfl d_W_law_2411 ?_
  have h2 := kr_ob h
  clear h
  obtain ⟨⟨⟩, eu410, h⟩ := h2
  have h2 := kr_ob2 h
  clear h
  obtain ⟨v412, S411, eS411, h⟩ := h2
  refine r_callV (M1 := m_M_thrown) (κ := 23) (As := []) eu410 (s_M_thrown eS411) mok_M_thrown rfl (by decide) rfl w1688 w1689 w1690 (by decide) (kr_c8 kr_c0) d_W_law_2412 (kr_k1 ?_) kr_kn
  refine r_iload (i := 5) (x := v406) 1 rfl d_W_law_2415 ?_
  refine r_icmp_eq (tgt := 2422) d_W_law_2417 rfl (fun c => ?_) (fun c => ?_)
  · replace h := kr_ip c h
    refine r_iload (i := 5) (x := v406) 1 rfl d_W_law_2422 ?_
    refine r_if_ne (tgt := 2439) d_W_law_2424 rfl (fun c => ?_) (fun c => ?_)
    · replace h := kr_ip c h
      refine r_aload_n (i := 3) (x := x3) 5 rfl d_W_law_2427 ?_
      refine r_iconst (v := (0 : Int32)) (by decide) d_W_law_2428 ?_
      have h2 := kr_ob h
      clear h
      obtain ⟨v413, ev413, h⟩ := h2
      refine r_laload ev413 d_W_law_2429 ?_
      refine r_iload (i := 6) (x := v409) 0 rfl d_W_law_2430 ?_
      refine r_i2l d_W_law_2432 ?_
      refine r_lcmp d_W_law_2433 ?_
      refine r_if_eq (tgt := 2439) d_W_law_2434 rfl (fun c => ?_) (fun c => ?_)
      · replace h := kr_ip c h
        refine r_goto (tgt := 3320) d_W_law_2439 rfl ?_
        exact kr_sub [2, 3, 4, 5, 6] rfl (s_W_law_B3320 hk23 h)
      · replace h := kr_in_ c h
        refine r_iconst (v := (0 : Int32)) (by decide) d_W_law_2437 ?_
        cases h
        exact r_zret rfl rfl d_W_law_2438
    · replace h := kr_in_ c h
      refine r_goto (tgt := 3320) d_W_law_2439 rfl ?_
      exact kr_sub [2, 3, 4, 5, 6] rfl (s_W_law_B3320 hk23 h)
  · replace h := kr_in_ c h
    refine r_iconst (v := (0 : Int32)) (by decide) d_W_law_2420 ?_
    cases h
    exact r_zret rfl rfl d_W_law_2421
set_option maxRecDepth 20000 in
set_option maxHeartbeats 4000000 in
theorem s_W_law_B2442 {X : Nat → Int32} {L : Nat} {k23 : AS → Option Nat → Option Nat → Option Nat → Int32 → Option (Int32 × AS)} (hk23 : ∀ {S : AS} {x1 : Option Nat} {x2 : Option Nat} {x3 : Option Nat} {x4 : Int32} {r : (Int32 × AS)}, k23 S x1 x2 x3 x4 = some r → kr_AW (m_W_law X L) 15 23 [(0, va_rf (some 2)), (1, va_rf x1), (2, va_rf x2), (3, va_rf x3), (4, .int x4)] [] S (kr_eI r)) {S : AS} {x1 : Option Nat} {x2 : Option Nat} {x3 : Option Nat} {x4 : Int32} {r : (Int32 × AS)} (h : f_W_law_B2442 X L k23 S x1 x2 x3 x4 = some r) : kr_AW (m_W_law X L) 15 2442 [(0, va_rf (some 2)), (1, va_rf x1), (2, va_rf x2), (3, va_rf x3), (4, .int x4)] [] S (kr_eI r) := by
  unfold f_W_law_B2442 at h
  refine r_aload_n (i := 1) (x := x1) 1 rfl d_W_law_2442 ?_
  refine r_aload_n (i := 3) (x := x3) 3 rfl d_W_law_2443 ?_
  have h2 := kr_ob2 h
  clear h
  obtain ⟨v415, S414, eS414, h⟩ := h2
  refine r_callSX (M1 := m_W_emergency) (As := [va_rf x1, va_rf x3]) (s_W_emergency eS414) mok_W_emergency (by decide) w1249 w1250 (by decide) (kr_c8 kr_c0) d_W_law_2444 (kr_k1 ?_) kr_kn
  refine r_istore (i := 5) (lv' := [(5, .int v415), (0, va_rf (some 2)), (1, va_rf x1), (2, va_rf x2), (3, va_rf x3), (4, .int x4)]) (by show (5 : Nat) < 7; decide) rfl d_W_law_2447 ?_
  refine r_aload_n (i := 2) (x := x2) 3 rfl d_W_law_2449 ?_
  have h2 := kr_ob h
  clear h
  obtain ⟨⟨⟩, eu416, h⟩ := h2
  have h2 := kr_ob2 h
  clear h
  obtain ⟨v418, S417, eS417, h⟩ := h2
  refine r_callV (M1 := m_M_emergency) (κ := 23) (As := []) eu416 (s_M_emergency eS417) mok_M_emergency rfl (by decide) rfl w1978 w1979 w1980 (by decide) (kr_c8 kr_c0) d_W_law_2450 (kr_k1 ?_) kr_kn
  refine r_istore (i := 6) (lv' := [(6, .int v418), (5, .int v415), (0, va_rf (some 2)), (1, va_rf x1), (2, va_rf x2), (3, va_rf x3), (4, .int x4)]) (by show (6 : Nat) < 7; decide) rfl d_W_law_2453 ?_
  refine r_aload_n (i := 2) (x := x2) 4 rfl d_W_law_2455 ?_
  have h2 := kr_ob h
  clear h
  obtain ⟨⟨⟩, eu419, h⟩ := h2
  have h2 := kr_ob2 h
  clear h
  obtain ⟨v421, S420, eS420, h⟩ := h2
  refine r_callV (M1 := m_M_thrown) (κ := 23) (As := []) eu419 (s_M_thrown eS420) mok_M_thrown rfl (by decide) rfl w1688 w1689 w1690 (by decide) (kr_c8 kr_c0) d_W_law_2456 (kr_k1 ?_) kr_kn
  refine r_iload (i := 5) (x := v415) 1 rfl d_W_law_2459 ?_
  refine r_icmp_eq (tgt := 2466) d_W_law_2461 rfl (fun c => ?_) (fun c => ?_)
  · replace h := kr_ip c h
    refine r_iload (i := 5) (x := v415) 1 rfl d_W_law_2466 ?_
    refine r_if_ne (tgt := 2483) d_W_law_2468 rfl (fun c => ?_) (fun c => ?_)
    · replace h := kr_ip c h
      refine r_aload_n (i := 3) (x := x3) 5 rfl d_W_law_2471 ?_
      refine r_iconst (v := (0 : Int32)) (by decide) d_W_law_2472 ?_
      have h2 := kr_ob h
      clear h
      obtain ⟨v422, ev422, h⟩ := h2
      refine r_laload ev422 d_W_law_2473 ?_
      refine r_iload (i := 6) (x := v418) 0 rfl d_W_law_2474 ?_
      refine r_i2l d_W_law_2476 ?_
      refine r_lcmp d_W_law_2477 ?_
      refine r_if_eq (tgt := 2483) d_W_law_2478 rfl (fun c => ?_) (fun c => ?_)
      · replace h := kr_ip c h
        refine r_goto (tgt := 3320) d_W_law_2483 rfl ?_
        exact kr_sub [2, 3, 4, 5, 6] rfl (s_W_law_B3320 hk23 h)
      · replace h := kr_in_ c h
        refine r_iconst (v := (0 : Int32)) (by decide) d_W_law_2481 ?_
        cases h
        exact r_zret rfl rfl d_W_law_2482
    · replace h := kr_in_ c h
      refine r_goto (tgt := 3320) d_W_law_2483 rfl ?_
      exact kr_sub [2, 3, 4, 5, 6] rfl (s_W_law_B3320 hk23 h)
  · replace h := kr_in_ c h
    refine r_iconst (v := (0 : Int32)) (by decide) d_W_law_2464 ?_
    cases h
    exact r_zret rfl rfl d_W_law_2465
set_option maxRecDepth 20000 in
set_option maxHeartbeats 4000000 in
theorem s_W_law_B2486 {X : Nat → Int32} {L : Nat} {k23 : AS → Option Nat → Option Nat → Option Nat → Int32 → Option (Int32 × AS)} (hk23 : ∀ {S : AS} {x1 : Option Nat} {x2 : Option Nat} {x3 : Option Nat} {x4 : Int32} {r : (Int32 × AS)}, k23 S x1 x2 x3 x4 = some r → kr_AW (m_W_law X L) 15 23 [(0, va_rf (some 2)), (1, va_rf x1), (2, va_rf x2), (3, va_rf x3), (4, .int x4)] [] S (kr_eI r)) {S : AS} {x1 : Option Nat} {x2 : Option Nat} {x3 : Option Nat} {x4 : Int32} {r : (Int32 × AS)} (h : f_W_law_B2486 X L k23 S x1 x2 x3 x4 = some r) : kr_AW (m_W_law X L) 15 2486 [(0, va_rf (some 2)), (1, va_rf x1), (2, va_rf x2), (3, va_rf x3), (4, .int x4)] [] S (kr_eI r) := by
  unfold f_W_law_B2486 at h
  refine r_aload_n (i := 1) (x := x1) 1 rfl d_W_law_2486 ?_
  have h2 := kr_ob h
  clear h
  obtain ⟨⟨⟩, eu423, h⟩ := h2
  have h2 := kr_ob2 h
  clear h
  obtain ⟨v425, S424, eS424, h⟩ := h2
  refine r_callV (M1 := m_K_signing) (κ := 22) (As := []) eu423 (s_K_signing eS424) mok_K_signing rfl (by decide) rfl w352 w353 w354 (by decide) (kr_c8 kr_c0) d_W_law_2487 (kr_k1 ?_) kr_kn
  refine r_aload_n (i := 2) (x := x2) 2 rfl d_W_law_2490 ?_
  have h2 := kr_ob h
  clear h
  obtain ⟨⟨⟩, eu426, h⟩ := h2
  have h2 := kr_ob2 h
  clear h
  obtain ⟨v428, S427, eS427, h⟩ := h2
  refine r_callV (M1 := m_M_signing) (κ := 23) (As := []) eu426 (s_M_signing eS427) mok_M_signing rfl (by decide) rfl w1982 w1983 w1984 (by decide) (kr_c8 (kr_cI kr_c0)) d_W_law_2491 (kr_k1 ?_) kr_kn
  refine r_icmp_eq (tgt := 3320) d_W_law_2494 rfl (fun c => ?_) (fun c => ?_)
  · replace h := kr_ip c h
    exact kr_sub [0, 1, 2, 3, 4] rfl (s_W_law_B3320 hk23 h)
  · replace h := kr_in_ c h
    refine r_iconst (v := (0 : Int32)) (by decide) d_W_law_2497 ?_
    cases h
    exact r_zret rfl rfl d_W_law_2498
set_option maxRecDepth 20000 in
set_option maxHeartbeats 4000000 in
theorem s_W_law_B2553 {X : Nat → Int32} {L : Nat} {k23 : AS → Option Nat → Option Nat → Option Nat → Int32 → Option (Int32 × AS)} (hk23 : ∀ {S : AS} {x1 : Option Nat} {x2 : Option Nat} {x3 : Option Nat} {x4 : Int32} {r : (Int32 × AS)}, k23 S x1 x2 x3 x4 = some r → kr_AW (m_W_law X L) 15 23 [(0, va_rf (some 2)), (1, va_rf x1), (2, va_rf x2), (3, va_rf x3), (4, .int x4)] [] S (kr_eI r)) {S : AS} {x1 : Option Nat} {x2 : Option Nat} {x3 : Option Nat} {x4 : Int32} {y0 : Int64} {y1 : Int64} {r : (Int32 × AS)} (h : f_W_law_B2553 X L k23 S x1 x2 x3 x4 y0 y1 = some r) : kr_AW (m_W_law X L) 15 2553 [(0, va_rf (some 2)), (1, va_rf x1), (2, va_rf x2), (3, va_rf x3), (4, .int x4)] [.long y1, .long y0] S (kr_eI r) := by
  unfold f_W_law_B2553 at h
  refine r_lcmp d_W_law_2553 ?_
  refine r_if_eq (tgt := 2559) d_W_law_2554 rfl (fun c => ?_) (fun c => ?_)
  · replace h := kr_ip c h
    refine r_goto (tgt := 3320) d_W_law_2559 rfl ?_
    exact kr_sub [0, 1, 2, 3, 4] rfl (s_W_law_B3320 hk23 h)
  · replace h := kr_in_ c h
    refine r_iconst (v := (0 : Int32)) (by decide) d_W_law_2557 ?_
    cases h
    exact r_zret rfl rfl d_W_law_2558
set_option maxRecDepth 20000 in
set_option maxHeartbeats 4000000 in
theorem s_W_law_B2499 {X : Nat → Int32} {L : Nat} {k23 : AS → Option Nat → Option Nat → Option Nat → Int32 → Option (Int32 × AS)} (hk23 : ∀ {S : AS} {x1 : Option Nat} {x2 : Option Nat} {x3 : Option Nat} {x4 : Int32} {r : (Int32 × AS)}, k23 S x1 x2 x3 x4 = some r → kr_AW (m_W_law X L) 15 23 [(0, va_rf (some 2)), (1, va_rf x1), (2, va_rf x2), (3, va_rf x3), (4, .int x4)] [] S (kr_eI r)) {S : AS} {x1 : Option Nat} {x2 : Option Nat} {x3 : Option Nat} {x4 : Int32} {r : (Int32 × AS)} (h : f_W_law_B2499 X L k23 S x1 x2 x3 x4 = some r) : kr_AW (m_W_law X L) 15 2499 [(0, va_rf (some 2)), (1, va_rf x1), (2, va_rf x2), (3, va_rf x3), (4, .int x4)] [] S (kr_eI r) := by
  unfold f_W_law_B2499 at h
  refine r_aload_n (i := 1) (x := x1) 1 rfl d_W_law_2499 ?_
  refine r_aload_n (i := 0) (x := (some 2)) 0 rfl d_W_law_2500 ?_
  refine r_iload (i := 4) (x := x4) 4 rfl d_W_law_2501 ?_
  refine r_iconst (v := (1 : Int32)) (by decide) d_W_law_2503 ?_
  refine r_iadd d_W_law_2504 ?_
  have h2 := kr_ob h
  clear h
  obtain ⟨v429, ev429, h⟩ := h2
  refine r_sload rfl ev429 d_W_law_2505 ?_
  refine r_aload_n (i := 3) (x := x3) 3 rfl d_W_law_2506 ?_
  have h2 := kr_ob2 h
  clear h
  obtain ⟨v431, S430, eS430, h⟩ := h2
  refine r_callSX (M1 := m_W_isPublished) (As := [va_rf x1, .int v429, va_rf x3]) (s_W_isPublished eS430) mok_W_isPublished (by decide) w1260 w1261 (by decide) (kr_c8 kr_c0) d_W_law_2507 (kr_k1 ?_) kr_kn
  refine r_istore (i := 5) (lv' := [(5, .int v431), (0, va_rf (some 2)), (1, va_rf x1), (2, va_rf x2), (3, va_rf x3), (4, .int x4)]) (by show (5 : Nat) < 7; decide) rfl d_W_law_2510 ?_
  refine r_aload_n (i := 2) (x := x2) 3 rfl d_W_law_2512 ?_
  refine r_aload_n (i := 0) (x := (some 2)) 1 rfl d_W_law_2513 ?_
  refine r_iload (i := 4) (x := x4) 5 rfl d_W_law_2514 ?_
  refine r_iconst (v := (1 : Int32)) (by decide) d_W_law_2516 ?_
  refine r_iadd d_W_law_2517 ?_
  have h2 := kr_ob h
  clear h
  obtain ⟨v432, ev432, h⟩ := h2
  refine r_sload rfl ev432 d_W_law_2518 ?_
  have h2 := kr_ob h
  clear h
  obtain ⟨⟨⟩, eu433, h⟩ := h2
  have h2 := kr_ob2 h
  clear h
  obtain ⟨v435, S434, eS434, h⟩ := h2
  refine r_callV (M1 := m_M_isPublished) (κ := 23) (As := [.int v432]) eu433 (s_M_isPublished eS434) mok_M_isPublished rfl (by decide) rfl w1986 w1987 w1988 (by decide) (kr_c8 kr_c0) d_W_law_2519 (kr_k1 ?_) kr_kn
  refine r_istore (i := 6) (lv' := [(6, .int v435), (5, .int v431), (0, va_rf (some 2)), (1, va_rf x1), (2, va_rf x2), (3, va_rf x3), (4, .int x4)]) (by show (6 : Nat) < 7; decide) rfl d_W_law_2522 ?_
  refine r_aload_n (i := 2) (x := x2) 4 rfl d_W_law_2524 ?_
  have h2 := kr_ob h
  clear h
  obtain ⟨⟨⟩, eu436, h⟩ := h2
  have h2 := kr_ob2 h
  clear h
  obtain ⟨v438, S437, eS437, h⟩ := h2
  refine r_callV (M1 := m_M_thrown) (κ := 23) (As := []) eu436 (s_M_thrown eS437) mok_M_thrown rfl (by decide) rfl w1688 w1689 w1690 (by decide) (kr_c8 kr_c0) d_W_law_2525 (kr_k1 ?_) kr_kn
  refine r_iload (i := 5) (x := v431) 1 rfl d_W_law_2528 ?_
  refine r_icmp_eq (tgt := 2535) d_W_law_2530 rfl (fun c => ?_) (fun c => ?_)
  · replace h := kr_ip c h
    refine r_iload (i := 5) (x := v431) 1 rfl d_W_law_2535 ?_
    refine r_if_ne (tgt := 2559) d_W_law_2537 rfl (fun c => ?_) (fun c => ?_)
    · replace h := kr_ip c h
      refine r_aload_n (i := 3) (x := x3) 5 rfl d_W_law_2540 ?_
      refine r_iconst (v := (0 : Int32)) (by decide) d_W_law_2541 ?_
      have h2 := kr_ob h
      clear h
      obtain ⟨v439, ev439, h⟩ := h2
      refine r_laload ev439 d_W_law_2542 ?_
      refine r_iload (i := 6) (x := v435) 0 rfl d_W_law_2543 ?_
      refine r_if_eq (tgt := 2552) d_W_law_2545 rfl (fun c => ?_) (fun c => ?_)
      · replace h := kr_ip c h
        refine r_lconst (v := (0 : Int64)) (by decide) d_W_law_2552 ?_
        exact kr_sub [2, 3, 4, 5, 6] rfl (s_W_law_B2553 hk23 h)
      · replace h := kr_in_ c h
        refine r_lconst (v := (1 : Int64)) (by decide) d_W_law_2548 ?_
        refine r_goto (tgt := 2553) d_W_law_2549 rfl ?_
        exact kr_sub [2, 3, 4, 5, 6] rfl (s_W_law_B2553 hk23 h)
    · replace h := kr_in_ c h
      refine r_goto (tgt := 3320) d_W_law_2559 rfl ?_
      exact kr_sub [2, 3, 4, 5, 6] rfl (s_W_law_B3320 hk23 h)
  · replace h := kr_in_ c h
    refine r_iconst (v := (0 : Int32)) (by decide) d_W_law_2533 ?_
    cases h
    exact r_zret rfl rfl d_W_law_2534
set_option maxRecDepth 20000 in
set_option maxHeartbeats 4000000 in
theorem s_W_law_B2562 {X : Nat → Int32} {L : Nat} {k23 : AS → Option Nat → Option Nat → Option Nat → Int32 → Option (Int32 × AS)} (hk23 : ∀ {S : AS} {x1 : Option Nat} {x2 : Option Nat} {x3 : Option Nat} {x4 : Int32} {r : (Int32 × AS)}, k23 S x1 x2 x3 x4 = some r → kr_AW (m_W_law X L) 15 23 [(0, va_rf (some 2)), (1, va_rf x1), (2, va_rf x2), (3, va_rf x3), (4, .int x4)] [] S (kr_eI r)) {S : AS} {x1 : Option Nat} {x2 : Option Nat} {x3 : Option Nat} {x4 : Int32} {r : (Int32 × AS)} (h : f_W_law_B2562 X L k23 S x1 x2 x3 x4 = some r) : kr_AW (m_W_law X L) 15 2562 [(0, va_rf (some 2)), (1, va_rf x1), (2, va_rf x2), (3, va_rf x3), (4, .int x4)] [] S (kr_eI r) := by
  unfold f_W_law_B2562 at h
  refine r_aload_n (i := 1) (x := x1) 1 rfl d_W_law_2562 ?_
  refine r_aload_n (i := 0) (x := (some 2)) 0 rfl d_W_law_2563 ?_
  refine r_iload (i := 4) (x := x4) 4 rfl d_W_law_2564 ?_
  refine r_iconst (v := (1 : Int32)) (by decide) d_W_law_2566 ?_
  refine r_iadd d_W_law_2567 ?_
  have h2 := kr_ob h
  clear h
  obtain ⟨v440, ev440, h⟩ := h2
  refine r_sload rfl ev440 d_W_law_2568 ?_
  refine r_aload_n (i := 3) (x := x3) 3 rfl d_W_law_2569 ?_
  have h2 := kr_ob2 h
  clear h
  obtain ⟨v442, S441, eS441, h⟩ := h2
  refine r_callSX (M1 := m_W_line) (As := [va_rf x1, .int v440, va_rf x3]) (s_W_line eS441) mok_W_line (by decide) w1267 w1268 (by decide) (kr_c8 kr_c0) d_W_law_2570 (kr_k1 ?_) kr_kn
  refine r_istore (i := 5) (lv' := [(5, .int v442), (0, va_rf (some 2)), (1, va_rf x1), (2, va_rf x2), (3, va_rf x3), (4, .int x4)]) (by show (5 : Nat) < 7; decide) rfl d_W_law_2573 ?_
  refine r_aload_n (i := 2) (x := x2) 3 rfl d_W_law_2575 ?_
  refine r_aload_n (i := 0) (x := (some 2)) 1 rfl d_W_law_2576 ?_
  refine r_iload (i := 4) (x := x4) 5 rfl d_W_law_2577 ?_
  refine r_iconst (v := (1 : Int32)) (by decide) d_W_law_2579 ?_
  refine r_iadd d_W_law_2580 ?_
  have h2 := kr_ob h
  clear h
  obtain ⟨v443, ev443, h⟩ := h2
  refine r_sload rfl ev443 d_W_law_2581 ?_
  have h2 := kr_ob h
  clear h
  obtain ⟨⟨⟩, eu444, h⟩ := h2
  have h2 := kr_ob2 h
  clear h
  obtain ⟨v446, S445, eS445, h⟩ := h2
  refine r_callV (M1 := m_M_line) (κ := 23) (As := [.int v443]) eu444 (s_M_line eS445) mok_M_line rfl (by decide) rfl w1994 w1995 w1996 (by decide) (kr_c8 kr_c0) d_W_law_2582 (kr_k1 ?_) kr_kn
  refine r_istore (i := 6) (lv' := [(6, .int v446), (5, .int v442), (0, va_rf (some 2)), (1, va_rf x1), (2, va_rf x2), (3, va_rf x3), (4, .int x4)]) (by show (6 : Nat) < 7; decide) rfl d_W_law_2585 ?_
  refine r_aload_n (i := 2) (x := x2) 4 rfl d_W_law_2587 ?_
  have h2 := kr_ob h
  clear h
  obtain ⟨⟨⟩, eu447, h⟩ := h2
  have h2 := kr_ob2 h
  clear h
  obtain ⟨v449, S448, eS448, h⟩ := h2
  refine r_callV (M1 := m_M_thrown) (κ := 23) (As := []) eu447 (s_M_thrown eS448) mok_M_thrown rfl (by decide) rfl w1688 w1689 w1690 (by decide) (kr_c8 kr_c0) d_W_law_2588 (kr_k1 ?_) kr_kn
  refine r_iload (i := 5) (x := v442) 1 rfl d_W_law_2591 ?_
  refine r_icmp_eq (tgt := 2598) d_W_law_2593 rfl (fun c => ?_) (fun c => ?_)
  · replace h := kr_ip c h
    refine r_iload (i := 5) (x := v442) 1 rfl d_W_law_2598 ?_
    refine r_if_ne (tgt := 2615) d_W_law_2600 rfl (fun c => ?_) (fun c => ?_)
    · replace h := kr_ip c h
      refine r_aload_n (i := 3) (x := x3) 5 rfl d_W_law_2603 ?_
      refine r_iconst (v := (0 : Int32)) (by decide) d_W_law_2604 ?_
      have h2 := kr_ob h
      clear h
      obtain ⟨v450, ev450, h⟩ := h2
      refine r_laload ev450 d_W_law_2605 ?_
      refine r_iload (i := 6) (x := v446) 0 rfl d_W_law_2606 ?_
      refine r_i2l d_W_law_2608 ?_
      refine r_lcmp d_W_law_2609 ?_
      refine r_if_eq (tgt := 2615) d_W_law_2610 rfl (fun c => ?_) (fun c => ?_)
      · replace h := kr_ip c h
        refine r_goto (tgt := 3320) d_W_law_2615 rfl ?_
        exact kr_sub [2, 3, 4, 5, 6] rfl (s_W_law_B3320 hk23 h)
      · replace h := kr_in_ c h
        refine r_iconst (v := (0 : Int32)) (by decide) d_W_law_2613 ?_
        cases h
        exact r_zret rfl rfl d_W_law_2614
    · replace h := kr_in_ c h
      refine r_goto (tgt := 3320) d_W_law_2615 rfl ?_
      exact kr_sub [2, 3, 4, 5, 6] rfl (s_W_law_B3320 hk23 h)
  · replace h := kr_in_ c h
    refine r_iconst (v := (0 : Int32)) (by decide) d_W_law_2596 ?_
    cases h
    exact r_zret rfl rfl d_W_law_2597
set_option maxRecDepth 20000 in
set_option maxHeartbeats 4000000 in
theorem s_W_law_B2618 {X : Nat → Int32} {L : Nat} {k23 : AS → Option Nat → Option Nat → Option Nat → Int32 → Option (Int32 × AS)} (hk23 : ∀ {S : AS} {x1 : Option Nat} {x2 : Option Nat} {x3 : Option Nat} {x4 : Int32} {r : (Int32 × AS)}, k23 S x1 x2 x3 x4 = some r → kr_AW (m_W_law X L) 15 23 [(0, va_rf (some 2)), (1, va_rf x1), (2, va_rf x2), (3, va_rf x3), (4, .int x4)] [] S (kr_eI r)) {S : AS} {x1 : Option Nat} {x2 : Option Nat} {x3 : Option Nat} {x4 : Int32} {r : (Int32 × AS)} (h : f_W_law_B2618 X L k23 S x1 x2 x3 x4 = some r) : kr_AW (m_W_law X L) 15 2618 [(0, va_rf (some 2)), (1, va_rf x1), (2, va_rf x2), (3, va_rf x3), (4, .int x4)] [] S (kr_eI r) := by
  unfold f_W_law_B2618 at h
  refine r_aload_n (i := 1) (x := x1) 1 rfl d_W_law_2618 ?_
  refine r_aload_n (i := 0) (x := (some 2)) 0 rfl d_W_law_2619 ?_
  refine r_iload (i := 4) (x := x4) 4 rfl d_W_law_2620 ?_
  refine r_iconst (v := (1 : Int32)) (by decide) d_W_law_2622 ?_
  refine r_iadd d_W_law_2623 ?_
  have h2 := kr_ob h
  clear h
  obtain ⟨v451, ev451, h⟩ := h2
  refine r_sload rfl ev451 d_W_law_2624 ?_
  refine r_aload_n (i := 0) (x := (some 2)) 0 rfl d_W_law_2625 ?_
  refine r_iload (i := 4) (x := x4) 4 rfl d_W_law_2626 ?_
  refine r_iconst (v := (2 : Int32)) (by decide) d_W_law_2628 ?_
  refine r_iadd d_W_law_2629 ?_
  have h2 := kr_ob h
  clear h
  obtain ⟨v452, ev452, h⟩ := h2
  refine r_sload rfl ev452 d_W_law_2630 ?_
  refine r_aload_n (i := 0) (x := (some 2)) 0 rfl d_W_law_2631 ?_
  refine r_iload (i := 4) (x := x4) 4 rfl d_W_law_2632 ?_
  refine r_iconst (v := (3 : Int32)) (by decide) d_W_law_2634 ?_
  refine r_iadd d_W_law_2635 ?_
  have h2 := kr_ob h
  clear h
  obtain ⟨v453, ev453, h⟩ := h2
  refine r_sload rfl ev453 d_W_law_2636 ?_
  refine r_aload_n (i := 3) (x := x3) 3 rfl d_W_law_2637 ?_
  have h2 := kr_ob2 h
  clear h
  obtain ⟨v455, S454, eS454, h⟩ := h2
  refine r_callSX (M1 := m_W_check) (As := [va_rf x1, .int v451, .int v452, .int v453, va_rf x3]) (s_W_check eS454) mok_W_check (by decide) w1278 w1279 (by decide) (kr_c8 kr_c0) d_W_law_2638 (kr_k1 ?_) kr_kn
  refine r_istore (i := 5) (lv' := [(5, .int v455), (0, va_rf (some 2)), (1, va_rf x1), (2, va_rf x2), (3, va_rf x3), (4, .int x4)]) (by show (5 : Nat) < 7; decide) rfl d_W_law_2641 ?_
  refine r_aload_n (i := 2) (x := x2) 3 rfl d_W_law_2643 ?_
  refine r_aload_n (i := 0) (x := (some 2)) 1 rfl d_W_law_2644 ?_
  refine r_iload (i := 4) (x := x4) 5 rfl d_W_law_2645 ?_
  refine r_iconst (v := (1 : Int32)) (by decide) d_W_law_2647 ?_
  refine r_iadd d_W_law_2648 ?_
  have h2 := kr_ob h
  clear h
  obtain ⟨v456, ev456, h⟩ := h2
  refine r_sload rfl ev456 d_W_law_2649 ?_
  refine r_aload_n (i := 0) (x := (some 2)) 1 rfl d_W_law_2650 ?_
  refine r_iload (i := 4) (x := x4) 5 rfl d_W_law_2651 ?_
  refine r_iconst (v := (2 : Int32)) (by decide) d_W_law_2653 ?_
  refine r_iadd d_W_law_2654 ?_
  have h2 := kr_ob h
  clear h
  obtain ⟨v457, ev457, h⟩ := h2
  refine r_sload rfl ev457 d_W_law_2655 ?_
  refine r_aload_n (i := 0) (x := (some 2)) 1 rfl d_W_law_2656 ?_
  refine r_iload (i := 4) (x := x4) 5 rfl d_W_law_2657 ?_
  refine r_iconst (v := (3 : Int32)) (by decide) d_W_law_2659 ?_
  refine r_iadd d_W_law_2660 ?_
  have h2 := kr_ob h
  clear h
  obtain ⟨v458, ev458, h⟩ := h2
  refine r_sload rfl ev458 d_W_law_2661 ?_
  have h2 := kr_ob h
  clear h
  obtain ⟨⟨⟩, eu459, h⟩ := h2
  have h2 := kr_ob2 h
  clear h
  obtain ⟨v461, S460, eS460, h⟩ := h2
  refine r_callV (M1 := m_M_check) (κ := 23) (As := [.int v456, .int v457, .int v458]) eu459 (s_M_check eS460) mok_M_check rfl (by decide) rfl w1998 w1999 w2000 (by decide) (kr_c8 kr_c0) d_W_law_2662 (kr_k1 ?_) kr_kn
  refine r_istore (i := 6) (lv' := [(6, .int v461), (5, .int v455), (0, va_rf (some 2)), (1, va_rf x1), (2, va_rf x2), (3, va_rf x3), (4, .int x4)]) (by show (6 : Nat) < 7; decide) rfl d_W_law_2665 ?_
  refine r_aload_n (i := 2) (x := x2) 4 rfl d_W_law_2667 ?_
  have h2 := kr_ob h
  clear h
  obtain ⟨⟨⟩, eu462, h⟩ := h2
  have h2 := kr_ob2 h
  clear h
  obtain ⟨v464, S463, eS463, h⟩ := h2
  refine r_callV (M1 := m_M_thrown) (κ := 23) (As := []) eu462 (s_M_thrown eS463) mok_M_thrown rfl (by decide) rfl w1688 w1689 w1690 (by decide) (kr_c8 kr_c0) d_W_law_2668 (kr_k1 ?_) kr_kn
  refine r_iload (i := 5) (x := v455) 1 rfl d_W_law_2671 ?_
  refine r_icmp_eq (tgt := 2678) d_W_law_2673 rfl (fun c => ?_) (fun c => ?_)
  · replace h := kr_ip c h
    refine r_iload (i := 5) (x := v455) 1 rfl d_W_law_2678 ?_
    refine r_if_ne (tgt := 2695) d_W_law_2680 rfl (fun c => ?_) (fun c => ?_)
    · replace h := kr_ip c h
      refine r_aload_n (i := 3) (x := x3) 5 rfl d_W_law_2683 ?_
      refine r_iconst (v := (0 : Int32)) (by decide) d_W_law_2684 ?_
      have h2 := kr_ob h
      clear h
      obtain ⟨v465, ev465, h⟩ := h2
      refine r_laload ev465 d_W_law_2685 ?_
      refine r_iload (i := 6) (x := v461) 0 rfl d_W_law_2686 ?_
      refine r_i2l d_W_law_2688 ?_
      refine r_lcmp d_W_law_2689 ?_
      refine r_if_eq (tgt := 2695) d_W_law_2690 rfl (fun c => ?_) (fun c => ?_)
      · replace h := kr_ip c h
        refine r_goto (tgt := 3320) d_W_law_2695 rfl ?_
        exact kr_sub [2, 3, 4, 5, 6] rfl (s_W_law_B3320 hk23 h)
      · replace h := kr_in_ c h
        refine r_iconst (v := (0 : Int32)) (by decide) d_W_law_2693 ?_
        cases h
        exact r_zret rfl rfl d_W_law_2694
    · replace h := kr_in_ c h
      refine r_goto (tgt := 3320) d_W_law_2695 rfl ?_
      exact kr_sub [2, 3, 4, 5, 6] rfl (s_W_law_B3320 hk23 h)
  · replace h := kr_in_ c h
    refine r_iconst (v := (0 : Int32)) (by decide) d_W_law_2676 ?_
    cases h
    exact r_zret rfl rfl d_W_law_2677
set_option maxRecDepth 20000 in
set_option maxHeartbeats 4000000 in
theorem s_W_law_B2698 {X : Nat → Int32} {L : Nat} {k23 : AS → Option Nat → Option Nat → Option Nat → Int32 → Option (Int32 × AS)} (hk23 : ∀ {S : AS} {x1 : Option Nat} {x2 : Option Nat} {x3 : Option Nat} {x4 : Int32} {r : (Int32 × AS)}, k23 S x1 x2 x3 x4 = some r → kr_AW (m_W_law X L) 15 23 [(0, va_rf (some 2)), (1, va_rf x1), (2, va_rf x2), (3, va_rf x3), (4, .int x4)] [] S (kr_eI r)) {S : AS} {x1 : Option Nat} {x2 : Option Nat} {x3 : Option Nat} {x4 : Int32} {r : (Int32 × AS)} (h : f_W_law_B2698 X L k23 S x1 x2 x3 x4 = some r) : kr_AW (m_W_law X L) 15 2698 [(0, va_rf (some 2)), (1, va_rf x1), (2, va_rf x2), (3, va_rf x3), (4, .int x4)] [] S (kr_eI r) := by
  unfold f_W_law_B2698 at h
  refine r_aload_n (i := 1) (x := x1) 1 rfl d_W_law_2698 ?_
  refine r_aload_n (i := 0) (x := (some 2)) 0 rfl d_W_law_2699 ?_
  refine r_iload (i := 4) (x := x4) 4 rfl d_W_law_2700 ?_
  refine r_iconst (v := (1 : Int32)) (by decide) d_W_law_2702 ?_
  refine r_iadd d_W_law_2703 ?_
  have h2 := kr_ob h
  clear h
  obtain ⟨v466, ev466, h⟩ := h2
  refine r_sload rfl ev466 d_W_law_2704 ?_
  refine r_aload_n (i := 3) (x := x3) 3 rfl d_W_law_2705 ?_
  have h2 := kr_ob2 h
  clear h
  obtain ⟨v468, S467, eS467, h⟩ := h2
  refine r_callSX (M1 := m_W_lag) (As := [va_rf x1, .int v466, va_rf x3]) (s_W_lag eS467) mok_W_lag (by decide) w1289 w1290 (by decide) (kr_c8 kr_c0) d_W_law_2706 (kr_k1 ?_) kr_kn
  refine r_istore (i := 5) (lv' := [(5, .int v468), (0, va_rf (some 2)), (1, va_rf x1), (2, va_rf x2), (3, va_rf x3), (4, .int x4)]) (by show (5 : Nat) < 7; decide) rfl d_W_law_2709 ?_
  refine r_aload_n (i := 2) (x := x2) 3 rfl d_W_law_2711 ?_
  refine r_aload_n (i := 0) (x := (some 2)) 1 rfl d_W_law_2712 ?_
  refine r_iload (i := 4) (x := x4) 5 rfl d_W_law_2713 ?_
  refine r_iconst (v := (1 : Int32)) (by decide) d_W_law_2715 ?_
  refine r_iadd d_W_law_2716 ?_
  have h2 := kr_ob h
  clear h
  obtain ⟨v469, ev469, h⟩ := h2
  refine r_sload rfl ev469 d_W_law_2717 ?_
  have h2 := kr_ob h
  clear h
  obtain ⟨⟨⟩, eu470, h⟩ := h2
  have h2 := kr_ob2 h
  clear h
  obtain ⟨v472, S471, eS471, h⟩ := h2
  refine r_callV (M1 := m_M_lag) (κ := 23) (As := [.int v469]) eu470 (s_M_lag eS471) mok_M_lag rfl (by decide) rfl w2002 w2003 w2004 (by decide) (kr_c8 kr_c0) d_W_law_2718 (kr_k1 ?_) kr_kn
  refine r_istore (i := 6) (lv' := [(6, .int v472), (5, .int v468), (0, va_rf (some 2)), (1, va_rf x1), (2, va_rf x2), (3, va_rf x3), (4, .int x4)]) (by show (6 : Nat) < 7; decide) rfl d_W_law_2721 ?_
  refine r_aload_n (i := 2) (x := x2) 4 rfl d_W_law_2723 ?_
  have h2 := kr_ob h
  clear h
  obtain ⟨⟨⟩, eu473, h⟩ := h2
  have h2 := kr_ob2 h
  clear h
  obtain ⟨v475, S474, eS474, h⟩ := h2
  refine r_callV (M1 := m_M_thrown) (κ := 23) (As := []) eu473 (s_M_thrown eS474) mok_M_thrown rfl (by decide) rfl w1688 w1689 w1690 (by decide) (kr_c8 kr_c0) d_W_law_2724 (kr_k1 ?_) kr_kn
  refine r_iload (i := 5) (x := v468) 1 rfl d_W_law_2727 ?_
  refine r_icmp_eq (tgt := 2734) d_W_law_2729 rfl (fun c => ?_) (fun c => ?_)
  · replace h := kr_ip c h
    refine r_iload (i := 5) (x := v468) 1 rfl d_W_law_2734 ?_
    refine r_if_ne (tgt := 2751) d_W_law_2736 rfl (fun c => ?_) (fun c => ?_)
    · replace h := kr_ip c h
      refine r_aload_n (i := 3) (x := x3) 5 rfl d_W_law_2739 ?_
      refine r_iconst (v := (0 : Int32)) (by decide) d_W_law_2740 ?_
      have h2 := kr_ob h
      clear h
      obtain ⟨v476, ev476, h⟩ := h2
      refine r_laload ev476 d_W_law_2741 ?_
      refine r_iload (i := 6) (x := v472) 0 rfl d_W_law_2742 ?_
      refine r_i2l d_W_law_2744 ?_
      refine r_lcmp d_W_law_2745 ?_
      refine r_if_eq (tgt := 2751) d_W_law_2746 rfl (fun c => ?_) (fun c => ?_)
      · replace h := kr_ip c h
        refine r_goto (tgt := 3320) d_W_law_2751 rfl ?_
        exact kr_sub [2, 3, 4, 5, 6] rfl (s_W_law_B3320 hk23 h)
      · replace h := kr_in_ c h
        refine r_iconst (v := (0 : Int32)) (by decide) d_W_law_2749 ?_
        cases h
        exact r_zret rfl rfl d_W_law_2750
    · replace h := kr_in_ c h
      refine r_goto (tgt := 3320) d_W_law_2751 rfl ?_
      exact kr_sub [2, 3, 4, 5, 6] rfl (s_W_law_B3320 hk23 h)
  · replace h := kr_in_ c h
    refine r_iconst (v := (0 : Int32)) (by decide) d_W_law_2732 ?_
    cases h
    exact r_zret rfl rfl d_W_law_2733
set_option maxRecDepth 20000 in
set_option maxHeartbeats 4000000 in
theorem s_W_law_B2754 {X : Nat → Int32} {L : Nat} {k23 : AS → Option Nat → Option Nat → Option Nat → Int32 → Option (Int32 × AS)} (hk23 : ∀ {S : AS} {x1 : Option Nat} {x2 : Option Nat} {x3 : Option Nat} {x4 : Int32} {r : (Int32 × AS)}, k23 S x1 x2 x3 x4 = some r → kr_AW (m_W_law X L) 15 23 [(0, va_rf (some 2)), (1, va_rf x1), (2, va_rf x2), (3, va_rf x3), (4, .int x4)] [] S (kr_eI r)) {S : AS} {x1 : Option Nat} {x2 : Option Nat} {x3 : Option Nat} {x4 : Int32} {r : (Int32 × AS)} (h : f_W_law_B2754 X L k23 S x1 x2 x3 x4 = some r) : kr_AW (m_W_law X L) 15 2754 [(0, va_rf (some 2)), (1, va_rf x1), (2, va_rf x2), (3, va_rf x3), (4, .int x4)] [] S (kr_eI r) := by
  unfold f_W_law_B2754 at h
  refine r_aload_n (i := 1) (x := x1) 1 rfl d_W_law_2754 ?_
  refine r_aload_n (i := 0) (x := (some 2)) 0 rfl d_W_law_2755 ?_
  refine r_iload (i := 4) (x := x4) 4 rfl d_W_law_2756 ?_
  refine r_iconst (v := (1 : Int32)) (by decide) d_W_law_2758 ?_
  refine r_iadd d_W_law_2759 ?_
  have h2 := kr_ob h
  clear h
  obtain ⟨v477, ev477, h⟩ := h2
  refine r_sload rfl ev477 d_W_law_2760 ?_
  refine r_aload_n (i := 3) (x := x3) 3 rfl d_W_law_2761 ?_
  have h2 := kr_ob2 h
  clear h
  obtain ⟨v479, S478, eS478, h⟩ := h2
  refine r_callSX (M1 := m_W_recover) (As := [va_rf x1, .int v477, va_rf x3]) (s_W_recover eS478) mok_W_recover (by decide) w1297 w1298 (by decide) (kr_c8 kr_c0) d_W_law_2762 (kr_k1 ?_) kr_kn
  refine r_istore (i := 5) (lv' := [(5, .int v479), (0, va_rf (some 2)), (1, va_rf x1), (2, va_rf x2), (3, va_rf x3), (4, .int x4)]) (by show (5 : Nat) < 7; decide) rfl d_W_law_2765 ?_
  refine r_aload_n (i := 2) (x := x2) 3 rfl d_W_law_2767 ?_
  refine r_aload_n (i := 0) (x := (some 2)) 1 rfl d_W_law_2768 ?_
  refine r_iload (i := 4) (x := x4) 5 rfl d_W_law_2769 ?_
  refine r_iconst (v := (1 : Int32)) (by decide) d_W_law_2771 ?_
  refine r_iadd d_W_law_2772 ?_
  have h2 := kr_ob h
  clear h
  obtain ⟨v480, ev480, h⟩ := h2
  refine r_sload rfl ev480 d_W_law_2773 ?_
  have h2 := kr_ob h
  clear h
  obtain ⟨⟨⟩, eu481, h⟩ := h2
  have h2 := kr_ob2 h
  clear h
  obtain ⟨v483, S482, eS482, h⟩ := h2
  refine r_callV (M1 := m_M_recover) (κ := 23) (As := [.int v480]) eu481 (s_M_recover eS482) mok_M_recover rfl (by decide) rfl w2006 w2007 w2008 (by decide) (kr_c8 kr_c0) d_W_law_2774 (kr_k1 ?_) kr_kn
  refine r_istore (i := 6) (lv' := [(6, .int v483), (5, .int v479), (0, va_rf (some 2)), (1, va_rf x1), (2, va_rf x2), (3, va_rf x3), (4, .int x4)]) (by show (6 : Nat) < 7; decide) rfl d_W_law_2777 ?_
  refine r_aload_n (i := 2) (x := x2) 4 rfl d_W_law_2779 ?_
  have h2 := kr_ob h
  clear h
  obtain ⟨⟨⟩, eu484, h⟩ := h2
  have h2 := kr_ob2 h
  clear h
  obtain ⟨v486, S485, eS485, h⟩ := h2
  refine r_callV (M1 := m_M_thrown) (κ := 23) (As := []) eu484 (s_M_thrown eS485) mok_M_thrown rfl (by decide) rfl w1688 w1689 w1690 (by decide) (kr_c8 kr_c0) d_W_law_2780 (kr_k1 ?_) kr_kn
  refine r_iload (i := 5) (x := v479) 1 rfl d_W_law_2783 ?_
  refine r_icmp_eq (tgt := 2790) d_W_law_2785 rfl (fun c => ?_) (fun c => ?_)
  · replace h := kr_ip c h
    refine r_iload (i := 5) (x := v479) 1 rfl d_W_law_2790 ?_
    refine r_if_ne (tgt := 2807) d_W_law_2792 rfl (fun c => ?_) (fun c => ?_)
    · replace h := kr_ip c h
      refine r_aload_n (i := 3) (x := x3) 5 rfl d_W_law_2795 ?_
      refine r_iconst (v := (0 : Int32)) (by decide) d_W_law_2796 ?_
      have h2 := kr_ob h
      clear h
      obtain ⟨v487, ev487, h⟩ := h2
      refine r_laload ev487 d_W_law_2797 ?_
      refine r_iload (i := 6) (x := v483) 0 rfl d_W_law_2798 ?_
      refine r_i2l d_W_law_2800 ?_
      refine r_lcmp d_W_law_2801 ?_
      refine r_if_eq (tgt := 2807) d_W_law_2802 rfl (fun c => ?_) (fun c => ?_)
      · replace h := kr_ip c h
        refine r_goto (tgt := 3320) d_W_law_2807 rfl ?_
        exact kr_sub [2, 3, 4, 5, 6] rfl (s_W_law_B3320 hk23 h)
      · replace h := kr_in_ c h
        refine r_iconst (v := (0 : Int32)) (by decide) d_W_law_2805 ?_
        cases h
        exact r_zret rfl rfl d_W_law_2806
    · replace h := kr_in_ c h
      refine r_goto (tgt := 3320) d_W_law_2807 rfl ?_
      exact kr_sub [2, 3, 4, 5, 6] rfl (s_W_law_B3320 hk23 h)
  · replace h := kr_in_ c h
    refine r_iconst (v := (0 : Int32)) (by decide) d_W_law_2788 ?_
    cases h
    exact r_zret rfl rfl d_W_law_2789
set_option maxRecDepth 20000 in
set_option maxHeartbeats 4000000 in
theorem s_W_law_B2810 {X : Nat → Int32} {L : Nat} {k23 : AS → Option Nat → Option Nat → Option Nat → Int32 → Option (Int32 × AS)} (hk23 : ∀ {S : AS} {x1 : Option Nat} {x2 : Option Nat} {x3 : Option Nat} {x4 : Int32} {r : (Int32 × AS)}, k23 S x1 x2 x3 x4 = some r → kr_AW (m_W_law X L) 15 23 [(0, va_rf (some 2)), (1, va_rf x1), (2, va_rf x2), (3, va_rf x3), (4, .int x4)] [] S (kr_eI r)) {S : AS} {x1 : Option Nat} {x2 : Option Nat} {x3 : Option Nat} {x4 : Int32} {r : (Int32 × AS)} (h : f_W_law_B2810 X L k23 S x1 x2 x3 x4 = some r) : kr_AW (m_W_law X L) 15 2810 [(0, va_rf (some 2)), (1, va_rf x1), (2, va_rf x2), (3, va_rf x3), (4, .int x4)] [] S (kr_eI r) := by
  unfold f_W_law_B2810 at h
  refine r_aload_n (i := 1) (x := x1) 1 rfl d_W_law_2810 ?_
  refine r_aload_n (i := 0) (x := (some 2)) 0 rfl d_W_law_2811 ?_
  refine r_iload (i := 4) (x := x4) 4 rfl d_W_law_2812 ?_
  refine r_iconst (v := (1 : Int32)) (by decide) d_W_law_2814 ?_
  refine r_iadd d_W_law_2815 ?_
  have h2 := kr_ob h
  clear h
  obtain ⟨v488, ev488, h⟩ := h2
  refine r_sload rfl ev488 d_W_law_2816 ?_
  refine r_aload_n (i := 0) (x := (some 2)) 0 rfl d_W_law_2817 ?_
  refine r_iload (i := 4) (x := x4) 4 rfl d_W_law_2818 ?_
  refine r_iconst (v := (2 : Int32)) (by decide) d_W_law_2820 ?_
  refine r_iadd d_W_law_2821 ?_
  have h2 := kr_ob h
  clear h
  obtain ⟨v489, ev489, h⟩ := h2
  refine r_sload rfl ev489 d_W_law_2822 ?_
  refine r_aload_n (i := 3) (x := x3) 3 rfl d_W_law_2823 ?_
  have h2 := kr_ob2 h
  clear h
  obtain ⟨v491, S490, eS490, h⟩ := h2
  refine r_callSX (M1 := m_W_vouch) (As := [va_rf x1, .int v488, .int v489, va_rf x3]) (s_W_vouch eS490) mok_W_vouch (by decide) w1334 w1335 (by decide) (kr_c8 kr_c0) d_W_law_2824 (kr_k1 ?_) kr_kn
  refine r_istore (i := 5) (lv' := [(5, .int v491), (0, va_rf (some 2)), (1, va_rf x1), (2, va_rf x2), (3, va_rf x3), (4, .int x4)]) (by show (5 : Nat) < 7; decide) rfl d_W_law_2827 ?_
  refine r_aload_n (i := 2) (x := x2) 3 rfl d_W_law_2829 ?_
  refine r_aload_n (i := 0) (x := (some 2)) 1 rfl d_W_law_2830 ?_
  refine r_iload (i := 4) (x := x4) 5 rfl d_W_law_2831 ?_
  refine r_iconst (v := (1 : Int32)) (by decide) d_W_law_2833 ?_
  refine r_iadd d_W_law_2834 ?_
  have h2 := kr_ob h
  clear h
  obtain ⟨v492, ev492, h⟩ := h2
  refine r_sload rfl ev492 d_W_law_2835 ?_
  refine r_aload_n (i := 0) (x := (some 2)) 1 rfl d_W_law_2836 ?_
  refine r_iload (i := 4) (x := x4) 5 rfl d_W_law_2837 ?_
  refine r_iconst (v := (2 : Int32)) (by decide) d_W_law_2839 ?_
  refine r_iadd d_W_law_2840 ?_
  have h2 := kr_ob h
  clear h
  obtain ⟨v493, ev493, h⟩ := h2
  refine r_sload rfl ev493 d_W_law_2841 ?_
  have h2 := kr_ob h
  clear h
  obtain ⟨⟨⟩, eu494, h⟩ := h2
  have h2 := kr_ob2 h
  clear h
  obtain ⟨v496, S495, eS495, h⟩ := h2
  refine r_callV (M1 := m_M_vouch) (κ := 23) (As := [.int v492, .int v493]) eu494 (s_M_vouch eS495) mok_M_vouch rfl (by decide) rfl w2010 w2011 w2012 (by decide) (kr_c8 kr_c0) d_W_law_2842 (kr_k1 ?_) kr_kn
  refine r_istore (i := 6) (lv' := [(6, .int v496), (5, .int v491), (0, va_rf (some 2)), (1, va_rf x1), (2, va_rf x2), (3, va_rf x3), (4, .int x4)]) (by show (6 : Nat) < 7; decide) rfl d_W_law_2845 ?_
  refine r_aload_n (i := 2) (x := x2) 4 rfl d_W_law_2847 ?_
  have h2 := kr_ob h
  clear h
  obtain ⟨⟨⟩, eu497, h⟩ := h2
  have h2 := kr_ob2 h
  clear h
  obtain ⟨v499, S498, eS498, h⟩ := h2
  refine r_callV (M1 := m_M_thrown) (κ := 23) (As := []) eu497 (s_M_thrown eS498) mok_M_thrown rfl (by decide) rfl w1688 w1689 w1690 (by decide) (kr_c8 kr_c0) d_W_law_2848 (kr_k1 ?_) kr_kn
  refine r_iload (i := 5) (x := v491) 1 rfl d_W_law_2851 ?_
  refine r_icmp_eq (tgt := 2858) d_W_law_2853 rfl (fun c => ?_) (fun c => ?_)
  · replace h := kr_ip c h
    refine r_iload (i := 5) (x := v491) 1 rfl d_W_law_2858 ?_
    refine r_if_ne (tgt := 2875) d_W_law_2860 rfl (fun c => ?_) (fun c => ?_)
    · replace h := kr_ip c h
      refine r_aload_n (i := 3) (x := x3) 5 rfl d_W_law_2863 ?_
      refine r_iconst (v := (0 : Int32)) (by decide) d_W_law_2864 ?_
      have h2 := kr_ob h
      clear h
      obtain ⟨v500, ev500, h⟩ := h2
      refine r_laload ev500 d_W_law_2865 ?_
      refine r_iload (i := 6) (x := v496) 0 rfl d_W_law_2866 ?_
      refine r_i2l d_W_law_2868 ?_
      refine r_lcmp d_W_law_2869 ?_
      refine r_if_eq (tgt := 2875) d_W_law_2870 rfl (fun c => ?_) (fun c => ?_)
      · replace h := kr_ip c h
        refine r_goto (tgt := 3320) d_W_law_2875 rfl ?_
        exact kr_sub [2, 3, 4, 5, 6] rfl (s_W_law_B3320 hk23 h)
      · replace h := kr_in_ c h
        refine r_iconst (v := (0 : Int32)) (by decide) d_W_law_2873 ?_
        cases h
        exact r_zret rfl rfl d_W_law_2874
    · replace h := kr_in_ c h
      refine r_goto (tgt := 3320) d_W_law_2875 rfl ?_
      exact kr_sub [2, 3, 4, 5, 6] rfl (s_W_law_B3320 hk23 h)
  · replace h := kr_in_ c h
    refine r_iconst (v := (0 : Int32)) (by decide) d_W_law_2856 ?_
    cases h
    exact r_zret rfl rfl d_W_law_2857
set_option maxRecDepth 20000 in
set_option maxHeartbeats 4000000 in
theorem s_W_law_B2878 {X : Nat → Int32} {L : Nat} {k23 : AS → Option Nat → Option Nat → Option Nat → Int32 → Option (Int32 × AS)} (hk23 : ∀ {S : AS} {x1 : Option Nat} {x2 : Option Nat} {x3 : Option Nat} {x4 : Int32} {r : (Int32 × AS)}, k23 S x1 x2 x3 x4 = some r → kr_AW (m_W_law X L) 15 23 [(0, va_rf (some 2)), (1, va_rf x1), (2, va_rf x2), (3, va_rf x3), (4, .int x4)] [] S (kr_eI r)) {S : AS} {x1 : Option Nat} {x2 : Option Nat} {x3 : Option Nat} {x4 : Int32} {r : (Int32 × AS)} (h : f_W_law_B2878 X L k23 S x1 x2 x3 x4 = some r) : kr_AW (m_W_law X L) 15 2878 [(0, va_rf (some 2)), (1, va_rf x1), (2, va_rf x2), (3, va_rf x3), (4, .int x4)] [] S (kr_eI r) := by
  unfold f_W_law_B2878 at h
  refine r_aload_n (i := 1) (x := x1) 1 rfl d_W_law_2878 ?_
  refine r_aload_n (i := 0) (x := (some 2)) 0 rfl d_W_law_2879 ?_
  refine r_iload (i := 4) (x := x4) 4 rfl d_W_law_2880 ?_
  refine r_iconst (v := (1 : Int32)) (by decide) d_W_law_2882 ?_
  refine r_iadd d_W_law_2883 ?_
  have h2 := kr_ob h
  clear h
  obtain ⟨v501, ev501, h⟩ := h2
  refine r_sload rfl ev501 d_W_law_2884 ?_
  refine r_aload_n (i := 0) (x := (some 2)) 0 rfl d_W_law_2885 ?_
  refine r_iload (i := 4) (x := x4) 4 rfl d_W_law_2886 ?_
  refine r_iconst (v := (2 : Int32)) (by decide) d_W_law_2888 ?_
  refine r_iadd d_W_law_2889 ?_
  have h2 := kr_ob h
  clear h
  obtain ⟨v502, ev502, h⟩ := h2
  refine r_sload rfl ev502 d_W_law_2890 ?_
  refine r_aload_n (i := 3) (x := x3) 3 rfl d_W_law_2891 ?_
  have h2 := kr_ob2 h
  clear h
  obtain ⟨v504, S503, eS503, h⟩ := h2
  refine r_callSX (M1 := m_W_stop) (As := [va_rf x1, .int v501, .int v502, va_rf x3]) (s_W_stop eS503) mok_W_stop (by decide) w1345 w1346 (by decide) (kr_c8 kr_c0) d_W_law_2892 (kr_k1 ?_) kr_kn
  refine r_istore (i := 5) (lv' := [(5, .int v504), (0, va_rf (some 2)), (1, va_rf x1), (2, va_rf x2), (3, va_rf x3), (4, .int x4)]) (by show (5 : Nat) < 7; decide) rfl d_W_law_2895 ?_
  refine r_aload_n (i := 2) (x := x2) 3 rfl d_W_law_2897 ?_
  refine r_aload_n (i := 0) (x := (some 2)) 1 rfl d_W_law_2898 ?_
  refine r_iload (i := 4) (x := x4) 5 rfl d_W_law_2899 ?_
  refine r_iconst (v := (1 : Int32)) (by decide) d_W_law_2901 ?_
  refine r_iadd d_W_law_2902 ?_
  have h2 := kr_ob h
  clear h
  obtain ⟨v505, ev505, h⟩ := h2
  refine r_sload rfl ev505 d_W_law_2903 ?_
  refine r_aload_n (i := 0) (x := (some 2)) 1 rfl d_W_law_2904 ?_
  refine r_iload (i := 4) (x := x4) 5 rfl d_W_law_2905 ?_
  refine r_iconst (v := (2 : Int32)) (by decide) d_W_law_2907 ?_
  refine r_iadd d_W_law_2908 ?_
  have h2 := kr_ob h
  clear h
  obtain ⟨v506, ev506, h⟩ := h2
  refine r_sload rfl ev506 d_W_law_2909 ?_
  have h2 := kr_ob h
  clear h
  obtain ⟨⟨⟩, eu507, h⟩ := h2
  have h2 := kr_ob2 h
  clear h
  obtain ⟨v509, S508, eS508, h⟩ := h2
  refine r_callV (M1 := m_M_stop) (κ := 23) (As := [.int v505, .int v506]) eu507 (s_M_stop eS508) mok_M_stop rfl (by decide) rfl w2022 w2023 w2024 (by decide) (kr_c8 kr_c0) d_W_law_2910 (kr_k1 ?_) kr_kn
  refine r_istore (i := 6) (lv' := [(6, .int v509), (5, .int v504), (0, va_rf (some 2)), (1, va_rf x1), (2, va_rf x2), (3, va_rf x3), (4, .int x4)]) (by show (6 : Nat) < 7; decide) rfl d_W_law_2913 ?_
  refine r_aload_n (i := 2) (x := x2) 4 rfl d_W_law_2915 ?_
  have h2 := kr_ob h
  clear h
  obtain ⟨⟨⟩, eu510, h⟩ := h2
  have h2 := kr_ob2 h
  clear h
  obtain ⟨v512, S511, eS511, h⟩ := h2
  refine r_callV (M1 := m_M_thrown) (κ := 23) (As := []) eu510 (s_M_thrown eS511) mok_M_thrown rfl (by decide) rfl w1688 w1689 w1690 (by decide) (kr_c8 kr_c0) d_W_law_2916 (kr_k1 ?_) kr_kn
  refine r_iload (i := 5) (x := v504) 1 rfl d_W_law_2919 ?_
  refine r_icmp_eq (tgt := 2926) d_W_law_2921 rfl (fun c => ?_) (fun c => ?_)
  · replace h := kr_ip c h
    refine r_iload (i := 5) (x := v504) 1 rfl d_W_law_2926 ?_
    refine r_if_ne (tgt := 2943) d_W_law_2928 rfl (fun c => ?_) (fun c => ?_)
    · replace h := kr_ip c h
      refine r_aload_n (i := 3) (x := x3) 5 rfl d_W_law_2931 ?_
      refine r_iconst (v := (0 : Int32)) (by decide) d_W_law_2932 ?_
      have h2 := kr_ob h
      clear h
      obtain ⟨v513, ev513, h⟩ := h2
      refine r_laload ev513 d_W_law_2933 ?_
      refine r_iload (i := 6) (x := v509) 0 rfl d_W_law_2934 ?_
      refine r_i2l d_W_law_2936 ?_
      refine r_lcmp d_W_law_2937 ?_
      refine r_if_eq (tgt := 2943) d_W_law_2938 rfl (fun c => ?_) (fun c => ?_)
      · replace h := kr_ip c h
        refine r_goto (tgt := 3320) d_W_law_2943 rfl ?_
        exact kr_sub [2, 3, 4, 5, 6] rfl (s_W_law_B3320 hk23 h)
      · replace h := kr_in_ c h
        refine r_iconst (v := (0 : Int32)) (by decide) d_W_law_2941 ?_
        cases h
        exact r_zret rfl rfl d_W_law_2942
    · replace h := kr_in_ c h
      refine r_goto (tgt := 3320) d_W_law_2943 rfl ?_
      exact kr_sub [2, 3, 4, 5, 6] rfl (s_W_law_B3320 hk23 h)
  · replace h := kr_in_ c h
    refine r_iconst (v := (0 : Int32)) (by decide) d_W_law_2924 ?_
    cases h
    exact r_zret rfl rfl d_W_law_2925
set_option maxRecDepth 20000 in
set_option maxHeartbeats 4000000 in
theorem s_W_law_B2946 {X : Nat → Int32} {L : Nat} {k23 : AS → Option Nat → Option Nat → Option Nat → Int32 → Option (Int32 × AS)} (hk23 : ∀ {S : AS} {x1 : Option Nat} {x2 : Option Nat} {x3 : Option Nat} {x4 : Int32} {r : (Int32 × AS)}, k23 S x1 x2 x3 x4 = some r → kr_AW (m_W_law X L) 15 23 [(0, va_rf (some 2)), (1, va_rf x1), (2, va_rf x2), (3, va_rf x3), (4, .int x4)] [] S (kr_eI r)) {S : AS} {x1 : Option Nat} {x2 : Option Nat} {x3 : Option Nat} {x4 : Int32} {r : (Int32 × AS)} (h : f_W_law_B2946 X L k23 S x1 x2 x3 x4 = some r) : kr_AW (m_W_law X L) 15 2946 [(0, va_rf (some 2)), (1, va_rf x1), (2, va_rf x2), (3, va_rf x3), (4, .int x4)] [] S (kr_eI r) := by
  unfold f_W_law_B2946 at h
  refine r_aload_n (i := 1) (x := x1) 1 rfl d_W_law_2946 ?_
  refine r_aload_n (i := 0) (x := (some 2)) 0 rfl d_W_law_2947 ?_
  refine r_iload (i := 4) (x := x4) 4 rfl d_W_law_2948 ?_
  refine r_iconst (v := (1 : Int32)) (by decide) d_W_law_2950 ?_
  refine r_iadd d_W_law_2951 ?_
  have h2 := kr_ob h
  clear h
  obtain ⟨v514, ev514, h⟩ := h2
  refine r_sload rfl ev514 d_W_law_2952 ?_
  refine r_aload_n (i := 3) (x := x3) 3 rfl d_W_law_2953 ?_
  have h2 := kr_ob2 h
  clear h
  obtain ⟨v516, S515, eS515, h⟩ := h2
  refine r_callSX (M1 := m_W_finish) (As := [va_rf x1, .int v514, va_rf x3]) (s_W_finish eS515) mok_W_finish (by decide) w1362 w1363 (by decide) (kr_c8 kr_c0) d_W_law_2954 (kr_k1 ?_) kr_kn
  refine r_istore (i := 5) (lv' := [(5, .int v516), (0, va_rf (some 2)), (1, va_rf x1), (2, va_rf x2), (3, va_rf x3), (4, .int x4)]) (by show (5 : Nat) < 7; decide) rfl d_W_law_2957 ?_
  refine r_aload_n (i := 2) (x := x2) 3 rfl d_W_law_2959 ?_
  refine r_aload_n (i := 0) (x := (some 2)) 1 rfl d_W_law_2960 ?_
  refine r_iload (i := 4) (x := x4) 5 rfl d_W_law_2961 ?_
  refine r_iconst (v := (1 : Int32)) (by decide) d_W_law_2963 ?_
  refine r_iadd d_W_law_2964 ?_
  have h2 := kr_ob h
  clear h
  obtain ⟨v517, ev517, h⟩ := h2
  refine r_sload rfl ev517 d_W_law_2965 ?_
  have h2 := kr_ob h
  clear h
  obtain ⟨⟨⟩, eu518, h⟩ := h2
  have h2 := kr_ob2 h
  clear h
  obtain ⟨v520, S519, eS519, h⟩ := h2
  refine r_callV (M1 := m_M_finish) (κ := 23) (As := [.int v517]) eu518 (s_M_finish eS519) mok_M_finish rfl (by decide) rfl w2029 w2030 w2031 (by decide) (kr_c8 kr_c0) d_W_law_2966 (kr_k1 ?_) kr_kn
  refine r_istore (i := 6) (lv' := [(6, .int v520), (5, .int v516), (0, va_rf (some 2)), (1, va_rf x1), (2, va_rf x2), (3, va_rf x3), (4, .int x4)]) (by show (6 : Nat) < 7; decide) rfl d_W_law_2969 ?_
  refine r_aload_n (i := 2) (x := x2) 4 rfl d_W_law_2971 ?_
  have h2 := kr_ob h
  clear h
  obtain ⟨⟨⟩, eu521, h⟩ := h2
  have h2 := kr_ob2 h
  clear h
  obtain ⟨v523, S522, eS522, h⟩ := h2
  refine r_callV (M1 := m_M_thrown) (κ := 23) (As := []) eu521 (s_M_thrown eS522) mok_M_thrown rfl (by decide) rfl w1688 w1689 w1690 (by decide) (kr_c8 kr_c0) d_W_law_2972 (kr_k1 ?_) kr_kn
  refine r_iload (i := 5) (x := v516) 1 rfl d_W_law_2975 ?_
  refine r_icmp_eq (tgt := 2982) d_W_law_2977 rfl (fun c => ?_) (fun c => ?_)
  · replace h := kr_ip c h
    refine r_iload (i := 5) (x := v516) 1 rfl d_W_law_2982 ?_
    refine r_if_ne (tgt := 2999) d_W_law_2984 rfl (fun c => ?_) (fun c => ?_)
    · replace h := kr_ip c h
      refine r_aload_n (i := 3) (x := x3) 5 rfl d_W_law_2987 ?_
      refine r_iconst (v := (0 : Int32)) (by decide) d_W_law_2988 ?_
      have h2 := kr_ob h
      clear h
      obtain ⟨v524, ev524, h⟩ := h2
      refine r_laload ev524 d_W_law_2989 ?_
      refine r_iload (i := 6) (x := v520) 0 rfl d_W_law_2990 ?_
      refine r_i2l d_W_law_2992 ?_
      refine r_lcmp d_W_law_2993 ?_
      refine r_if_eq (tgt := 2999) d_W_law_2994 rfl (fun c => ?_) (fun c => ?_)
      · replace h := kr_ip c h
        refine r_goto (tgt := 3320) d_W_law_2999 rfl ?_
        exact kr_sub [2, 3, 4, 5, 6] rfl (s_W_law_B3320 hk23 h)
      · replace h := kr_in_ c h
        refine r_iconst (v := (0 : Int32)) (by decide) d_W_law_2997 ?_
        cases h
        exact r_zret rfl rfl d_W_law_2998
    · replace h := kr_in_ c h
      refine r_goto (tgt := 3320) d_W_law_2999 rfl ?_
      exact kr_sub [2, 3, 4, 5, 6] rfl (s_W_law_B3320 hk23 h)
  · replace h := kr_in_ c h
    refine r_iconst (v := (0 : Int32)) (by decide) d_W_law_2980 ?_
    cases h
    exact r_zret rfl rfl d_W_law_2981
set_option maxRecDepth 20000 in
set_option maxHeartbeats 4000000 in
theorem s_W_law_B3002 {X : Nat → Int32} {L : Nat} {k23 : AS → Option Nat → Option Nat → Option Nat → Int32 → Option (Int32 × AS)} (hk23 : ∀ {S : AS} {x1 : Option Nat} {x2 : Option Nat} {x3 : Option Nat} {x4 : Int32} {r : (Int32 × AS)}, k23 S x1 x2 x3 x4 = some r → kr_AW (m_W_law X L) 15 23 [(0, va_rf (some 2)), (1, va_rf x1), (2, va_rf x2), (3, va_rf x3), (4, .int x4)] [] S (kr_eI r)) {S : AS} {x1 : Option Nat} {x2 : Option Nat} {x3 : Option Nat} {x4 : Int32} {r : (Int32 × AS)} (h : f_W_law_B3002 X L k23 S x1 x2 x3 x4 = some r) : kr_AW (m_W_law X L) 15 3002 [(0, va_rf (some 2)), (1, va_rf x1), (2, va_rf x2), (3, va_rf x3), (4, .int x4)] [] S (kr_eI r) := by
  unfold f_W_law_B3002 at h
  refine r_aload_n (i := 1) (x := x1) 1 rfl d_W_law_3002 ?_
  refine r_aload_n (i := 0) (x := (some 2)) 0 rfl d_W_law_3003 ?_
  refine r_iload (i := 4) (x := x4) 4 rfl d_W_law_3004 ?_
  refine r_iconst (v := (1 : Int32)) (by decide) d_W_law_3006 ?_
  refine r_iadd d_W_law_3007 ?_
  have h2 := kr_ob h
  clear h
  obtain ⟨v525, ev525, h⟩ := h2
  refine r_sload rfl ev525 d_W_law_3008 ?_
  refine r_aload_n (i := 0) (x := (some 2)) 0 rfl d_W_law_3009 ?_
  refine r_iload (i := 4) (x := x4) 4 rfl d_W_law_3010 ?_
  refine r_iconst (v := (2 : Int32)) (by decide) d_W_law_3012 ?_
  refine r_iadd d_W_law_3013 ?_
  have h2 := kr_ob h
  clear h
  obtain ⟨v526, ev526, h⟩ := h2
  refine r_sload rfl ev526 d_W_law_3014 ?_
  refine r_aload_n (i := 3) (x := x3) 3 rfl d_W_law_3015 ?_
  have h2 := kr_ob2 h
  clear h
  obtain ⟨v528, S527, eS527, h⟩ := h2
  refine r_callSX (M1 := m_W_link) (As := [va_rf x1, .int v525, .int v526, va_rf x3]) (s_W_link eS527) mok_W_link (by decide) w1382 w1383 (by decide) (kr_c8 kr_c0) d_W_law_3016 (kr_k1 ?_) kr_kn
  refine r_istore (i := 5) (lv' := [(5, .int v528), (0, va_rf (some 2)), (1, va_rf x1), (2, va_rf x2), (3, va_rf x3), (4, .int x4)]) (by show (5 : Nat) < 7; decide) rfl d_W_law_3019 ?_
  refine r_aload_n (i := 2) (x := x2) 3 rfl d_W_law_3021 ?_
  refine r_aload_n (i := 0) (x := (some 2)) 1 rfl d_W_law_3022 ?_
  refine r_iload (i := 4) (x := x4) 5 rfl d_W_law_3023 ?_
  refine r_iconst (v := (1 : Int32)) (by decide) d_W_law_3025 ?_
  refine r_iadd d_W_law_3026 ?_
  have h2 := kr_ob h
  clear h
  obtain ⟨v529, ev529, h⟩ := h2
  refine r_sload rfl ev529 d_W_law_3027 ?_
  refine r_aload_n (i := 0) (x := (some 2)) 1 rfl d_W_law_3028 ?_
  refine r_iload (i := 4) (x := x4) 5 rfl d_W_law_3029 ?_
  refine r_iconst (v := (2 : Int32)) (by decide) d_W_law_3031 ?_
  refine r_iadd d_W_law_3032 ?_
  have h2 := kr_ob h
  clear h
  obtain ⟨v530, ev530, h⟩ := h2
  refine r_sload rfl ev530 d_W_law_3033 ?_
  have h2 := kr_ob h
  clear h
  obtain ⟨⟨⟩, eu531, h⟩ := h2
  have h2 := kr_ob2 h
  clear h
  obtain ⟨v533, S532, eS532, h⟩ := h2
  refine r_callV (M1 := m_M_link) (κ := 23) (As := [.int v529, .int v530]) eu531 (s_M_link eS532) mok_M_link rfl (by decide) rfl w2040 w2041 w2042 (by decide) (kr_c8 kr_c0) d_W_law_3034 (kr_k1 ?_) kr_kn
  refine r_istore (i := 6) (lv' := [(6, .int v533), (5, .int v528), (0, va_rf (some 2)), (1, va_rf x1), (2, va_rf x2), (3, va_rf x3), (4, .int x4)]) (by show (6 : Nat) < 7; decide) rfl d_W_law_3037 ?_
  refine r_aload_n (i := 2) (x := x2) 4 rfl d_W_law_3039 ?_
  have h2 := kr_ob h
  clear h
  obtain ⟨⟨⟩, eu534, h⟩ := h2
  have h2 := kr_ob2 h
  clear h
  obtain ⟨v536, S535, eS535, h⟩ := h2
  refine r_callV (M1 := m_M_thrown) (κ := 23) (As := []) eu534 (s_M_thrown eS535) mok_M_thrown rfl (by decide) rfl w1688 w1689 w1690 (by decide) (kr_c8 kr_c0) d_W_law_3040 (kr_k1 ?_) kr_kn
  refine r_iload (i := 5) (x := v528) 1 rfl d_W_law_3043 ?_
  refine r_icmp_eq (tgt := 3050) d_W_law_3045 rfl (fun c => ?_) (fun c => ?_)
  · replace h := kr_ip c h
    refine r_iload (i := 5) (x := v528) 1 rfl d_W_law_3050 ?_
    refine r_if_ne (tgt := 3067) d_W_law_3052 rfl (fun c => ?_) (fun c => ?_)
    · replace h := kr_ip c h
      refine r_aload_n (i := 3) (x := x3) 5 rfl d_W_law_3055 ?_
      refine r_iconst (v := (0 : Int32)) (by decide) d_W_law_3056 ?_
      have h2 := kr_ob h
      clear h
      obtain ⟨v537, ev537, h⟩ := h2
      refine r_laload ev537 d_W_law_3057 ?_
      refine r_iload (i := 6) (x := v533) 0 rfl d_W_law_3058 ?_
      refine r_i2l d_W_law_3060 ?_
      refine r_lcmp d_W_law_3061 ?_
      refine r_if_eq (tgt := 3067) d_W_law_3062 rfl (fun c => ?_) (fun c => ?_)
      · replace h := kr_ip c h
        refine r_goto (tgt := 3320) d_W_law_3067 rfl ?_
        exact kr_sub [2, 3, 4, 5, 6] rfl (s_W_law_B3320 hk23 h)
      · replace h := kr_in_ c h
        refine r_iconst (v := (0 : Int32)) (by decide) d_W_law_3065 ?_
        cases h
        exact r_zret rfl rfl d_W_law_3066
    · replace h := kr_in_ c h
      refine r_goto (tgt := 3320) d_W_law_3067 rfl ?_
      exact kr_sub [2, 3, 4, 5, 6] rfl (s_W_law_B3320 hk23 h)
  · replace h := kr_in_ c h
    refine r_iconst (v := (0 : Int32)) (by decide) d_W_law_3048 ?_
    cases h
    exact r_zret rfl rfl d_W_law_3049
set_option maxRecDepth 20000 in
set_option maxHeartbeats 4000000 in
theorem s_W_law_B3070 {X : Nat → Int32} {L : Nat} {k23 : AS → Option Nat → Option Nat → Option Nat → Int32 → Option (Int32 × AS)} (hk23 : ∀ {S : AS} {x1 : Option Nat} {x2 : Option Nat} {x3 : Option Nat} {x4 : Int32} {r : (Int32 × AS)}, k23 S x1 x2 x3 x4 = some r → kr_AW (m_W_law X L) 15 23 [(0, va_rf (some 2)), (1, va_rf x1), (2, va_rf x2), (3, va_rf x3), (4, .int x4)] [] S (kr_eI r)) {S : AS} {x1 : Option Nat} {x2 : Option Nat} {x3 : Option Nat} {x4 : Int32} {r : (Int32 × AS)} (h : f_W_law_B3070 X L k23 S x1 x2 x3 x4 = some r) : kr_AW (m_W_law X L) 15 3070 [(0, va_rf (some 2)), (1, va_rf x1), (2, va_rf x2), (3, va_rf x3), (4, .int x4)] [] S (kr_eI r) := by
  unfold f_W_law_B3070 at h
  refine r_aload_n (i := 1) (x := x1) 1 rfl d_W_law_3070 ?_
  refine r_aload_n (i := 0) (x := (some 2)) 0 rfl d_W_law_3071 ?_
  refine r_iload (i := 4) (x := x4) 4 rfl d_W_law_3072 ?_
  refine r_iconst (v := (1 : Int32)) (by decide) d_W_law_3074 ?_
  refine r_iadd d_W_law_3075 ?_
  have h2 := kr_ob h
  clear h
  obtain ⟨v538, ev538, h⟩ := h2
  refine r_sload rfl ev538 d_W_law_3076 ?_
  refine r_aload_n (i := 3) (x := x3) 3 rfl d_W_law_3077 ?_
  have h2 := kr_ob2 h
  clear h
  obtain ⟨v540, S539, eS539, h⟩ := h2
  refine r_callSX (M1 := m_W_foreign) (As := [va_rf x1, .int v538, va_rf x3]) (s_W_foreign eS539) mok_W_foreign (by decide) w1389 w1390 (by decide) (kr_c8 kr_c0) d_W_law_3078 (kr_k1 ?_) kr_kn
  refine r_istore (i := 5) (lv' := [(5, .int v540), (0, va_rf (some 2)), (1, va_rf x1), (2, va_rf x2), (3, va_rf x3), (4, .int x4)]) (by show (5 : Nat) < 7; decide) rfl d_W_law_3081 ?_
  refine r_aload_n (i := 2) (x := x2) 3 rfl d_W_law_3083 ?_
  refine r_aload_n (i := 0) (x := (some 2)) 1 rfl d_W_law_3084 ?_
  refine r_iload (i := 4) (x := x4) 5 rfl d_W_law_3085 ?_
  refine r_iconst (v := (1 : Int32)) (by decide) d_W_law_3087 ?_
  refine r_iadd d_W_law_3088 ?_
  have h2 := kr_ob h
  clear h
  obtain ⟨v541, ev541, h⟩ := h2
  refine r_sload rfl ev541 d_W_law_3089 ?_
  have h2 := kr_ob h
  clear h
  obtain ⟨⟨⟩, eu542, h⟩ := h2
  have h2 := kr_ob2 h
  clear h
  obtain ⟨v544, S543, eS543, h⟩ := h2
  refine r_callV (M1 := m_M_foreign) (κ := 23) (As := [.int v541]) eu542 (s_M_foreign eS543) mok_M_foreign rfl (by decide) rfl w2044 w2045 w2046 (by decide) (kr_c8 kr_c0) d_W_law_3090 (kr_k1 ?_) kr_kn
  refine r_istore (i := 6) (lv' := [(6, .int v544), (5, .int v540), (0, va_rf (some 2)), (1, va_rf x1), (2, va_rf x2), (3, va_rf x3), (4, .int x4)]) (by show (6 : Nat) < 7; decide) rfl d_W_law_3093 ?_
  refine r_aload_n (i := 2) (x := x2) 4 rfl d_W_law_3095 ?_
  have h2 := kr_ob h
  clear h
  obtain ⟨⟨⟩, eu545, h⟩ := h2
  have h2 := kr_ob2 h
  clear h
  obtain ⟨v547, S546, eS546, h⟩ := h2
  refine r_callV (M1 := m_M_thrown) (κ := 23) (As := []) eu545 (s_M_thrown eS546) mok_M_thrown rfl (by decide) rfl w1688 w1689 w1690 (by decide) (kr_c8 kr_c0) d_W_law_3096 (kr_k1 ?_) kr_kn
  refine r_iload (i := 5) (x := v540) 1 rfl d_W_law_3099 ?_
  refine r_icmp_eq (tgt := 3106) d_W_law_3101 rfl (fun c => ?_) (fun c => ?_)
  · replace h := kr_ip c h
    refine r_iload (i := 5) (x := v540) 1 rfl d_W_law_3106 ?_
    refine r_if_ne (tgt := 3123) d_W_law_3108 rfl (fun c => ?_) (fun c => ?_)
    · replace h := kr_ip c h
      refine r_aload_n (i := 3) (x := x3) 5 rfl d_W_law_3111 ?_
      refine r_iconst (v := (0 : Int32)) (by decide) d_W_law_3112 ?_
      have h2 := kr_ob h
      clear h
      obtain ⟨v548, ev548, h⟩ := h2
      refine r_laload ev548 d_W_law_3113 ?_
      refine r_iload (i := 6) (x := v544) 0 rfl d_W_law_3114 ?_
      refine r_i2l d_W_law_3116 ?_
      refine r_lcmp d_W_law_3117 ?_
      refine r_if_eq (tgt := 3123) d_W_law_3118 rfl (fun c => ?_) (fun c => ?_)
      · replace h := kr_ip c h
        refine r_goto (tgt := 3320) d_W_law_3123 rfl ?_
        exact kr_sub [2, 3, 4, 5, 6] rfl (s_W_law_B3320 hk23 h)
      · replace h := kr_in_ c h
        refine r_iconst (v := (0 : Int32)) (by decide) d_W_law_3121 ?_
        cases h
        exact r_zret rfl rfl d_W_law_3122
    · replace h := kr_in_ c h
      refine r_goto (tgt := 3320) d_W_law_3123 rfl ?_
      exact kr_sub [2, 3, 4, 5, 6] rfl (s_W_law_B3320 hk23 h)
  · replace h := kr_in_ c h
    refine r_iconst (v := (0 : Int32)) (by decide) d_W_law_3104 ?_
    cases h
    exact r_zret rfl rfl d_W_law_3105
set_option maxRecDepth 20000 in
set_option maxHeartbeats 4000000 in
theorem s_W_law_B3126 {X : Nat → Int32} {L : Nat} {k23 : AS → Option Nat → Option Nat → Option Nat → Int32 → Option (Int32 × AS)} (hk23 : ∀ {S : AS} {x1 : Option Nat} {x2 : Option Nat} {x3 : Option Nat} {x4 : Int32} {r : (Int32 × AS)}, k23 S x1 x2 x3 x4 = some r → kr_AW (m_W_law X L) 15 23 [(0, va_rf (some 2)), (1, va_rf x1), (2, va_rf x2), (3, va_rf x3), (4, .int x4)] [] S (kr_eI r)) {S : AS} {x1 : Option Nat} {x2 : Option Nat} {x3 : Option Nat} {x4 : Int32} {r : (Int32 × AS)} (h : f_W_law_B3126 X L k23 S x1 x2 x3 x4 = some r) : kr_AW (m_W_law X L) 15 3126 [(0, va_rf (some 2)), (1, va_rf x1), (2, va_rf x2), (3, va_rf x3), (4, .int x4)] [] S (kr_eI r) := by
  unfold f_W_law_B3126 at h
  refine r_aload_n (i := 1) (x := x1) 1 rfl d_W_law_3126 ?_
  refine r_aload_n (i := 0) (x := (some 2)) 0 rfl d_W_law_3127 ?_
  refine r_iload (i := 4) (x := x4) 4 rfl d_W_law_3128 ?_
  refine r_iconst (v := (1 : Int32)) (by decide) d_W_law_3130 ?_
  refine r_iadd d_W_law_3131 ?_
  have h2 := kr_ob h
  clear h
  obtain ⟨v549, ev549, h⟩ := h2
  refine r_sload rfl ev549 d_W_law_3132 ?_
  refine r_aload_n (i := 3) (x := x3) 3 rfl d_W_law_3133 ?_
  have h2 := kr_ob2 h
  clear h
  obtain ⟨v551, S550, eS550, h⟩ := h2
  refine r_callSX (M1 := m_W_leave) (As := [va_rf x1, .int v549, va_rf x3]) (s_W_leave eS550) mok_W_leave (by decide) w1397 w1398 (by decide) (kr_c8 kr_c0) d_W_law_3134 (kr_k1 ?_) kr_kn
  refine r_istore (i := 5) (lv' := [(5, .int v551), (0, va_rf (some 2)), (1, va_rf x1), (2, va_rf x2), (3, va_rf x3), (4, .int x4)]) (by show (5 : Nat) < 7; decide) rfl d_W_law_3137 ?_
  refine r_aload_n (i := 2) (x := x2) 3 rfl d_W_law_3139 ?_
  refine r_aload_n (i := 0) (x := (some 2)) 1 rfl d_W_law_3140 ?_
  refine r_iload (i := 4) (x := x4) 5 rfl d_W_law_3141 ?_
  refine r_iconst (v := (1 : Int32)) (by decide) d_W_law_3143 ?_
  refine r_iadd d_W_law_3144 ?_
  have h2 := kr_ob h
  clear h
  obtain ⟨v552, ev552, h⟩ := h2
  refine r_sload rfl ev552 d_W_law_3145 ?_
  have h2 := kr_ob h
  clear h
  obtain ⟨⟨⟩, eu553, h⟩ := h2
  have h2 := kr_ob2 h
  clear h
  obtain ⟨v555, S554, eS554, h⟩ := h2
  refine r_callV (M1 := m_M_leave) (κ := 23) (As := [.int v552]) eu553 (s_M_leave eS554) mok_M_leave rfl (by decide) rfl w2048 w2049 w2050 (by decide) (kr_c8 kr_c0) d_W_law_3146 (kr_k1 ?_) kr_kn
  refine r_istore (i := 6) (lv' := [(6, .int v555), (5, .int v551), (0, va_rf (some 2)), (1, va_rf x1), (2, va_rf x2), (3, va_rf x3), (4, .int x4)]) (by show (6 : Nat) < 7; decide) rfl d_W_law_3149 ?_
  refine r_aload_n (i := 2) (x := x2) 4 rfl d_W_law_3151 ?_
  have h2 := kr_ob h
  clear h
  obtain ⟨⟨⟩, eu556, h⟩ := h2
  have h2 := kr_ob2 h
  clear h
  obtain ⟨v558, S557, eS557, h⟩ := h2
  refine r_callV (M1 := m_M_thrown) (κ := 23) (As := []) eu556 (s_M_thrown eS557) mok_M_thrown rfl (by decide) rfl w1688 w1689 w1690 (by decide) (kr_c8 kr_c0) d_W_law_3152 (kr_k1 ?_) kr_kn
  refine r_iload (i := 5) (x := v551) 1 rfl d_W_law_3155 ?_
  refine r_icmp_eq (tgt := 3162) d_W_law_3157 rfl (fun c => ?_) (fun c => ?_)
  · replace h := kr_ip c h
    refine r_iload (i := 5) (x := v551) 1 rfl d_W_law_3162 ?_
    refine r_if_ne (tgt := 3179) d_W_law_3164 rfl (fun c => ?_) (fun c => ?_)
    · replace h := kr_ip c h
      refine r_aload_n (i := 3) (x := x3) 5 rfl d_W_law_3167 ?_
      refine r_iconst (v := (0 : Int32)) (by decide) d_W_law_3168 ?_
      have h2 := kr_ob h
      clear h
      obtain ⟨v559, ev559, h⟩ := h2
      refine r_laload ev559 d_W_law_3169 ?_
      refine r_iload (i := 6) (x := v555) 0 rfl d_W_law_3170 ?_
      refine r_i2l d_W_law_3172 ?_
      refine r_lcmp d_W_law_3173 ?_
      refine r_if_eq (tgt := 3179) d_W_law_3174 rfl (fun c => ?_) (fun c => ?_)
      · replace h := kr_ip c h
        refine r_goto (tgt := 3320) d_W_law_3179 rfl ?_
        exact kr_sub [2, 3, 4, 5, 6] rfl (s_W_law_B3320 hk23 h)
      · replace h := kr_in_ c h
        refine r_iconst (v := (0 : Int32)) (by decide) d_W_law_3177 ?_
        cases h
        exact r_zret rfl rfl d_W_law_3178
    · replace h := kr_in_ c h
      refine r_goto (tgt := 3320) d_W_law_3179 rfl ?_
      exact kr_sub [2, 3, 4, 5, 6] rfl (s_W_law_B3320 hk23 h)
  · replace h := kr_in_ c h
    refine r_iconst (v := (0 : Int32)) (by decide) d_W_law_3160 ?_
    cases h
    exact r_zret rfl rfl d_W_law_3161
set_option maxRecDepth 20000 in
set_option maxHeartbeats 4000000 in
theorem s_W_law_B3182 {X : Nat → Int32} {L : Nat} {k23 : AS → Option Nat → Option Nat → Option Nat → Int32 → Option (Int32 × AS)} (hk23 : ∀ {S : AS} {x1 : Option Nat} {x2 : Option Nat} {x3 : Option Nat} {x4 : Int32} {r : (Int32 × AS)}, k23 S x1 x2 x3 x4 = some r → kr_AW (m_W_law X L) 15 23 [(0, va_rf (some 2)), (1, va_rf x1), (2, va_rf x2), (3, va_rf x3), (4, .int x4)] [] S (kr_eI r)) {S : AS} {x1 : Option Nat} {x2 : Option Nat} {x3 : Option Nat} {x4 : Int32} {r : (Int32 × AS)} (h : f_W_law_B3182 X L k23 S x1 x2 x3 x4 = some r) : kr_AW (m_W_law X L) 15 3182 [(0, va_rf (some 2)), (1, va_rf x1), (2, va_rf x2), (3, va_rf x3), (4, .int x4)] [] S (kr_eI r) := by
  unfold f_W_law_B3182 at h
  refine r_aload_n (i := 1) (x := x1) 1 rfl d_W_law_3182 ?_
  have h2 := kr_ob h
  clear h
  obtain ⟨⟨⟩, eu560, h⟩ := h2
  have h2 := kr_ob2 h
  clear h
  obtain ⟨v562, S561, eS561, h⟩ := h2
  refine r_callV (M1 := m_K_audits) (κ := 22) (As := []) eu560 (s_K_audits eS561) mok_K_audits rfl (by decide) rfl w356 w357 w358 (by decide) (kr_c8 kr_c0) d_W_law_3183 (kr_k1 ?_) kr_kn
  refine r_aload_n (i := 2) (x := x2) 2 rfl d_W_law_3186 ?_
  have h2 := kr_ob h
  clear h
  obtain ⟨⟨⟩, eu563, h⟩ := h2
  have h2 := kr_ob2 h
  clear h
  obtain ⟨v565, S564, eS564, h⟩ := h2
  refine r_callV (M1 := m_M_audits) (κ := 23) (As := []) eu563 (s_M_audits eS564) mok_M_audits rfl (by decide) rfl w1692 w1693 w1694 (by decide) (kr_c8 (kr_cI kr_c0)) d_W_law_3187 (kr_k1 ?_) kr_kn
  refine r_icmp_eq (tgt := 3320) d_W_law_3190 rfl (fun c => ?_) (fun c => ?_)
  · replace h := kr_ip c h
    exact kr_sub [0, 1, 2, 3, 4] rfl (s_W_law_B3320 hk23 h)
  · replace h := kr_in_ c h
    refine r_iconst (v := (0 : Int32)) (by decide) d_W_law_3193 ?_
    cases h
    exact r_zret rfl rfl d_W_law_3194
set_option maxRecDepth 20000 in
set_option maxHeartbeats 4000000 in
theorem s_W_law_B3195 {X : Nat → Int32} {L : Nat} {k23 : AS → Option Nat → Option Nat → Option Nat → Int32 → Option (Int32 × AS)} (hk23 : ∀ {S : AS} {x1 : Option Nat} {x2 : Option Nat} {x3 : Option Nat} {x4 : Int32} {r : (Int32 × AS)}, k23 S x1 x2 x3 x4 = some r → kr_AW (m_W_law X L) 15 23 [(0, va_rf (some 2)), (1, va_rf x1), (2, va_rf x2), (3, va_rf x3), (4, .int x4)] [] S (kr_eI r)) {S : AS} {x1 : Option Nat} {x2 : Option Nat} {x3 : Option Nat} {x4 : Int32} {r : (Int32 × AS)} (h : f_W_law_B3195 X L k23 S x1 x2 x3 x4 = some r) : kr_AW (m_W_law X L) 15 3195 [(0, va_rf (some 2)), (1, va_rf x1), (2, va_rf x2), (3, va_rf x3), (4, .int x4)] [] S (kr_eI r) := by
  unfold f_W_law_B3195 at h
  refine r_aload_n (i := 1) (x := x1) 1 rfl d_W_law_3195 ?_
  refine r_aload_n (i := 0) (x := (some 2)) 0 rfl d_W_law_3196 ?_
  refine r_iload (i := 4) (x := x4) 4 rfl d_W_law_3197 ?_
  refine r_iconst (v := (1 : Int32)) (by decide) d_W_law_3199 ?_
  refine r_iadd d_W_law_3200 ?_
  have h2 := kr_ob h
  clear h
  obtain ⟨v566, ev566, h⟩ := h2
  refine r_sload rfl ev566 d_W_law_3201 ?_
  refine r_aload_n (i := 3) (x := x3) 3 rfl d_W_law_3202 ?_
  have h2 := kr_ob2 h
  clear h
  obtain ⟨v568, S567, eS567, h⟩ := h2
  refine r_callSX (M1 := m_W_audit) (As := [va_rf x1, .int v566, va_rf x3]) (s_W_audit eS567) mok_W_audit (by decide) w1412 w1413 (by decide) (kr_c8 kr_c0) d_W_law_3203 (kr_k1 ?_) kr_kn
  refine r_istore (i := 5) (lv' := [(5, .int v568), (0, va_rf (some 2)), (1, va_rf x1), (2, va_rf x2), (3, va_rf x3), (4, .int x4)]) (by show (5 : Nat) < 7; decide) rfl d_W_law_3206 ?_
  refine r_aload_n (i := 2) (x := x2) 3 rfl d_W_law_3208 ?_
  refine r_aload_n (i := 0) (x := (some 2)) 1 rfl d_W_law_3209 ?_
  refine r_iload (i := 4) (x := x4) 5 rfl d_W_law_3210 ?_
  refine r_iconst (v := (1 : Int32)) (by decide) d_W_law_3212 ?_
  refine r_iadd d_W_law_3213 ?_
  have h2 := kr_ob h
  clear h
  obtain ⟨v569, ev569, h⟩ := h2
  refine r_sload rfl ev569 d_W_law_3214 ?_
  have h2 := kr_ob h
  clear h
  obtain ⟨⟨⟩, eu570, h⟩ := h2
  have h2 := kr_ob2 h
  clear h
  obtain ⟨v572, S571, eS571, h⟩ := h2
  refine r_callV (M1 := m_M_audit) (κ := 23) (As := [.int v569]) eu570 (s_M_audit eS571) mok_M_audit rfl (by decide) rfl w1696 w1697 w1698 (by decide) (kr_c8 kr_c0) d_W_law_3215 (kr_k1 ?_) kr_kn
  refine r_istore (i := 6) (lv' := [(6, .int v572), (5, .int v568), (0, va_rf (some 2)), (1, va_rf x1), (2, va_rf x2), (3, va_rf x3), (4, .int x4)]) (by show (6 : Nat) < 7; decide) rfl d_W_law_3218 ?_
  refine r_aload_n (i := 2) (x := x2) 4 rfl d_W_law_3220 ?_
  have h2 := kr_ob h
  clear h
  obtain ⟨⟨⟩, eu573, h⟩ := h2
  have h2 := kr_ob2 h
  clear h
  obtain ⟨v575, S574, eS574, h⟩ := h2
  refine r_callV (M1 := m_M_thrown) (κ := 23) (As := []) eu573 (s_M_thrown eS574) mok_M_thrown rfl (by decide) rfl w1688 w1689 w1690 (by decide) (kr_c8 kr_c0) d_W_law_3221 (kr_k1 ?_) kr_kn
  refine r_iload (i := 5) (x := v568) 1 rfl d_W_law_3224 ?_
  refine r_icmp_eq (tgt := 3231) d_W_law_3226 rfl (fun c => ?_) (fun c => ?_)
  · replace h := kr_ip c h
    refine r_iload (i := 5) (x := v568) 1 rfl d_W_law_3231 ?_
    refine r_if_ne (tgt := 3248) d_W_law_3233 rfl (fun c => ?_) (fun c => ?_)
    · replace h := kr_ip c h
      refine r_aload_n (i := 3) (x := x3) 5 rfl d_W_law_3236 ?_
      refine r_iconst (v := (0 : Int32)) (by decide) d_W_law_3237 ?_
      have h2 := kr_ob h
      clear h
      obtain ⟨v576, ev576, h⟩ := h2
      refine r_laload ev576 d_W_law_3238 ?_
      refine r_iload (i := 6) (x := v572) 0 rfl d_W_law_3239 ?_
      refine r_i2l d_W_law_3241 ?_
      refine r_lcmp d_W_law_3242 ?_
      refine r_if_eq (tgt := 3248) d_W_law_3243 rfl (fun c => ?_) (fun c => ?_)
      · replace h := kr_ip c h
        refine r_goto (tgt := 3320) d_W_law_3248 rfl ?_
        exact kr_sub [2, 3, 4, 5, 6] rfl (s_W_law_B3320 hk23 h)
      · replace h := kr_in_ c h
        refine r_iconst (v := (0 : Int32)) (by decide) d_W_law_3246 ?_
        cases h
        exact r_zret rfl rfl d_W_law_3247
    · replace h := kr_in_ c h
      refine r_goto (tgt := 3320) d_W_law_3248 rfl ?_
      exact kr_sub [2, 3, 4, 5, 6] rfl (s_W_law_B3320 hk23 h)
  · replace h := kr_in_ c h
    refine r_iconst (v := (0 : Int32)) (by decide) d_W_law_3229 ?_
    cases h
    exact r_zret rfl rfl d_W_law_3230
set_option maxRecDepth 20000 in
set_option maxHeartbeats 4000000 in
theorem s_W_law_B3251 {X : Nat → Int32} {L : Nat} {k23 : AS → Option Nat → Option Nat → Option Nat → Int32 → Option (Int32 × AS)} (hk23 : ∀ {S : AS} {x1 : Option Nat} {x2 : Option Nat} {x3 : Option Nat} {x4 : Int32} {r : (Int32 × AS)}, k23 S x1 x2 x3 x4 = some r → kr_AW (m_W_law X L) 15 23 [(0, va_rf (some 2)), (1, va_rf x1), (2, va_rf x2), (3, va_rf x3), (4, .int x4)] [] S (kr_eI r)) {S : AS} {x1 : Option Nat} {x2 : Option Nat} {x3 : Option Nat} {x4 : Int32} {r : (Int32 × AS)} (h : f_W_law_B3251 X L k23 S x1 x2 x3 x4 = some r) : kr_AW (m_W_law X L) 15 3251 [(0, va_rf (some 2)), (1, va_rf x1), (2, va_rf x2), (3, va_rf x3), (4, .int x4)] [] S (kr_eI r) := by
  unfold f_W_law_B3251 at h
  refine r_aload_n (i := 1) (x := x1) 1 rfl d_W_law_3251 ?_
  have h2 := kr_ob h
  clear h
  obtain ⟨⟨⟩, eu577, h⟩ := h2
  have h2 := kr_ob2 h
  clear h
  obtain ⟨v579, S578, eS578, h⟩ := h2
  refine r_callV (M1 := m_K_sum) (κ := 22) (As := []) eu577 (s_K_sum eS578) mok_K_sum rfl (by decide) rfl w360 w361 w362 (by decide) (kr_c8 kr_c0) d_W_law_3252 (kr_k1 ?_) kr_kn
  refine r_aload_n (i := 2) (x := x2) 2 rfl d_W_law_3255 ?_
  have h2 := kr_ob h
  clear h
  obtain ⟨⟨⟩, eu580, h⟩ := h2
  have h2 := kr_ob2 h
  clear h
  obtain ⟨v582, S581, eS581, h⟩ := h2
  refine r_callV (M1 := m_M_sum) (κ := 23) (As := []) eu580 (s_M_sum eS581) mok_M_sum rfl (by decide) rfl w1707 w1708 w1709 (by decide) (kr_c8 (kr_cI kr_c0)) d_W_law_3256 (kr_k1 ?_) kr_kn
  refine r_icmp_eq (tgt := 3320) d_W_law_3259 rfl (fun c => ?_) (fun c => ?_)
  · replace h := kr_ip c h
    exact kr_sub [0, 1, 2, 3, 4] rfl (s_W_law_B3320 hk23 h)
  · replace h := kr_in_ c h
    refine r_iconst (v := (0 : Int32)) (by decide) d_W_law_3262 ?_
    cases h
    exact r_zret rfl rfl d_W_law_3263
set_option maxRecDepth 20000 in
set_option maxHeartbeats 4000000 in
theorem s_W_law_B3264 {X : Nat → Int32} {L : Nat} {k23 : AS → Option Nat → Option Nat → Option Nat → Int32 → Option (Int32 × AS)} (hk23 : ∀ {S : AS} {x1 : Option Nat} {x2 : Option Nat} {x3 : Option Nat} {x4 : Int32} {r : (Int32 × AS)}, k23 S x1 x2 x3 x4 = some r → kr_AW (m_W_law X L) 15 23 [(0, va_rf (some 2)), (1, va_rf x1), (2, va_rf x2), (3, va_rf x3), (4, .int x4)] [] S (kr_eI r)) {S : AS} {x1 : Option Nat} {x2 : Option Nat} {x3 : Option Nat} {x4 : Int32} {r : (Int32 × AS)} (h : f_W_law_B3264 X L k23 S x1 x2 x3 x4 = some r) : kr_AW (m_W_law X L) 15 3264 [(0, va_rf (some 2)), (1, va_rf x1), (2, va_rf x2), (3, va_rf x3), (4, .int x4)] [] S (kr_eI r) := by
  unfold f_W_law_B3264 at h
  refine r_aload_n (i := 1) (x := x1) 1 rfl d_W_law_3264 ?_
  refine r_aload_n (i := 0) (x := (some 2)) 0 rfl d_W_law_3265 ?_
  refine r_iload (i := 4) (x := x4) 4 rfl d_W_law_3266 ?_
  refine r_iconst (v := (1 : Int32)) (by decide) d_W_law_3268 ?_
  refine r_iadd d_W_law_3269 ?_
  have h2 := kr_ob h
  clear h
  obtain ⟨v583, ev583, h⟩ := h2
  refine r_sload rfl ev583 d_W_law_3270 ?_
  refine r_aload_n (i := 3) (x := x3) 3 rfl d_W_law_3271 ?_
  have h2 := kr_ob2 h
  clear h
  obtain ⟨v585, S584, eS584, h⟩ := h2
  refine r_callSX (M1 := m_W_sumAnew) (As := [va_rf x1, .int v583, va_rf x3]) (s_W_sumAnew eS584) mok_W_sumAnew (by decide) w1420 w1421 (by decide) (kr_c8 kr_c0) d_W_law_3272 (kr_k1 ?_) kr_kn
  refine r_istore (i := 5) (lv' := [(5, .int v585), (0, va_rf (some 2)), (1, va_rf x1), (2, va_rf x2), (3, va_rf x3), (4, .int x4)]) (by show (5 : Nat) < 7; decide) rfl d_W_law_3275 ?_
  refine r_aload_n (i := 2) (x := x2) 3 rfl d_W_law_3277 ?_
  refine r_aload_n (i := 0) (x := (some 2)) 1 rfl d_W_law_3278 ?_
  refine r_iload (i := 4) (x := x4) 5 rfl d_W_law_3279 ?_
  refine r_iconst (v := (1 : Int32)) (by decide) d_W_law_3281 ?_
  refine r_iadd d_W_law_3282 ?_
  have h2 := kr_ob h
  clear h
  obtain ⟨v586, ev586, h⟩ := h2
  refine r_sload rfl ev586 d_W_law_3283 ?_
  have h2 := kr_ob h
  clear h
  obtain ⟨⟨⟩, eu587, h⟩ := h2
  have h2 := kr_ob2 h
  clear h
  obtain ⟨v589, S588, eS588, h⟩ := h2
  refine r_callV (M1 := m_M_sumAnew) (κ := 23) (As := [.int v586]) eu587 (s_M_sumAnew eS588) mok_M_sumAnew rfl (by decide) rfl w1711 w1712 w1713 (by decide) (kr_c8 kr_c0) d_W_law_3284 (kr_k1 ?_) kr_kn
  refine r_istore (i := 6) (lv' := [(6, .int v589), (5, .int v585), (0, va_rf (some 2)), (1, va_rf x1), (2, va_rf x2), (3, va_rf x3), (4, .int x4)]) (by show (6 : Nat) < 7; decide) rfl d_W_law_3287 ?_
  refine r_aload_n (i := 2) (x := x2) 4 rfl d_W_law_3289 ?_
  have h2 := kr_ob h
  clear h
  obtain ⟨⟨⟩, eu590, h⟩ := h2
  have h2 := kr_ob2 h
  clear h
  obtain ⟨v592, S591, eS591, h⟩ := h2
  refine r_callV (M1 := m_M_thrown) (κ := 23) (As := []) eu590 (s_M_thrown eS591) mok_M_thrown rfl (by decide) rfl w1688 w1689 w1690 (by decide) (kr_c8 kr_c0) d_W_law_3290 (kr_k1 ?_) kr_kn
  refine r_iload (i := 5) (x := v585) 1 rfl d_W_law_3293 ?_
  refine r_icmp_eq (tgt := 3300) d_W_law_3295 rfl (fun c => ?_) (fun c => ?_)
  · replace h := kr_ip c h
    refine r_iload (i := 5) (x := v585) 1 rfl d_W_law_3300 ?_
    refine r_if_ne (tgt := 3317) d_W_law_3302 rfl (fun c => ?_) (fun c => ?_)
    · replace h := kr_ip c h
      refine r_aload_n (i := 3) (x := x3) 5 rfl d_W_law_3305 ?_
      refine r_iconst (v := (0 : Int32)) (by decide) d_W_law_3306 ?_
      have h2 := kr_ob h
      clear h
      obtain ⟨v593, ev593, h⟩ := h2
      refine r_laload ev593 d_W_law_3307 ?_
      refine r_iload (i := 6) (x := v589) 0 rfl d_W_law_3308 ?_
      refine r_i2l d_W_law_3310 ?_
      refine r_lcmp d_W_law_3311 ?_
      refine r_if_eq (tgt := 3317) d_W_law_3312 rfl (fun c => ?_) (fun c => ?_)
      · replace h := kr_ip c h
        refine r_goto (tgt := 3320) d_W_law_3317 rfl ?_
        exact kr_sub [2, 3, 4, 5, 6] rfl (s_W_law_B3320 hk23 h)
      · replace h := kr_in_ c h
        refine r_iconst (v := (0 : Int32)) (by decide) d_W_law_3315 ?_
        cases h
        exact r_zret rfl rfl d_W_law_3316
    · replace h := kr_in_ c h
      refine r_goto (tgt := 3320) d_W_law_3317 rfl ?_
      exact kr_sub [2, 3, 4, 5, 6] rfl (s_W_law_B3320 hk23 h)
  · replace h := kr_in_ c h
    refine r_iconst (v := (0 : Int32)) (by decide) d_W_law_3298 ?_
    cases h
    exact r_zret rfl rfl d_W_law_3299
set_option maxRecDepth 20000 in
set_option maxHeartbeats 4000000 in
theorem s_W_law_C23 {X : Nat → Int32} {L : Nat} {k23 : AS → Option Nat → Option Nat → Option Nat → Int32 → Option (Int32 × AS)} (hk23 : ∀ {S : AS} {x1 : Option Nat} {x2 : Option Nat} {x3 : Option Nat} {x4 : Int32} {r : (Int32 × AS)}, k23 S x1 x2 x3 x4 = some r → kr_AW (m_W_law X L) 15 23 [(0, va_rf (some 2)), (1, va_rf x1), (2, va_rf x2), (3, va_rf x3), (4, .int x4)] [] S (kr_eI r)) {S : AS} {x1 : Option Nat} {x2 : Option Nat} {x3 : Option Nat} {x4 : Int32} {r : (Int32 × AS)} (h : f_W_law_C23 X L k23 S x1 x2 x3 x4 = some r) : kr_AW (m_W_law X L) 15 23 [(0, va_rf (some 2)), (1, va_rf x1), (2, va_rf x2), (3, va_rf x3), (4, .int x4)] [] S (kr_eI r) := by
  unfold f_W_law_C23 at h
  refine r_iload (i := 4) (x := x4) 4 rfl d_W_law_23 ?_
  refine r_aload_n (i := 0) (x := (some 2)) 0 rfl d_W_law_25 ?_
  refine r_slen rfl d_W_law_26 ?_
  refine r_bipush (v := (6 : Int32)) (by decide) d_W_law_27 ?_
  refine r_isub d_W_law_29 ?_
  refine r_icmp_gt (tgt := 3326) d_W_law_30 rfl (fun c => ?_) (fun c => ?_)
  · replace h := kr_ip c h
    refine r_iconst (v := (1 : Int32)) (by decide) d_W_law_3326 ?_
    cases h
    exact r_zret rfl rfl d_W_law_3327
  · replace h := kr_in_ c h
    refine r_aload_n (i := 0) (x := (some 2)) 0 rfl d_W_law_33 ?_
    refine r_iload (i := 4) (x := x4) 4 rfl d_W_law_34 ?_
    have h2 := kr_ob h
    clear h
    obtain ⟨v594, ev594, h⟩ := h2
    refine r_sload rfl ev594 d_W_law_36 ?_
    refine r_bipush (v := (63 : Int32)) (by decide) d_W_law_37 ?_
    refine r_iand d_W_law_39 ?_
    have h2 := kr_ob h
    clear h
    obtain ⟨i595, ei595, h⟩ := h2
    refine kr_nmI ei595 ?_
    by_cases c0 : i595 = (0 : Int32)
    · replace h := kr_ip c0 h
      refine r_tableIn (x := i595) (tgt := 260) d_W_law_40 (by rw [c0]; decide) (by rw [c0]; decide) (by rw [c0]; rfl) rfl ?_
      exact kr_sub [0, 1, 2, 3, 4] rfl (s_W_law_B260 hk23 h)
    replace h := kr_in_ c0 h
    by_cases c1 : i595 = (1 : Int32)
    · replace h := kr_ip c1 h
      refine r_tableIn (x := i595) (tgt := 316) d_W_law_40 (by rw [c1]; decide) (by rw [c1]; decide) (by rw [c1]; rfl) rfl ?_
      exact kr_sub [0, 1, 2, 3, 4] rfl (s_W_law_B316 hk23 h)
    replace h := kr_in_ c1 h
    by_cases c2 : i595 = (2 : Int32)
    · replace h := kr_ip c2 h
      refine r_tableIn (x := i595) (tgt := 384) d_W_law_40 (by rw [c2]; decide) (by rw [c2]; decide) (by rw [c2]; rfl) rfl ?_
      exact kr_sub [0, 1, 2, 3, 4] rfl (s_W_law_B384 hk23 h)
    replace h := kr_in_ c2 h
    by_cases c3 : i595 = (3 : Int32)
    · replace h := kr_ip c3 h
      refine r_tableIn (x := i595) (tgt := 452) d_W_law_40 (by rw [c3]; decide) (by rw [c3]; decide) (by rw [c3]; rfl) rfl ?_
      exact kr_sub [0, 1, 2, 3, 4] rfl (s_W_law_B452 hk23 h)
    replace h := kr_in_ c3 h
    by_cases c4 : i595 = (4 : Int32)
    · replace h := kr_ip c4 h
      refine r_tableIn (x := i595) (tgt := 556) d_W_law_40 (by rw [c4]; decide) (by rw [c4]; decide) (by rw [c4]; rfl) rfl ?_
      exact kr_sub [0, 1, 2, 3, 4] rfl (s_W_law_B556 hk23 h)
    replace h := kr_in_ c4 h
    by_cases c5 : i595 = (5 : Int32)
    · replace h := kr_ip c5 h
      refine r_tableIn (x := i595) (tgt := 569) d_W_law_40 (by rw [c5]; decide) (by rw [c5]; decide) (by rw [c5]; rfl) rfl ?_
      exact kr_sub [0, 1, 2, 3, 4] rfl (s_W_law_B569 hk23 h)
    replace h := kr_in_ c5 h
    by_cases c6 : i595 = (6 : Int32)
    · replace h := kr_ip c6 h
      refine r_tableIn (x := i595) (tgt := 613) d_W_law_40 (by rw [c6]; decide) (by rw [c6]; decide) (by rw [c6]; rfl) rfl ?_
      exact kr_sub [0, 1, 2, 3, 4] rfl (s_W_law_B613 hk23 h)
    replace h := kr_in_ c6 h
    by_cases c7 : i595 = (7 : Int32)
    · replace h := kr_ip c7 h
      refine r_tableIn (x := i595) (tgt := 669) d_W_law_40 (by rw [c7]; decide) (by rw [c7]; decide) (by rw [c7]; rfl) rfl ?_
      exact kr_sub [0, 1, 2, 3, 4] rfl (s_W_law_B669 hk23 h)
    replace h := kr_in_ c7 h
    by_cases c8 : i595 = (8 : Int32)
    · replace h := kr_ip c8 h
      refine r_tableIn (x := i595) (tgt := 765) d_W_law_40 (by rw [c8]; decide) (by rw [c8]; decide) (by rw [c8]; rfl) rfl ?_
      exact kr_sub [0, 1, 2, 3, 4] rfl (s_W_law_B765 hk23 h)
    replace h := kr_in_ c8 h
    by_cases c9 : i595 = (9 : Int32)
    · replace h := kr_ip c9 h
      refine r_tableIn (x := i595) (tgt := 845) d_W_law_40 (by rw [c9]; decide) (by rw [c9]; decide) (by rw [c9]; rfl) rfl ?_
      exact kr_sub [0, 1, 2, 3, 4] rfl (s_W_law_B845 hk23 h)
    replace h := kr_in_ c9 h
    by_cases c10 : i595 = (10 : Int32)
    · replace h := kr_ip c10 h
      refine r_tableIn (x := i595) (tgt := 941) d_W_law_40 (by rw [c10]; decide) (by rw [c10]; decide) (by rw [c10]; rfl) rfl ?_
      exact kr_sub [0, 1, 2, 3, 4] rfl (s_W_law_B941 hk23 h)
    replace h := kr_in_ c10 h
    by_cases c11 : i595 = (11 : Int32)
    · replace h := kr_ip c11 h
      refine r_tableIn (x := i595) (tgt := 997) d_W_law_40 (by rw [c11]; decide) (by rw [c11]; decide) (by rw [c11]; rfl) rfl ?_
      exact kr_sub [0, 1, 2, 3, 4] rfl (s_W_law_B997 hk23 h)
    replace h := kr_in_ c11 h
    by_cases c12 : i595 = (12 : Int32)
    · replace h := kr_ip c12 h
      refine r_tableIn (x := i595) (tgt := 1053) d_W_law_40 (by rw [c12]; decide) (by rw [c12]; decide) (by rw [c12]; rfl) rfl ?_
      exact kr_sub [0, 1, 2, 3, 4] rfl (s_W_law_B1053 hk23 h)
    replace h := kr_in_ c12 h
    by_cases c13 : i595 = (13 : Int32)
    · replace h := kr_ip c13 h
      refine r_tableIn (x := i595) (tgt := 1109) d_W_law_40 (by rw [c13]; decide) (by rw [c13]; decide) (by rw [c13]; rfl) rfl ?_
      exact kr_sub [0, 1, 2, 3, 4] rfl (s_W_law_B1109 hk23 h)
    replace h := kr_in_ c13 h
    by_cases c14 : i595 = (14 : Int32)
    · replace h := kr_ip c14 h
      refine r_tableIn (x := i595) (tgt := 1165) d_W_law_40 (by rw [c14]; decide) (by rw [c14]; decide) (by rw [c14]; rfl) rfl ?_
      exact kr_sub [0, 1, 2, 3, 4] rfl (s_W_law_B1165 hk23 h)
    replace h := kr_in_ c14 h
    by_cases c15 : i595 = (15 : Int32)
    · replace h := kr_ip c15 h
      refine r_tableIn (x := i595) (tgt := 1221) d_W_law_40 (by rw [c15]; decide) (by rw [c15]; decide) (by rw [c15]; rfl) rfl ?_
      exact kr_sub [0, 1, 2, 3, 4] rfl (s_W_law_B1221 hk23 h)
    replace h := kr_in_ c15 h
    by_cases c16 : i595 = (16 : Int32)
    · replace h := kr_ip c16 h
      refine r_tableIn (x := i595) (tgt := 1234) d_W_law_40 (by rw [c16]; decide) (by rw [c16]; decide) (by rw [c16]; rfl) rfl ?_
      exact kr_sub [0, 1, 2, 3, 4] rfl (s_W_law_B1234 hk23 h)
    replace h := kr_in_ c16 h
    by_cases c17 : i595 = (17 : Int32)
    · replace h := kr_ip c17 h
      refine r_tableIn (x := i595) (tgt := 1297) d_W_law_40 (by rw [c17]; decide) (by rw [c17]; decide) (by rw [c17]; rfl) rfl ?_
      exact kr_sub [0, 1, 2, 3, 4] rfl (s_W_law_B1297 hk23 h)
    replace h := kr_in_ c17 h
    by_cases c18 : i595 = (18 : Int32)
    · replace h := kr_ip c18 h
      refine r_tableIn (x := i595) (tgt := 1360) d_W_law_40 (by rw [c18]; decide) (by rw [c18]; decide) (by rw [c18]; rfl) rfl ?_
      exact kr_sub [0, 1, 2, 3, 4] rfl (s_W_law_B1360 hk23 h)
    replace h := kr_in_ c18 h
    by_cases c19 : i595 = (19 : Int32)
    · replace h := kr_ip c19 h
      refine r_tableIn (x := i595) (tgt := 1416) d_W_law_40 (by rw [c19]; decide) (by rw [c19]; decide) (by rw [c19]; rfl) rfl ?_
      exact kr_sub [0, 1, 2, 3, 4] rfl (s_W_law_B1416 hk23 h)
    replace h := kr_in_ c19 h
    by_cases c20 : i595 = (20 : Int32)
    · replace h := kr_ip c20 h
      refine r_tableIn (x := i595) (tgt := 1524) d_W_law_40 (by rw [c20]; decide) (by rw [c20]; decide) (by rw [c20]; rfl) rfl ?_
      exact kr_sub [0, 1, 2, 3, 4] rfl (s_W_law_B1524 hk23 h)
    replace h := kr_in_ c20 h
    by_cases c21 : i595 = (21 : Int32)
    · replace h := kr_ip c21 h
      refine r_tableIn (x := i595) (tgt := 1580) d_W_law_40 (by rw [c21]; decide) (by rw [c21]; decide) (by rw [c21]; rfl) rfl ?_
      exact kr_sub [0, 1, 2, 3, 4] rfl (s_W_law_B1580 hk23 h)
    replace h := kr_in_ c21 h
    by_cases c22 : i595 = (22 : Int32)
    · replace h := kr_ip c22 h
      refine r_tableIn (x := i595) (tgt := 1643) d_W_law_40 (by rw [c22]; decide) (by rw [c22]; decide) (by rw [c22]; rfl) rfl ?_
      exact kr_sub [0, 1, 2, 3, 4] rfl (s_W_law_B1643 hk23 h)
    replace h := kr_in_ c22 h
    by_cases c23 : i595 = (23 : Int32)
    · replace h := kr_ip c23 h
      refine r_tableIn (x := i595) (tgt := 1711) d_W_law_40 (by rw [c23]; decide) (by rw [c23]; decide) (by rw [c23]; rfl) rfl ?_
      exact kr_sub [0, 1, 2, 3, 4] rfl (s_W_law_B1711 hk23 h)
    replace h := kr_in_ c23 h
    by_cases c24 : i595 = (24 : Int32)
    · replace h := kr_ip c24 h
      refine r_tableIn (x := i595) (tgt := 1791) d_W_law_40 (by rw [c24]; decide) (by rw [c24]; decide) (by rw [c24]; rfl) rfl ?_
      exact kr_sub [0, 1, 2, 3, 4] rfl (s_W_law_B1791 hk23 h)
    replace h := kr_in_ c24 h
    by_cases c25 : i595 = (25 : Int32)
    · replace h := kr_ip c25 h
      refine r_tableIn (x := i595) (tgt := 1859) d_W_law_40 (by rw [c25]; decide) (by rw [c25]; decide) (by rw [c25]; rfl) rfl ?_
      exact kr_sub [0, 1, 2, 3, 4] rfl (s_W_law_B1859 hk23 h)
    replace h := kr_in_ c25 h
    by_cases c26 : i595 = (26 : Int32)
    · replace h := kr_ip c26 h
      refine r_tableIn (x := i595) (tgt := 1927) d_W_law_40 (by rw [c26]; decide) (by rw [c26]; decide) (by rw [c26]; rfl) rfl ?_
      exact kr_sub [0, 1, 2, 3, 4] rfl (s_W_law_B1927 hk23 h)
    replace h := kr_in_ c26 h
    by_cases c27 : i595 = (27 : Int32)
    · replace h := kr_ip c27 h
      refine r_tableIn (x := i595) (tgt := 2019) d_W_law_40 (by rw [c27]; decide) (by rw [c27]; decide) (by rw [c27]; rfl) rfl ?_
      exact kr_sub [0, 1, 2, 3, 4] rfl (s_W_law_B2019 hk23 h)
    replace h := kr_in_ c27 h
    by_cases c28 : i595 = (28 : Int32)
    · replace h := kr_ip c28 h
      refine r_tableIn (x := i595) (tgt := 2075) d_W_law_40 (by rw [c28]; decide) (by rw [c28]; decide) (by rw [c28]; rfl) rfl ?_
      exact kr_sub [0, 1, 2, 3, 4] rfl (s_W_law_B2075 hk23 h)
    replace h := kr_in_ c28 h
    by_cases c29 : i595 = (29 : Int32)
    · replace h := kr_ip c29 h
      refine r_tableIn (x := i595) (tgt := 2143) d_W_law_40 (by rw [c29]; decide) (by rw [c29]; decide) (by rw [c29]; rfl) rfl ?_
      exact kr_sub [0, 1, 2, 3, 4] rfl (s_W_law_B2143 hk23 h)
    replace h := kr_in_ c29 h
    by_cases c30 : i595 = (30 : Int32)
    · replace h := kr_ip c30 h
      refine r_tableIn (x := i595) (tgt := 2206) d_W_law_40 (by rw [c30]; decide) (by rw [c30]; decide) (by rw [c30]; rfl) rfl ?_
      exact kr_sub [0, 1, 2, 3, 4] rfl (s_W_law_B2206 hk23 h)
    replace h := kr_in_ c30 h
    by_cases c31 : i595 = (31 : Int32)
    · replace h := kr_ip c31 h
      refine r_tableIn (x := i595) (tgt := 2262) d_W_law_40 (by rw [c31]; decide) (by rw [c31]; decide) (by rw [c31]; rfl) rfl ?_
      exact kr_sub [0, 1, 2, 3, 4] rfl (s_W_law_B2262 hk23 h)
    replace h := kr_in_ c31 h
    by_cases c32 : i595 = (32 : Int32)
    · replace h := kr_ip c32 h
      refine r_tableIn (x := i595) (tgt := 2342) d_W_law_40 (by rw [c32]; decide) (by rw [c32]; decide) (by rw [c32]; rfl) rfl ?_
      exact kr_sub [0, 1, 2, 3, 4] rfl (s_W_law_B2342 hk23 h)
    replace h := kr_in_ c32 h
    by_cases c33 : i595 = (33 : Int32)
    · replace h := kr_ip c33 h
      refine r_tableIn (x := i595) (tgt := 2398) d_W_law_40 (by rw [c33]; decide) (by rw [c33]; decide) (by rw [c33]; rfl) rfl ?_
      exact kr_sub [0, 1, 2, 3, 4] rfl (s_W_law_B2398 hk23 h)
    replace h := kr_in_ c33 h
    by_cases c34 : i595 = (34 : Int32)
    · replace h := kr_ip c34 h
      refine r_tableIn (x := i595) (tgt := 2442) d_W_law_40 (by rw [c34]; decide) (by rw [c34]; decide) (by rw [c34]; rfl) rfl ?_
      exact kr_sub [0, 1, 2, 3, 4] rfl (s_W_law_B2442 hk23 h)
    replace h := kr_in_ c34 h
    by_cases c35 : i595 = (35 : Int32)
    · replace h := kr_ip c35 h
      refine r_tableIn (x := i595) (tgt := 2486) d_W_law_40 (by rw [c35]; decide) (by rw [c35]; decide) (by rw [c35]; rfl) rfl ?_
      exact kr_sub [0, 1, 2, 3, 4] rfl (s_W_law_B2486 hk23 h)
    replace h := kr_in_ c35 h
    by_cases c36 : i595 = (36 : Int32)
    · replace h := kr_ip c36 h
      refine r_tableIn (x := i595) (tgt := 2499) d_W_law_40 (by rw [c36]; decide) (by rw [c36]; decide) (by rw [c36]; rfl) rfl ?_
      exact kr_sub [0, 1, 2, 3, 4] rfl (s_W_law_B2499 hk23 h)
    replace h := kr_in_ c36 h
    by_cases c37 : i595 = (37 : Int32)
    · replace h := kr_ip c37 h
      refine r_tableIn (x := i595) (tgt := 2562) d_W_law_40 (by rw [c37]; decide) (by rw [c37]; decide) (by rw [c37]; rfl) rfl ?_
      exact kr_sub [0, 1, 2, 3, 4] rfl (s_W_law_B2562 hk23 h)
    replace h := kr_in_ c37 h
    by_cases c38 : i595 = (38 : Int32)
    · replace h := kr_ip c38 h
      refine r_tableIn (x := i595) (tgt := 2618) d_W_law_40 (by rw [c38]; decide) (by rw [c38]; decide) (by rw [c38]; rfl) rfl ?_
      exact kr_sub [0, 1, 2, 3, 4] rfl (s_W_law_B2618 hk23 h)
    replace h := kr_in_ c38 h
    by_cases c39 : i595 = (39 : Int32)
    · replace h := kr_ip c39 h
      refine r_tableIn (x := i595) (tgt := 2698) d_W_law_40 (by rw [c39]; decide) (by rw [c39]; decide) (by rw [c39]; rfl) rfl ?_
      exact kr_sub [0, 1, 2, 3, 4] rfl (s_W_law_B2698 hk23 h)
    replace h := kr_in_ c39 h
    by_cases c40 : i595 = (40 : Int32)
    · replace h := kr_ip c40 h
      refine r_tableIn (x := i595) (tgt := 2754) d_W_law_40 (by rw [c40]; decide) (by rw [c40]; decide) (by rw [c40]; rfl) rfl ?_
      exact kr_sub [0, 1, 2, 3, 4] rfl (s_W_law_B2754 hk23 h)
    replace h := kr_in_ c40 h
    by_cases c41 : i595 = (41 : Int32)
    · replace h := kr_ip c41 h
      refine r_tableIn (x := i595) (tgt := 2810) d_W_law_40 (by rw [c41]; decide) (by rw [c41]; decide) (by rw [c41]; rfl) rfl ?_
      exact kr_sub [0, 1, 2, 3, 4] rfl (s_W_law_B2810 hk23 h)
    replace h := kr_in_ c41 h
    by_cases c42 : i595 = (42 : Int32)
    · replace h := kr_ip c42 h
      refine r_tableIn (x := i595) (tgt := 2878) d_W_law_40 (by rw [c42]; decide) (by rw [c42]; decide) (by rw [c42]; rfl) rfl ?_
      exact kr_sub [0, 1, 2, 3, 4] rfl (s_W_law_B2878 hk23 h)
    replace h := kr_in_ c42 h
    by_cases c43 : i595 = (43 : Int32)
    · replace h := kr_ip c43 h
      refine r_tableIn (x := i595) (tgt := 2946) d_W_law_40 (by rw [c43]; decide) (by rw [c43]; decide) (by rw [c43]; rfl) rfl ?_
      exact kr_sub [0, 1, 2, 3, 4] rfl (s_W_law_B2946 hk23 h)
    replace h := kr_in_ c43 h
    by_cases c44 : i595 = (44 : Int32)
    · replace h := kr_ip c44 h
      refine r_tableIn (x := i595) (tgt := 3002) d_W_law_40 (by rw [c44]; decide) (by rw [c44]; decide) (by rw [c44]; rfl) rfl ?_
      exact kr_sub [0, 1, 2, 3, 4] rfl (s_W_law_B3002 hk23 h)
    replace h := kr_in_ c44 h
    by_cases c45 : i595 = (45 : Int32)
    · replace h := kr_ip c45 h
      refine r_tableIn (x := i595) (tgt := 3070) d_W_law_40 (by rw [c45]; decide) (by rw [c45]; decide) (by rw [c45]; rfl) rfl ?_
      exact kr_sub [0, 1, 2, 3, 4] rfl (s_W_law_B3070 hk23 h)
    replace h := kr_in_ c45 h
    by_cases c46 : i595 = (46 : Int32)
    · replace h := kr_ip c46 h
      refine r_tableIn (x := i595) (tgt := 3126) d_W_law_40 (by rw [c46]; decide) (by rw [c46]; decide) (by rw [c46]; rfl) rfl ?_
      exact kr_sub [0, 1, 2, 3, 4] rfl (s_W_law_B3126 hk23 h)
    replace h := kr_in_ c46 h
    by_cases c47 : i595 = (47 : Int32)
    · replace h := kr_ip c47 h
      refine r_tableIn (x := i595) (tgt := 3182) d_W_law_40 (by rw [c47]; decide) (by rw [c47]; decide) (by rw [c47]; rfl) rfl ?_
      exact kr_sub [0, 1, 2, 3, 4] rfl (s_W_law_B3182 hk23 h)
    replace h := kr_in_ c47 h
    by_cases c48 : i595 = (48 : Int32)
    · replace h := kr_ip c48 h
      refine r_tableIn (x := i595) (tgt := 3195) d_W_law_40 (by rw [c48]; decide) (by rw [c48]; decide) (by rw [c48]; rfl) rfl ?_
      exact kr_sub [0, 1, 2, 3, 4] rfl (s_W_law_B3195 hk23 h)
    replace h := kr_in_ c48 h
    by_cases c49 : i595 = (49 : Int32)
    · replace h := kr_ip c49 h
      refine r_tableIn (x := i595) (tgt := 3251) d_W_law_40 (by rw [c49]; decide) (by rw [c49]; decide) (by rw [c49]; rfl) rfl ?_
      exact kr_sub [0, 1, 2, 3, 4] rfl (s_W_law_B3251 hk23 h)
    replace h := kr_in_ c49 h
    by_cases c50 : i595 = (50 : Int32)
    · replace h := kr_ip c50 h
      refine r_tableIn (x := i595) (tgt := 3264) d_W_law_40 (by rw [c50]; decide) (by rw [c50]; decide) (by rw [c50]; rfl) rfl ?_
      exact kr_sub [0, 1, 2, 3, 4] rfl (s_W_law_B3264 hk23 h)
    replace h := kr_in_ c50 h
    refine r_tableOut (x := i595) (tgt := 3320) d_W_law_40 (kr_tab (lo := 0) (n := 51) (by decide) (by intro j hj; rcases (show j = 0 ∨ j = 1 ∨ j = 2 ∨ j = 3 ∨ j = 4 ∨ j = 5 ∨ j = 6 ∨ j = 7 ∨ j = 8 ∨ j = 9 ∨ j = 10 ∨ j = 11 ∨ j = 12 ∨ j = 13 ∨ j = 14 ∨ j = 15 ∨ j = 16 ∨ j = 17 ∨ j = 18 ∨ j = 19 ∨ j = 20 ∨ j = 21 ∨ j = 22 ∨ j = 23 ∨ j = 24 ∨ j = 25 ∨ j = 26 ∨ j = 27 ∨ j = 28 ∨ j = 29 ∨ j = 30 ∨ j = 31 ∨ j = 32 ∨ j = 33 ∨ j = 34 ∨ j = 35 ∨ j = 36 ∨ j = 37 ∨ j = 38 ∨ j = 39 ∨ j = 40 ∨ j = 41 ∨ j = 42 ∨ j = 43 ∨ j = 44 ∨ j = 45 ∨ j = 46 ∨ j = 47 ∨ j = 48 ∨ j = 49 ∨ j = 50 by omega) with rfl | rfl | rfl | rfl | rfl | rfl | rfl | rfl | rfl | rfl | rfl | rfl | rfl | rfl | rfl | rfl | rfl | rfl | rfl | rfl | rfl | rfl | rfl | rfl | rfl | rfl | rfl | rfl | rfl | rfl | rfl | rfl | rfl | rfl | rfl | rfl | rfl | rfl | rfl | rfl | rfl | rfl | rfl | rfl | rfl | rfl | rfl | rfl | rfl | rfl | rfl <;> first | exact c0 | exact c1 | exact c2 | exact c3 | exact c4 | exact c5 | exact c6 | exact c7 | exact c8 | exact c9 | exact c10 | exact c11 | exact c12 | exact c13 | exact c14 | exact c15 | exact c16 | exact c17 | exact c18 | exact c19 | exact c20 | exact c21 | exact c22 | exact c23 | exact c24 | exact c25 | exact c26 | exact c27 | exact c28 | exact c29 | exact c30 | exact c31 | exact c32 | exact c33 | exact c34 | exact c35 | exact c36 | exact c37 | exact c38 | exact c39 | exact c40 | exact c41 | exact c42 | exact c43 | exact c44 | exact c45 | exact c46 | exact c47 | exact c48 | exact c49 | exact c50)) rfl ?_
    exact kr_sub [0, 1, 2, 3, 4] rfl (s_W_law_B3320 hk23 h)
theorem s_W_law_L23 {X : Nat → Int32} {L : Nat} (n : Nat) : ∀ {S : AS} {x1 : Option Nat} {x2 : Option Nat} {x3 : Option Nat} {x4 : Int32} {r : (Int32 × AS)}, f_W_law_L23 X L n S x1 x2 x3 x4 = some r → kr_AW (m_W_law X L) 15 23 [(0, va_rf (some 2)), (1, va_rf x1), (2, va_rf x2), (3, va_rf x3), (4, .int x4)] [] S (kr_eI r) := by
  induction n with
  | zero => intro S x1 x2 x3 x4 r h; cases h
  | succ n ih => intro S x1 x2 x3 x4 r h; exact s_W_law_C23 (fun {_} {_} {_} {_} {_} {_} h => ih h) h
set_option maxRecDepth 20000 in
set_option maxHeartbeats 4000000 in
theorem s_W_law {X : Nat → Int32} {L : Nat} {S : AS} {r : (Int32 × AS)} (h : f_W_law X L S = some r) : kr_AW (m_W_law X L) 15 0 [(0, va_rf (some 2))] [] S (kr_eI r) := by
  unfold f_W_law at h
  have h2 := kr_ob h
  clear h
  obtain ⟨S596, eS596, h⟩ := h2
  refine r_newO_ (κ := 22) eS596 (by decide) w104 w105 w75 d_W_law_0 ?_
  refine r_dup (kr_rfcat _) d_W_law_3 ?_
  have h2 := kr_ob h
  clear h
  obtain ⟨S597, eS597, h⟩ := h2
  refine r_callI (M1 := m_K_init) (As := []) (s_K_init eS597) mok_K_init rfl rfl rfl w106 w107 (by decide) (kr_c8 (kr_cR kr_c0)) d_W_law_4 (kr_k0 ?_) kr_kn
  refine r_astore_n (i := 1) (lv' := [(1, va_rf (some (sN S))), (0, va_rf (some 2))]) (by show (1 : Nat) < 7; decide) (by show kr_st _ 1 _ = _; simp [kr_st, kr_rfcat, kr_icat]) d_W_law_7 ?_
  have h2 := kr_ob h
  clear h
  obtain ⟨S598, eS598, h⟩ := h2
  refine r_newO_ (κ := 23) eS598 (by decide) w1431 w1432 w84 d_W_law_8 ?_
  refine r_dup (kr_rfcat _) d_W_law_11 ?_
  have h2 := kr_ob h
  clear h
  obtain ⟨S599, eS599, h⟩ := h2
  refine r_callI (M1 := m_M_init) (As := []) (s_M_init eS599) mok_M_init rfl rfl rfl w1433 w1434 (by decide) (kr_c8 (kr_cR kr_c0)) d_W_law_12 (kr_k0 ?_) kr_kn
  refine r_astore_n (i := 2) (lv' := [(2, va_rf (some (sN S597))), (1, va_rf (some (sN S))), (0, va_rf (some 2))]) (by show (2 : Nat) < 7; decide) (by show kr_st _ 2 _ = _; simp [kr_st, kr_rfcat, kr_icat]) d_W_law_15 ?_
  refine r_iconst (v := (1 : Int32)) (by decide) d_W_law_16 ?_
  have h2 := kr_ob h
  clear h
  obtain ⟨S600, eS600, h⟩ := h2
  refine r_newJ eS600 w2052 d_W_law_17 ?_
  refine r_astore_n (i := 3) (lv' := [(3, va_rf (some (sN S599))), (2, va_rf (some (sN S597))), (1, va_rf (some (sN S))), (0, va_rf (some 2))]) (by show (3 : Nat) < 7; decide) (by show kr_st _ 3 _ = _; simp [kr_st, kr_rfcat, kr_icat]) d_W_law_19 ?_
  refine r_iconst (v := (0 : Int32)) (by decide) d_W_law_20 ?_
  refine r_istore (i := 4) (lv' := [(4, .int (0 : Int32)), (3, va_rf (some (sN S599))), (2, va_rf (some (sN S597))), (1, va_rf (some (sN S))), (0, va_rf (some 2))]) (by show (4 : Nat) < 7; decide) (by show kr_st _ 4 _ = _; simp [kr_st, kr_rfcat, kr_icat]) d_W_law_21 ?_
  exact kr_sub [4, 3, 2, 1, 0] rfl (s_W_law_L23 kr_FU h)
