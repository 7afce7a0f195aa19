/-! KeyringCourtLaw.law([I)Z -/
def f_W_law_B2025 (X : Nat → Int32) (L : Nat) (k23 : AS → Option Nat → Option Nat → Option Nat → Int32 → Option (Int32 × AS)) (S : AS) (x1 : Option Nat) (x2 : Option Nat) (x3 : Option Nat) (x4 : Int32) : Option (Int32 × AS) :=
  (some (x4 + (6 : Int32))).bind fun i1 =>
  k23 S x1 x2 x3 i1
def f_W_law_B260 (X : Nat → Int32) (L : Nat) (k23 : AS → Option Nat → Option Nat → Option Nat → Int32 → Option (Int32 × AS)) (S : AS) (x1 : Option Nat) (x2 : Option Nat) (x3 : Option Nat) (x4 : Int32) : Option (Int32 × AS) :=
  (kr_sx X L (x4 + (1 : Int32))).bind fun v2 =>
  kr_b2 (f_W_pass S x1 v2 x3) fun v4 S3 =>
  (kr_sx X L (x4 + (1 : Int32))).bind fun v5 =>
  (kr_rv S3 23 x2).bind fun u6 =>
  kr_b2 (f_M_pass S3 x2 v5) fun v8 S7 =>
  f_W_law_B2025 X L k23 S7 x1 x2 x3 x4
def f_W_law_B288 (X : Nat → Int32) (L : Nat) (k23 : AS → Option Nat → Option Nat → Option Nat → Int32 → Option (Int32 × AS)) (S : AS) (x1 : Option Nat) (x2 : Option Nat) (x3 : Option Nat) (x4 : Int32) : Option (Int32 × AS) :=
  (kr_sx X L (x4 + (1 : Int32))).bind fun v9 =>
  (kr_sx X L (x4 + (2 : Int32))).bind fun v10 =>
  kr_b2 (f_W_enroll S x1 v9 v10 x3) fun v12 S11 =>
  (kr_sx X L (x4 + (1 : Int32))).bind fun v13 =>
  (kr_sx X L (x4 + (2 : Int32))).bind fun v14 =>
  (kr_rv S11 23 x2).bind fun u15 =>
  kr_b2 (f_M_enroll S11 x2 v13 v14) fun v17 S16 =>
  f_W_law_B2025 X L k23 S16 x1 x2 x3 x4
def f_W_law_B328 (X : Nat → Int32) (L : Nat) (k23 : AS → Option Nat → Option Nat → Option Nat → Int32 → Option (Int32 × AS)) (S : AS) (x1 : Option Nat) (x2 : Option Nat) (x3 : Option Nat) (x4 : Int32) : Option (Int32 × AS) :=
  (kr_sx X L (x4 + (1 : Int32))).bind fun v18 =>
  (kr_sx X L (x4 + (2 : Int32))).bind fun v19 =>
  kr_b2 (f_W_factor S x1 v18 v19 x3) fun v21 S20 =>
  (kr_sx X L (x4 + (1 : Int32))).bind fun v22 =>
  (kr_sx X L (x4 + (2 : Int32))).bind fun v23 =>
  (kr_rv S20 23 x2).bind fun u24 =>
  kr_b2 (f_M_factor S20 x2 v22 v23) fun v26 S25 =>
  f_W_law_B2025 X L k23 S25 x1 x2 x3 x4
def f_W_law_B368 (X : Nat → Int32) (L : Nat) (k23 : AS → Option Nat → Option Nat → Option Nat → Int32 → Option (Int32 × AS)) (S : AS) (x1 : Option Nat) (x2 : Option Nat) (x3 : Option Nat) (x4 : Int32) : Option (Int32 × AS) :=
  (kr_sx X L (x4 + (1 : Int32))).bind fun v27 =>
  (kr_sx X L (x4 + (2 : Int32))).bind fun v28 =>
  (kr_sx X L (x4 + (3 : Int32))).bind fun v29 =>
  (kr_sx X L (x4 + (4 : Int32))).bind fun v30 =>
  (kr_sx X L (x4 + (5 : Int32))).bind fun v31 =>
  kr_b2 (f_W_step S x1 v27 v28 v29 v30 v31 x3) fun v33 S32 =>
  (kr_sx X L (x4 + (1 : Int32))).bind fun v34 =>
  (kr_sx X L (x4 + (2 : Int32))).bind fun v35 =>
  (kr_sx X L (x4 + (3 : Int32))).bind fun v36 =>
  (kr_sx X L (x4 + (4 : Int32))).bind fun v37 =>
  (kr_sx X L (x4 + (5 : Int32))).bind fun v38 =>
  (kr_rv S32 23 x2).bind fun u39 =>
  kr_b2 (f_M_step S32 x2 v34 v35 v36 v37 v38) fun v41 S40 =>
  f_W_law_B2025 X L k23 S40 x1 x2 x3 x4
def f_W_law_B444 (X : Nat → Int32) (L : Nat) (k23 : AS → Option Nat → Option Nat → Option Nat → Int32 → Option (Int32 × AS)) (S : AS) (x1 : Option Nat) (x2 : Option Nat) (x3 : Option Nat) (x4 : Int32) : Option (Int32 × AS) :=
  (kr_rv S 22 x1).bind fun u42 =>
  kr_b2 (f_K_clear S x1) fun v44 S43 =>
  (kr_rv S43 23 x2).bind fun u45 =>
  kr_b2 (f_M_clear S43 x2) fun v47 S46 =>
  f_W_law_B2025 X L k23 S46 x1 x2 x3 x4
def f_W_law_B457 (X : Nat → Int32) (L : Nat) (k23 : AS → Option Nat → Option Nat → Option Nat → Int32 → Option (Int32 × AS)) (S : AS) (x1 : Option Nat) (x2 : Option Nat) (x3 : Option Nat) (x4 : Int32) : Option (Int32 × AS) :=
  kr_b2 (f_W_publish S x1 x3) fun v49 S48 =>
  (kr_rv S48 23 x2).bind fun u50 =>
  kr_b2 (f_M_publish S48 x2) fun v52 S51 =>
  f_W_law_B2025 X L k23 S51 x1 x2 x3 x4
def f_W_law_B473 (X : Nat → Int32) (L : Nat) (k23 : AS → Option Nat → Option Nat → Option Nat → Int32 → Option (Int32 × AS)) (S : AS) (x1 : Option Nat) (x2 : Option Nat) (x3 : Option Nat) (x4 : Int32) : Option (Int32 × AS) :=
  (kr_sx X L (x4 + (1 : Int32))).bind fun v53 =>
  kr_b2 (f_W_weakest S x1 v53 x3) fun v55 S54 =>
  (kr_sx X L (x4 + (1 : Int32))).bind fun v56 =>
  (kr_rv S54 23 x2).bind fun u57 =>
  kr_b2 (f_M_weakest S54 x2 v56) fun v59 S58 =>
  f_W_law_B2025 X L k23 S58 x1 x2 x3 x4
def f_W_law_B561 (X : Nat → Int32) (L : Nat) (k23 : AS → Option Nat → Option Nat → Option Nat → Int32 → Option (Int32 × AS)) (S : AS) (x1 : Option Nat) (x2 : Option Nat) (x3 : Option Nat) (x4 : Int32) (y0 : Option Nat) (y1 : Int32) (y2 : Int32) (y3 : Int32) : Option (Int32 × AS) :=
  (kr_rv S 23 y0).bind fun u60 =>
  kr_b2 (f_M_points S y0 y1 y2 y3) fun v62 S61 =>
  f_W_law_B2025 X L k23 S61 x1 x2 x3 x4
def f_W_law_B528 (X : Nat → Int32) (L : Nat) (k23 : AS → Option Nat → Option Nat → Option Nat → Int32 → Option (Int32 × AS)) (S : AS) (x1 : Option Nat) (x2 : Option Nat) (x3 : Option Nat) (x4 : Int32) (y0 : Option Nat) (y1 : Int32) (y2 : Int32) (y3 : Int32) : Option (Int32 × AS) :=
  kr_b2 (f_W_points S y0 y1 y2 y3 x3) fun v64 S63 =>
  (kr_sx X L (x4 + (1 : Int32))).bind fun v65 =>
  (kr_sx X L (x4 + (2 : Int32))).bind fun v66 =>
  (kr_sx X L (x4 + (3 : Int32))).bind fun v67 =>
  if v67 = 0 then
  f_W_law_B561 X L k23 S63 x1 x2 x3 x4 x2 v65 v66 (0 : Int32)
  else
  f_W_law_B561 X L k23 S63 x1 x2 x3 x4 x2 v65 v66 (1 : Int32)
def f_W_law_B501 (X : Nat → Int32) (L : Nat) (k23 : AS → Option Nat → Option Nat → Option Nat → Int32 → Option (Int32 × AS)) (S : AS) (x1 : Option Nat) (x2 : Option Nat) (x3 : Option Nat) (x4 : Int32) : Option (Int32 × AS) :=
  (kr_sx X L (x4 + (1 : Int32))).bind fun v68 =>
  (kr_sx X L (x4 + (2 : Int32))).bind fun v69 =>
  (kr_sx X L (x4 + (3 : Int32))).bind fun v70 =>
  if v70 = 0 then
  f_W_law_B528 X L k23 S x1 x2 x3 x4 x1 v68 v69 (0 : Int32)
  else
  f_W_law_B528 X L k23 S x1 x2 x3 x4 x1 v68 v69 (1 : Int32)
def f_W_law_B569 (X : Nat → Int32) (L : Nat) (k23 : AS → Option Nat → Option Nat → Option Nat → Int32 → Option (Int32 × AS)) (S : AS) (x1 : Option Nat) (x2 : Option Nat) (x3 : Option Nat) (x4 : Int32) : Option (Int32 × AS) :=
  (kr_sx X L (x4 + (1 : Int32))).bind fun v71 =>
  (kr_sx X L (x4 + (2 : Int32))).bind fun v72 =>
  (kr_sx X L (x4 + (3 : Int32))).bind fun v73 =>
  kr_b2 (f_W_begin S x1 v71 v72 v73 x3) fun v75 S74 =>
  (kr_sx X L (x4 + (1 : Int32))).bind fun v76 =>
  (kr_sx X L (x4 + (2 : Int32))).bind fun v77 =>
  (kr_sx X L (x4 + (3 : Int32))).bind fun v78 =>
  (kr_rv S74 23 x2).bind fun u79 =>
  kr_b2 (f_M_begin S74 x2 v76 v77 v78) fun v81 S80 =>
  f_W_law_B2025 X L k23 S80 x1 x2 x3 x4
def f_W_law_B675 (X : Nat → Int32) (L : Nat) (k23 : AS → Option Nat → Option Nat → Option Nat → Int32 → Option (Int32 × AS)) (S : AS) (x1 : Option Nat) (x2 : Option Nat) (x3 : Option Nat) (x4 : Int32) (y0 : Option Nat) (y1 : Int32) (y2 : Int32) : Option (Int32 × AS) :=
  (kr_sx X L (x4 + (3 : Int32))).bind fun v82 =>
  (kr_rv S 23 y0).bind fun u83 =>
  kr_b2 (f_M_answer S y0 y1 y2 v82) fun v85 S84 =>
  f_W_law_B2025 X L k23 S84 x1 x2 x3 x4
def f_W_law_B642 (X : Nat → Int32) (L : Nat) (k23 : AS → Option Nat → Option Nat → Option Nat → Int32 → Option (Int32 × AS)) (S : AS) (x1 : Option Nat) (x2 : Option Nat) (x3 : Option Nat) (x4 : Int32) (y0 : Option Nat) (y1 : Int32) (y2 : Int32) : Option (Int32 × AS) :=
  (kr_sx X L (x4 + (3 : Int32))).bind fun v86 =>
  kr_b2 (f_W_answer S y0 y1 y2 v86 x3) fun v88 S87 =>
  (kr_sx X L (x4 + (1 : Int32))).bind fun v89 =>
  (kr_sx X L (x4 + (2 : Int32))).bind fun v90 =>
  if v90 = 0 then
  f_W_law_B675 X L k23 S87 x1 x2 x3 x4 x2 v89 (0 : Int32)
  else
  f_W_law_B675 X L k23 S87 x1 x2 x3 x4 x2 v89 (1 : Int32)
def f_W_law_B621 (X : Nat → Int32) (L : Nat) (k23 : AS → Option Nat → Option Nat → Option Nat → Int32 → Option (Int32 × AS)) (S : AS) (x1 : Option Nat) (x2 : Option Nat) (x3 : Option Nat) (x4 : Int32) : Option (Int32 × AS) :=
  (kr_sx X L (x4 + (1 : Int32))).bind fun v91 =>
  (kr_sx X L (x4 + (2 : Int32))).bind fun v92 =>
  if v92 = 0 then
  f_W_law_B642 X L k23 S x1 x2 x3 x4 x1 v91 (0 : Int32)
  else
  f_W_law_B642 X L k23 S x1 x2 x3 x4 x1 v91 (1 : Int32)
def f_W_law_B689 (X : Nat → Int32) (L : Nat) (k23 : AS → Option Nat → Option Nat → Option Nat → Int32 → Option (Int32 × AS)) (S : AS) (x1 : Option Nat) (x2 : Option Nat) (x3 : Option Nat) (x4 : Int32) : Option (Int32 × AS) :=
  (kr_sx X L (x4 + (1 : Int32))).bind fun v93 =>
  kr_b2 (f_W_state S x1 v93 x3) fun v95 S94 =>
  (kr_sx X L (x4 + (1 : Int32))).bind fun v96 =>
  (kr_rv S94 23 x2).bind fun u97 =>
  kr_b2 (f_M_state S94 x2 v96) fun v99 S98 =>
  f_W_law_B2025 X L k23 S98 x1 x2 x3 x4
def f_W_law_B717 (X : Nat → Int32) (L : Nat) (k23 : AS → Option Nat → Option Nat → Option Nat → Int32 → Option (Int32 × AS)) (S : AS) (x1 : Option Nat) (x2 : Option Nat) (x3 : Option Nat) (x4 : Int32) : Option (Int32 × AS) :=
  (kr_sx X L (x4 + (1 : Int32))).bind fun v100 =>
  kr_b2 (f_W_asked S x1 v100 x3) fun v102 S101 =>
  (kr_sx X L (x4 + (1 : Int32))).bind fun v103 =>
  (kr_rv S101 23 x2).bind fun u104 =>
  kr_b2 (f_M_asked S101 x2 v103) fun v106 S105 =>
  f_W_law_B2025 X L k23 S105 x1 x2 x3 x4
def f_W_law_B745 (X : Nat → Int32) (L : Nat) (k23 : AS → Option Nat → Option Nat → Option Nat → Int32 → Option (Int32 × AS)) (S : AS) (x1 : Option Nat) (x2 : Option Nat) (x3 : Option Nat) (x4 : Int32) : Option (Int32 × AS) :=
  (kr_sx X L (x4 + (1 : Int32))).bind fun v107 =>
  kr_b2 (f_W_sessionOf S x1 v107 x3) fun v109 S108 =>
  (kr_sx X L (x4 + (1 : Int32))).bind fun v110 =>
  (kr_rv S108 23 x2).bind fun u111 =>
  kr_b2 (f_M_sessionOf S108 x2 v110) fun v113 S112 =>
  f_W_law_B2025 X L k23 S112 x1 x2 x3 x4
def f_W_law_B773 (X : Nat → Int32) (L : Nat) (k23 : AS → Option Nat → Option Nat → Option Nat → Int32 → Option (Int32 × AS)) (S : AS) (x1 : Option Nat) (x2 : Option Nat) (x3 : Option Nat) (x4 : Int32) : Option (Int32 × AS) :=
  (kr_sx X L (x4 + (1 : Int32))).bind fun v114 =>
  kr_b2 (f_W_risk S x1 v114 x3) fun v116 S115 =>
  (kr_sx X L (x4 + (1 : Int32))).bind fun v117 =>
  (kr_rv S115 23 x2).bind fun u118 =>
  kr_b2 (f_M_risk S115 x2 v117) fun v120 S119 =>
  f_W_law_B2025 X L k23 S119 x1 x2 x3 x4
def f_W_law_B801 (X : Nat → Int32) (L : Nat) (k23 : AS → Option Nat → Option Nat → Option Nat → Int32 → Option (Int32 × AS)) (S : AS) (x1 : Option Nat) (x2 : Option Nat) (x3 : Option Nat) (x4 : Int32) : Option (Int32 × AS) :=
  (kr_sx X L (x4 + (1 : Int32))).bind fun v121 =>
  kr_b2 (f_W_trialRisk S x1 v121 x3) fun v123 S122 =>
  (kr_sx X L (x4 + (1 : Int32))).bind fun v124 =>
  (kr_rv S122 23 x2).bind fun u125 =>
  kr_b2 (f_M_trialRisk S122 x2 v124) fun v127 S126 =>
  f_W_law_B2025 X L k23 S126 x1 x2 x3 x4
def f_W_law_B829 (X : Nat → Int32) (L : Nat) (k23 : AS → Option Nat → Option Nat → Option Nat → Int32 → Option (Int32 × AS)) (S : AS) (x1 : Option Nat) (x2 : Option Nat) (x3 : Option Nat) (x4 : Int32) : Option (Int32 × AS) :=
  (kr_rv S 22 x1).bind fun u128 =>
  kr_b2 (f_K_sessions S x1) fun v130 S129 =>
  (kr_rv S129 23 x2).bind fun u131 =>
  kr_b2 (f_M_sessions S129 x2) fun v133 S132 =>
  f_W_law_B2025 X L k23 S132 x1 x2 x3 x4
def f_W_law_B842 (X : Nat → Int32) (L : Nat) (k23 : AS → Option Nat → Option Nat → Option Nat → Int32 → Option (Int32 × AS)) (S : AS) (x1 : Option Nat) (x2 : Option Nat) (x3 : Option Nat) (x4 : Int32) : Option (Int32 × AS) :=
  (kr_sx X L (x4 + (1 : Int32))).bind fun v134 =>
  kr_b2 (f_W_isLive S x1 v134 x3) fun v136 S135 =>
  (kr_sx X L (x4 + (1 : Int32))).bind fun v137 =>
  (kr_rv S135 23 x2).bind fun u138 =>
  kr_b2 (f_M_isLive S135 x2 v137) fun v140 S139 =>
  f_W_law_B2025 X L k23 S139 x1 x2 x3 x4
def f_W_law_B870 (X : Nat → Int32) (L : Nat) (k23 : AS → Option Nat → Option Nat → Option Nat → Int32 → Option (Int32 × AS)) (S : AS) (x1 : Option Nat) (x2 : Option Nat) (x3 : Option Nat) (x4 : Int32) : Option (Int32 × AS) :=
  (kr_sx X L (x4 + (1 : Int32))).bind fun v141 =>
  kr_b2 (f_W_isLiveByAudit S x1 v141 x3) fun v143 S142 =>
  (kr_sx X L (x4 + (1 : Int32))).bind fun v144 =>
  (kr_rv S142 23 x2).bind fun u145 =>
  kr_b2 (f_M_isLiveByAudit S142 x2 v144) fun v147 S146 =>
  f_W_law_B2025 X L k23 S146 x1 x2 x3 x4
def f_W_law_B898 (X : Nat → Int32) (L : Nat) (k23 : AS → Option Nat → Option Nat → Option Nat → Int32 → Option (Int32 × AS)) (S : AS) (x1 : Option Nat) (x2 : Option Nat) (x3 : Option Nat) (x4 : Int32) : Option (Int32 × AS) :=
  (kr_sx X L (x4 + (1 : Int32))).bind fun v148 =>
  kr_b2 (f_W_level S x1 v148 x3) fun v150 S149 =>
  (kr_sx X L (x4 + (1 : Int32))).bind fun v151 =>
  (kr_rv S149 23 x2).bind fun u152 =>
  kr_b2 (f_M_level S149 x2 v151) fun v154 S153 =>
  f_W_law_B2025 X L k23 S153 x1 x2 x3 x4
def f_W_law_B992 (X : Nat → Int32) (L : Nat) (k23 : AS → Option Nat → Option Nat → Option Nat → Int32 → Option (Int32 × AS)) (S : AS) (x1 : Option Nat) (x2 : Option Nat) (x3 : Option Nat) (x4 : Int32) (y0 : Option Nat) (y1 : Int32) (y2 : Int32) (y3 : Int32) : Option (Int32 × AS) :=
  (kr_sx X L (x4 + (4 : Int32))).bind fun v155 =>
  (kr_rv S 23 y0).bind fun u156 =>
  kr_b2 (f_M_stepUp S y0 y1 y2 y3 v155) fun v158 S157 =>
  f_W_law_B2025 X L k23 S157 x1 x2 x3 x4
def f_W_law_B953 (X : Nat → Int32) (L : Nat) (k23 : AS → Option Nat → Option Nat → Option Nat → Int32 → Option (Int32 × AS)) (S : AS) (x1 : Option Nat) (x2 : Option Nat) (x3 : Option Nat) (x4 : Int32) (y0 : Option Nat) (y1 : Int32) (y2 : Int32) (y3 : Int32) : Option (Int32 × AS) :=
  (kr_sx X L (x4 + (4 : Int32))).bind fun v159 =>
  kr_b2 (f_W_stepUp S y0 y1 y2 y3 v159 x3) fun v161 S160 =>
  (kr_sx X L (x4 + (1 : Int32))).bind fun v162 =>
  (kr_sx X L (x4 + (2 : Int32))).bind fun v163 =>
  (kr_sx X L (x4 + (3 : Int32))).bind fun v164 =>
  if v164 = 0 then
  f_W_law_B992 X L k23 S160 x1 x2 x3 x4 x2 v162 v163 (0 : Int32)
  else
  f_W_law_B992 X L k23 S160 x1 x2 x3 x4 x2 v162 v163 (1 : Int32)
def f_W_law_B926 (X : Nat → Int32) (L : Nat) (k23 : AS → Option Nat → Option Nat → Option Nat → Int32 → Option (Int32 × AS)) (S : AS) (x1 : Option Nat) (x2 : Option Nat) (x3 : Option Nat) (x4 : Int32) : Option (Int32 × AS) :=
  (kr_sx X L (x4 + (1 : Int32))).bind fun v165 =>
  (kr_sx X L (x4 + (2 : Int32))).bind fun v166 =>
  (kr_sx X L (x4 + (3 : Int32))).bind fun v167 =>
  if v167 = 0 then
  f_W_law_B953 X L k23 S x1 x2 x3 x4 x1 v165 v166 (0 : Int32)
  else
  f_W_law_B953 X L k23 S x1 x2 x3 x4 x1 v165 v166 (1 : Int32)
def f_W_law_B1006 (X : Nat → Int32) (L : Nat) (k23 : AS → Option Nat → Option Nat → Option Nat → Int32 → Option (Int32 × AS)) (S : AS) (x1 : Option Nat) (x2 : Option Nat) (x3 : Option Nat) (x4 : Int32) : Option (Int32 × AS) :=
  (kr_sx X L (x4 + (1 : Int32))).bind fun v168 =>
  kr_b2 (f_W_signOut S x1 v168 x3) fun v170 S169 =>
  (kr_sx X L (x4 + (1 : Int32))).bind fun v171 =>
  (kr_rv S169 23 x2).bind fun u172 =>
  kr_b2 (f_M_signOut S169 x2 v171) fun v174 S173 =>
  f_W_law_B2025 X L k23 S173 x1 x2 x3 x4
def f_W_law_B1034 (X : Nat → Int32) (L : Nat) (k23 : AS → Option Nat → Option Nat → Option Nat → Int32 → Option (Int32 × AS)) (S : AS) (x1 : Option Nat) (x2 : Option Nat) (x3 : Option Nat) (x4 : Int32) : Option (Int32 × AS) :=
  (kr_sx X L (x4 + (1 : Int32))).bind fun v175 =>
  kr_b2 (f_W_helper S x1 v175 x3) fun v177 S176 =>
  (kr_sx X L (x4 + (1 : Int32))).bind fun v178 =>
  (kr_rv S176 23 x2).bind fun u179 =>
  kr_b2 (f_M_helper S176 x2 v178) fun v181 S180 =>
  f_W_law_B2025 X L k23 S180 x1 x2 x3 x4
def f_W_law_B1062 (X : Nat → Int32) (L : Nat) (k23 : AS → Option Nat → Option Nat → Option Nat → Int32 → Option (Int32 × AS)) (S : AS) (x1 : Option Nat) (x2 : Option Nat) (x3 : Option Nat) (x4 : Int32) : Option (Int32 × AS) :=
  (kr_sx X L (x4 + (1 : Int32))).bind fun v182 =>
  (kr_sx X L (x4 + (2 : Int32))).bind fun v183 =>
  kr_b2 (f_W_act S x1 v182 v183 x3) fun v185 S184 =>
  (kr_sx X L (x4 + (1 : Int32))).bind fun v186 =>
  (kr_sx X L (x4 + (2 : Int32))).bind fun v187 =>
  (kr_rv S184 23 x2).bind fun u188 =>
  kr_b2 (f_M_act S184 x2 v186 v187) fun v190 S189 =>
  f_W_law_B2025 X L k23 S189 x1 x2 x3 x4
def f_W_law_B1102 (X : Nat → Int32) (L : Nat) (k23 : AS → Option Nat → Option Nat → Option Nat → Int32 → Option (Int32 × AS)) (S : AS) (x1 : Option Nat) (x2 : Option Nat) (x3 : Option Nat) (x4 : Int32) : Option (Int32 × AS) :=
  (kr_sx X L (x4 + (1 : Int32))).bind fun v191 =>
  (kr_sx X L (x4 + (2 : Int32))).bind fun v192 =>
  (kr_sx X L (x4 + (3 : Int32))).bind fun v193 =>
  kr_b2 (f_W_consent S x1 v191 v192 v193 x3) fun v195 S194 =>
  (kr_sx X L (x4 + (1 : Int32))).bind fun v196 =>
  (kr_sx X L (x4 + (2 : Int32))).bind fun v197 =>
  (kr_sx X L (x4 + (3 : Int32))).bind fun v198 =>
  (kr_rv S194 23 x2).bind fun u199 =>
  kr_b2 (f_M_consent S194 x2 v196 v197 v198) fun v201 S200 =>
  f_W_law_B2025 X L k23 S200 x1 x2 x3 x4
def f_W_law_B1154 (X : Nat → Int32) (L : Nat) (k23 : AS → Option Nat → Option Nat → Option Nat → Int32 → Option (Int32 × AS)) (S : AS) (x1 : Option Nat) (x2 : Option Nat) (x3 : Option Nat) (x4 : Int32) : Option (Int32 × AS) :=
  (kr_sx X L (x4 + (1 : Int32))).bind fun v202 =>
  (kr_sx X L (x4 + (2 : Int32))).bind fun v203 =>
  kr_b2 (f_W_withdraw S x1 v202 v203 x3) fun v205 S204 =>
  (kr_sx X L (x4 + (1 : Int32))).bind fun v206 =>
  (kr_sx X L (x4 + (2 : Int32))).bind fun v207 =>
  (kr_rv S204 23 x2).bind fun u208 =>
  kr_b2 (f_M_withdraw S204 x2 v206 v207) fun v210 S209 =>
  f_W_law_B2025 X L k23 S209 x1 x2 x3 x4
def f_W_law_B1194 (X : Nat → Int32) (L : Nat) (k23 : AS → Option Nat → Option Nat → Option Nat → Int32 → Option (Int32 × AS)) (S : AS) (x1 : Option Nat) (x2 : Option Nat) (x3 : Option Nat) (x4 : Int32) : Option (Int32 × AS) :=
  (kr_sx X L (x4 + (1 : Int32))).bind fun v211 =>
  (kr_sx X L (x4 + (2 : Int32))).bind fun v212 =>
  kr_b2 (f_W_need S x1 v211 v212 x3) fun v214 S213 =>
  (kr_sx X L (x4 + (1 : Int32))).bind fun v215 =>
  (kr_sx X L (x4 + (2 : Int32))).bind fun v216 =>
  (kr_rv S213 23 x2).bind fun u217 =>
  kr_b2 (f_M_need S213 x2 v215 v216) fun v219 S218 =>
  f_W_law_B2025 X L k23 S218 x1 x2 x3 x4
def f_W_law_B1234 (X : Nat → Int32) (L : Nat) (k23 : AS → Option Nat → Option Nat → Option Nat → Int32 → Option (Int32 × AS)) (S : AS) (x1 : Option Nat) (x2 : Option Nat) (x3 : Option Nat) (x4 : Int32) : Option (Int32 × AS) :=
  (kr_sx X L (x4 + (1 : Int32))).bind fun v220 =>
  (kr_sx X L (x4 + (2 : Int32))).bind fun v221 =>
  (kr_sx X L (x4 + (3 : Int32))).bind fun v222 =>
  (kr_sx X L (x4 + (4 : Int32))).bind fun v223 =>
  kr_b2 (f_W_authorize S x1 v220 v221 v222 v223 x3) fun v225 S224 =>
  (kr_sx X L (x4 + (1 : Int32))).bind fun v226 =>
  (kr_sx X L (x4 + (2 : Int32))).bind fun v227 =>
  (kr_sx X L (x4 + (3 : Int32))).bind fun v228 =>
  (kr_sx X L (x4 + (4 : Int32))).bind fun v229 =>
  (kr_rv S224 23 x2).bind fun u230 =>
  kr_b2 (f_M_authorize S224 x2 v226 v227 v228 v229) fun v232 S231 =>
  f_W_law_B2025 X L k23 S231 x1 x2 x3 x4
def f_W_law_B1298 (X : Nat → Int32) (L : Nat) (k23 : AS → Option Nat → Option Nat → Option Nat → Int32 → Option (Int32 × AS)) (S : AS) (x1 : Option Nat) (x2 : Option Nat) (x3 : Option Nat) (x4 : Int32) : Option (Int32 × AS) :=
  (kr_sx X L (x4 + (1 : Int32))).bind fun v233 =>
  kr_b2 (f_W_redeem S x1 v233 x3) fun v235 S234 =>
  (kr_sx X L (x4 + (1 : Int32))).bind fun v236 =>
  (kr_rv S234 23 x2).bind fun u237 =>
  kr_b2 (f_M_redeem S234 x2 v236) fun v239 S238 =>
  f_W_law_B2025 X L k23 S238 x1 x2 x3 x4
def f_W_law_B1326 (X : Nat → Int32) (L : Nat) (k23 : AS → Option Nat → Option Nat → Option Nat → Int32 → Option (Int32 × AS)) (S : AS) (x1 : Option Nat) (x2 : Option Nat) (x3 : Option Nat) (x4 : Int32) : Option (Int32 × AS) :=
  (kr_sx X L (x4 + (1 : Int32))).bind fun v240 =>
  (kr_sx X L (x4 + (2 : Int32))).bind fun v241 =>
  kr_b2 (f_W_refresh S x1 v240 v241 x3) fun v243 S242 =>
  (kr_sx X L (x4 + (1 : Int32))).bind fun v244 =>
  (kr_sx X L (x4 + (2 : Int32))).bind fun v245 =>
  (kr_rv S242 23 x2).bind fun u246 =>
  kr_b2 (f_M_refresh S242 x2 v244 v245) fun v248 S247 =>
  f_W_law_B2025 X L k23 S247 x1 x2 x3 x4
def f_W_law_B1366 (X : Nat → Int32) (L : Nat) (k23 : AS → Option Nat → Option Nat → Option Nat → Int32 → Option (Int32 × AS)) (S : AS) (x1 : Option Nat) (x2 : Option Nat) (x3 : Option Nat) (x4 : Int32) : Option (Int32 × AS) :=
  (kr_sx X L (x4 + (1 : Int32))).bind fun v249 =>
  kr_b2 (f_W_isGood S x1 v249 x3) fun v251 S250 =>
  (kr_sx X L (x4 + (1 : Int32))).bind fun v252 =>
  (kr_rv S250 23 x2).bind fun u253 =>
  kr_b2 (f_M_isGood S250 x2 v252) fun v255 S254 =>
  f_W_law_B2025 X L k23 S254 x1 x2 x3 x4
def f_W_law_B1394 (X : Nat → Int32) (L : Nat) (k23 : AS → Option Nat → Option Nat → Option Nat → Int32 → Option (Int32 × AS)) (S : AS) (x1 : Option Nat) (x2 : Option Nat) (x3 : Option Nat) (x4 : Int32) : Option (Int32 × AS) :=
  (kr_sx X L (x4 + (1 : Int32))).bind fun v256 =>
  kr_b2 (f_W_tokenOf S x1 v256 x3) fun v258 S257 =>
  (kr_sx X L (x4 + (1 : Int32))).bind fun v259 =>
  (kr_rv S257 23 x2).bind fun u260 =>
  kr_b2 (f_M_tokenOf S257 x2 v259) fun v262 S261 =>
  f_W_law_B2025 X L k23 S261 x1 x2 x3 x4
def f_W_law_B1422 (X : Nat → Int32) (L : Nat) (k23 : AS → Option Nat → Option Nat → Option Nat → Int32 → Option (Int32 × AS)) (S : AS) (x1 : Option Nat) (x2 : Option Nat) (x3 : Option Nat) (x4 : Int32) : Option (Int32 × AS) :=
  (kr_sx X L (x4 + (1 : Int32))).bind fun v263 =>
  (kr_sx X L (x4 + (2 : Int32))).bind fun v264 =>
  (kr_sx X L (x4 + (3 : Int32))).bind fun v265 =>
  kr_b2 (f_W_exchange S x1 v263 v264 v265 x3) fun v267 S266 =>
  (kr_sx X L (x4 + (1 : Int32))).bind fun v268 =>
  (kr_sx X L (x4 + (2 : Int32))).bind fun v269 =>
  (kr_sx X L (x4 + (3 : Int32))).bind fun v270 =>
  (kr_rv S266 23 x2).bind fun u271 =>
  kr_b2 (f_M_exchange S266 x2 v268 v269 v270) fun v273 S272 =>
  f_W_law_B2025 X L k23 S272 x1 x2 x3 x4
def f_W_law_B1474 (X : Nat → Int32) (L : Nat) (k23 : AS → Option Nat → Option Nat → Option Nat → Int32 → Option (Int32 × AS)) (S : AS) (x1 : Option Nat) (x2 : Option Nat) (x3 : Option Nat) (x4 : Int32) : Option (Int32 × AS) :=
  (kr_sx X L (x4 + (1 : Int32))).bind fun v274 =>
  kr_b2 (f_W_token S x1 v274 x3) fun v276 S275 =>
  (kr_sx X L (x4 + (1 : Int32))).bind fun v277 =>
  (kr_rv S275 23 x2).bind fun u278 =>
  kr_b2 (f_M_token S275 x2 v277) fun v280 S279 =>
  f_W_law_B2025 X L k23 S279 x1 x2 x3 x4
def f_W_law_B1502 (X : Nat → Int32) (L : Nat) (k23 : AS → Option Nat → Option Nat → Option Nat → Int32 → Option (Int32 × AS)) (S : AS) (x1 : Option Nat) (x2 : Option Nat) (x3 : Option Nat) (x4 : Int32) : Option (Int32 × AS) :=
  kr_b2 (f_W_turn S x1 x3) fun v282 S281 =>
  (kr_rv S281 23 x2).bind fun u283 =>
  kr_b2 (f_M_turn S281 x2) fun v285 S284 =>
  f_W_law_B2025 X L k23 S284 x1 x2 x3 x4
def f_W_law_B1518 (X : Nat → Int32) (L : Nat) (k23 : AS → Option Nat → Option Nat → Option Nat → Int32 → Option (Int32 × AS)) (S : AS) (x1 : Option Nat) (x2 : Option Nat) (x3 : Option Nat) (x4 : Int32) : Option (Int32 × AS) :=
  kr_b2 (f_W_emergency S x1 x3) fun v287 S286 =>
  (kr_rv S286 23 x2).bind fun u288 =>
  kr_b2 (f_M_emergency S286 x2) fun v290 S289 =>
  f_W_law_B2025 X L k23 S289 x1 x2 x3 x4
def f_W_law_B1534 (X : Nat → Int32) (L : Nat) (k23 : AS → Option Nat → Option Nat → Option Nat → Int32 → Option (Int32 × AS)) (S : AS) (x1 : Option Nat) (x2 : Option Nat) (x3 : Option Nat) (x4 : Int32) : Option (Int32 × AS) :=
  (kr_rv S 22 x1).bind fun u291 =>
  kr_b2 (f_K_signing S x1) fun v293 S292 =>
  (kr_rv S292 23 x2).bind fun u294 =>
  kr_b2 (f_M_signing S292 x2) fun v296 S295 =>
  f_W_law_B2025 X L k23 S295 x1 x2 x3 x4
def f_W_law_B1547 (X : Nat → Int32) (L : Nat) (k23 : AS → Option Nat → Option Nat → Option Nat → Int32 → Option (Int32 × AS)) (S : AS) (x1 : Option Nat) (x2 : Option Nat) (x3 : Option Nat) (x4 : Int32) : Option (Int32 × AS) :=
  (kr_sx X L (x4 + (1 : Int32))).bind fun v297 =>
  kr_b2 (f_W_isPublished S x1 v297 x3) fun v299 S298 =>
  (kr_sx X L (x4 + (1 : Int32))).bind fun v300 =>
  (kr_rv S298 23 x2).bind fun u301 =>
  kr_b2 (f_M_isPublished S298 x2 v300) fun v303 S302 =>
  f_W_law_B2025 X L k23 S302 x1 x2 x3 x4
def f_W_law_B1575 (X : Nat → Int32) (L : Nat) (k23 : AS → Option Nat → Option Nat → Option Nat → Int32 → Option (Int32 × AS)) (S : AS) (x1 : Option Nat) (x2 : Option Nat) (x3 : Option Nat) (x4 : Int32) : Option (Int32 × AS) :=
  (kr_sx X L (x4 + (1 : Int32))).bind fun v304 =>
  kr_b2 (f_W_line S x1 v304 x3) fun v306 S305 =>
  (kr_sx X L (x4 + (1 : Int32))).bind fun v307 =>
  (kr_rv S305 23 x2).bind fun u308 =>
  kr_b2 (f_M_line S305 x2 v307) fun v310 S309 =>
  f_W_law_B2025 X L k23 S309 x1 x2 x3 x4
def f_W_law_B1603 (X : Nat → Int32) (L : Nat) (k23 : AS → Option Nat → Option Nat → Option Nat → Int32 → Option (Int32 × AS)) (S : AS) (x1 : Option Nat) (x2 : Option Nat) (x3 : Option Nat) (x4 : Int32) : Option (Int32 × AS) :=
  (kr_sx X L (x4 + (1 : Int32))).bind fun v311 =>
  (kr_sx X L (x4 + (2 : Int32))).bind fun v312 =>
  (kr_sx X L (x4 + (3 : Int32))).bind fun v313 =>
  kr_b2 (f_W_check S x1 v311 v312 v313 x3) fun v315 S314 =>
  (kr_sx X L (x4 + (1 : Int32))).bind fun v316 =>
  (kr_sx X L (x4 + (2 : Int32))).bind fun v317 =>
  (kr_sx X L (x4 + (3 : Int32))).bind fun v318 =>
  (kr_rv S314 23 x2).bind fun u319 =>
  kr_b2 (f_M_check S314 x2 v316 v317 v318) fun v321 S320 =>
  f_W_law_B2025 X L k23 S320 x1 x2 x3 x4
def f_W_law_B1655 (X : Nat → Int32) (L : Nat) (k23 : AS → Option Nat → Option Nat → Option Nat → Int32 → Option (Int32 × AS)) (S : AS) (x1 : Option Nat) (x2 : Option Nat) (x3 : Option Nat) (x4 : Int32) : Option (Int32 × AS) :=
  (kr_sx X L (x4 + (1 : Int32))).bind fun v322 =>
  kr_b2 (f_W_lag S x1 v322 x3) fun v324 S323 =>
  (kr_sx X L (x4 + (1 : Int32))).bind fun v325 =>
  (kr_rv S323 23 x2).bind fun u326 =>
  kr_b2 (f_M_lag S323 x2 v325) fun v328 S327 =>
  f_W_law_B2025 X L k23 S327 x1 x2 x3 x4
def f_W_law_B1683 (X : Nat → Int32) (L : Nat) (k23 : AS → Option Nat → Option Nat → Option Nat → Int32 → Option (Int32 × AS)) (S : AS) (x1 : Option Nat) (x2 : Option Nat) (x3 : Option Nat) (x4 : Int32) : Option (Int32 × AS) :=
  (kr_sx X L (x4 + (1 : Int32))).bind fun v329 =>
  kr_b2 (f_W_recover S x1 v329 x3) fun v331 S330 =>
  (kr_sx X L (x4 + (1 : Int32))).bind fun v332 =>
  (kr_rv S330 23 x2).bind fun u333 =>
  kr_b2 (f_M_recover S330 x2 v332) fun v335 S334 =>
  f_W_law_B2025 X L k23 S334 x1 x2 x3 x4
def f_W_law_B1711 (X : Nat → Int32) (L : Nat) (k23 : AS → Option Nat → Option Nat → Option Nat → Int32 → Option (Int32 × AS)) (S : AS) (x1 : Option Nat) (x2 : Option Nat) (x3 : Option Nat) (x4 : Int32) : Option (Int32 × AS) :=
  (kr_sx X L (x4 + (1 : Int32))).bind fun v336 =>
  (kr_sx X L (x4 + (2 : Int32))).bind fun v337 =>
  kr_b2 (f_W_vouch S x1 v336 v337 x3) fun v339 S338 =>
  (kr_sx X L (x4 + (1 : Int32))).bind fun v340 =>
  (kr_sx X L (x4 + (2 : Int32))).bind fun v341 =>
  (kr_rv S338 23 x2).bind fun u342 =>
  kr_b2 (f_M_vouch S338 x2 v340 v341) fun v344 S343 =>
  f_W_law_B2025 X L k23 S343 x1 x2 x3 x4
def f_W_law_B1751 (X : Nat → Int32) (L : Nat) (k23 : AS → Option Nat → Option Nat → Option Nat → Int32 → Option (Int32 × AS)) (S : AS) (x1 : Option Nat) (x2 : Option Nat) (x3 : Option Nat) (x4 : Int32) : Option (Int32 × AS) :=
  (kr_sx X L (x4 + (1 : Int32))).bind fun v345 =>
  (kr_sx X L (x4 + (2 : Int32))).bind fun v346 =>
  kr_b2 (f_W_stop S x1 v345 v346 x3) fun v348 S347 =>
  (kr_sx X L (x4 + (1 : Int32))).bind fun v349 =>
  (kr_sx X L (x4 + (2 : Int32))).bind fun v350 =>
  (kr_rv S347 23 x2).bind fun u351 =>
  kr_b2 (f_M_stop S347 x2 v349 v350) fun v353 S352 =>
  f_W_law_B2025 X L k23 S352 x1 x2 x3 x4
def f_W_law_B1791 (X : Nat → Int32) (L : Nat) (k23 : AS → Option Nat → Option Nat → Option Nat → Int32 → Option (Int32 × AS)) (S : AS) (x1 : Option Nat) (x2 : Option Nat) (x3 : Option Nat) (x4 : Int32) : Option (Int32 × AS) :=
  (kr_sx X L (x4 + (1 : Int32))).bind fun v354 =>
  kr_b2 (f_W_finish S x1 v354 x3) fun v356 S355 =>
  (kr_sx X L (x4 + (1 : Int32))).bind fun v357 =>
  (kr_rv S355 23 x2).bind fun u358 =>
  kr_b2 (f_M_finish S355 x2 v357) fun v360 S359 =>
  f_W_law_B2025 X L k23 S359 x1 x2 x3 x4
def f_W_law_B1819 (X : Nat → Int32) (L : Nat) (k23 : AS → Option Nat → Option Nat → Option Nat → Int32 → Option (Int32 × AS)) (S : AS) (x1 : Option Nat) (x2 : Option Nat) (x3 : Option Nat) (x4 : Int32) : Option (Int32 × AS) :=
  (kr_sx X L (x4 + (1 : Int32))).bind fun v361 =>
  (kr_sx X L (x4 + (2 : Int32))).bind fun v362 =>
  kr_b2 (f_W_link S x1 v361 v362 x3) fun v364 S363 =>
  (kr_sx X L (x4 + (1 : Int32))).bind fun v365 =>
  (kr_sx X L (x4 + (2 : Int32))).bind fun v366 =>
  (kr_rv S363 23 x2).bind fun u367 =>
  kr_b2 (f_M_link S363 x2 v365 v366) fun v369 S368 =>
  (kr_rv S368 23 x2).bind fun u370 =>
  kr_b2 (f_M_thrown S368 x2) fun v372 S371 =>
  if v372 = v364 then
  if v364 = 0 then
  (aJ S371 x3 (0 : Int32)).bind fun v373 =>
  if (lg_cmp v373 v369.toInt64) = 0 then
  f_W_law_B2025 X L k23 S371 x1 x2 x3 x4
  else
  some ((0 : Int32), S371)
  else
  f_W_law_B2025 X L k23 S371 x1 x2 x3 x4
  else
  some ((0 : Int32), S371)
def f_W_law_B1887 (X : Nat → Int32) (L : Nat) (k23 : AS → Option Nat → Option Nat → Option Nat → Int32 → Option (Int32 × AS)) (S : AS) (x1 : Option Nat) (x2 : Option Nat) (x3 : Option Nat) (x4 : Int32) : Option (Int32 × AS) :=
  (kr_sx X L (x4 + (1 : Int32))).bind fun v374 =>
  kr_b2 (f_W_foreign S x1 v374 x3) fun v376 S375 =>
  (kr_sx X L (x4 + (1 : Int32))).bind fun v377 =>
  (kr_rv S375 23 x2).bind fun u378 =>
  kr_b2 (f_M_foreign S375 x2 v377) fun v380 S379 =>
  f_W_law_B2025 X L k23 S379 x1 x2 x3 x4
def f_W_law_B1915 (X : Nat → Int32) (L : Nat) (k23 : AS → Option Nat → Option Nat → Option Nat → Int32 → Option (Int32 × AS)) (S : AS) (x1 : Option Nat) (x2 : Option Nat) (x3 : Option Nat) (x4 : Int32) : Option (Int32 × AS) :=
  (kr_sx X L (x4 + (1 : Int32))).bind fun v381 =>
  kr_b2 (f_W_leave S x1 v381 x3) fun v383 S382 =>
  (kr_sx X L (x4 + (1 : Int32))).bind fun v384 =>
  (kr_rv S382 23 x2).bind fun u385 =>
  kr_b2 (f_M_leave S382 x2 v384) fun v387 S386 =>
  f_W_law_B2025 X L k23 S386 x1 x2 x3 x4
def f_W_law_B1943 (X : Nat → Int32) (L : Nat) (k23 : AS → Option Nat → Option Nat → Option Nat → Int32 → Option (Int32 × AS)) (S : AS) (x1 : Option Nat) (x2 : Option Nat) (x3 : Option Nat) (x4 : Int32) : Option (Int32 × AS) :=
  (kr_rv S 22 x1).bind fun u388 =>
  kr_b2 (f_K_audits S x1) fun v390 S389 =>
  (kr_rv S389 23 x2).bind fun u391 =>
  kr_b2 (f_M_audits S389 x2) fun v393 S392 =>
  f_W_law_B2025 X L k23 S392 x1 x2 x3 x4
def f_W_law_B1956 (X : Nat → Int32) (L : Nat) (k23 : AS → Option Nat → Option Nat → Option Nat → Int32 → Option (Int32 × AS)) (S : AS) (x1 : Option Nat) (x2 : Option Nat) (x3 : Option Nat) (x4 : Int32) : Option (Int32 × AS) :=
  (kr_sx X L (x4 + (1 : Int32))).bind fun v394 =>
  kr_b2 (f_W_audit S x1 v394 x3) fun v396 S395 =>
  (kr_sx X L (x4 + (1 : Int32))).bind fun v397 =>
  (kr_rv S395 23 x2).bind fun u398 =>
  kr_b2 (f_M_audit S395 x2 v397) fun v400 S399 =>
  f_W_law_B2025 X L k23 S399 x1 x2 x3 x4
def f_W_law_B1984 (X : Nat → Int32) (L : Nat) (k23 : AS → Option Nat → Option Nat → Option Nat → Int32 → Option (Int32 × AS)) (S : AS) (x1 : Option Nat) (x2 : Option Nat) (x3 : Option Nat) (x4 : Int32) : Option (Int32 × AS) :=
  (kr_rv S 22 x1).bind fun u401 =>
  kr_b2 (f_K_sum S x1) fun v403 S402 =>
  (kr_rv S402 23 x2).bind fun u404 =>
  kr_b2 (f_M_sum S402 x2) fun v406 S405 =>
  f_W_law_B2025 X L k23 S405 x1 x2 x3 x4
def f_W_law_B1997 (X : Nat → Int32) (L : Nat) (k23 : AS → Option Nat → Option Nat → Option Nat → Int32 → Option (Int32 × AS)) (S : AS) (x1 : Option Nat) (x2 : Option Nat) (x3 : Option Nat) (x4 : Int32) : Option (Int32 × AS) :=
  (kr_sx X L (x4 + (1 : Int32))).bind fun v407 =>
  kr_b2 (f_W_sumAnew S x1 v407 x3) fun v409 S408 =>
  (kr_sx X L (x4 + (1 : Int32))).bind fun v410 =>
  (kr_rv S408 23 x2).bind fun u411 =>
  kr_b2 (f_M_sumAnew S408 x2 v410) fun v413 S412 =>
  f_W_law_B2025 X L k23 S412 x1 x2 x3 x4
def f_W_law_C23 (X : Nat → Int32) (L : Nat) (k23 : AS → Option Nat → Option Nat → Option Nat → Int32 → Option (Int32 × AS)) (S : AS) (x1 : Option Nat) (x2 : Option Nat) (x3 : Option Nat) (x4 : Int32) : Option (Int32 × AS) :=
  if ((Int32.ofNat L) - (6 : Int32)) < x4 then
  some ((1 : Int32), S)
  else
  (kr_sx X L x4).bind fun v414 =>
  (some (v414 &&& (63 : Int32))).bind fun i415 =>
  if i415 = (0 : Int32) then
  f_W_law_B260 X L k23 S x1 x2 x3 x4
  else if i415 = (1 : Int32) then
  f_W_law_B288 X L k23 S x1 x2 x3 x4
  else if i415 = (2 : Int32) then
  f_W_law_B328 X L k23 S x1 x2 x3 x4
  else if i415 = (3 : Int32) then
  f_W_law_B368 X L k23 S x1 x2 x3 x4
  else if i415 = (4 : Int32) then
  f_W_law_B444 X L k23 S x1 x2 x3 x4
  else if i415 = (5 : Int32) then
  f_W_law_B457 X L k23 S x1 x2 x3 x4
  else if i415 = (6 : Int32) then
  f_W_law_B473 X L k23 S x1 x2 x3 x4
  else if i415 = (7 : Int32) then
  f_W_law_B501 X L k23 S x1 x2 x3 x4
  else if i415 = (8 : Int32) then
  f_W_law_B569 X L k23 S x1 x2 x3 x4
  else if i415 = (9 : Int32) then
  f_W_law_B621 X L k23 S x1 x2 x3 x4
  else if i415 = (10 : Int32) then
  f_W_law_B689 X L k23 S x1 x2 x3 x4
  else if i415 = (11 : Int32) then
  f_W_law_B717 X L k23 S x1 x2 x3 x4
  else if i415 = (12 : Int32) then
  f_W_law_B745 X L k23 S x1 x2 x3 x4
  else if i415 = (13 : Int32) then
  f_W_law_B773 X L k23 S x1 x2 x3 x4
  else if i415 = (14 : Int32) then
  f_W_law_B801 X L k23 S x1 x2 x3 x4
  else if i415 = (15 : Int32) then
  f_W_law_B829 X L k23 S x1 x2 x3 x4
  else if i415 = (16 : Int32) then
  f_W_law_B842 X L k23 S x1 x2 x3 x4
  else if i415 = (17 : Int32) then
  f_W_law_B870 X L k23 S x1 x2 x3 x4
  else if i415 = (18 : Int32) then
  f_W_law_B898 X L k23 S x1 x2 x3 x4
  else if i415 = (19 : Int32) then
  f_W_law_B926 X L k23 S x1 x2 x3 x4
  else if i415 = (20 : Int32) then
  f_W_law_B1006 X L k23 S x1 x2 x3 x4
  else if i415 = (21 : Int32) then
  f_W_law_B1034 X L k23 S x1 x2 x3 x4
  else if i415 = (22 : Int32) then
  f_W_law_B1062 X L k23 S x1 x2 x3 x4
  else if i415 = (23 : Int32) then
  f_W_law_B1102 X L k23 S x1 x2 x3 x4
  else if i415 = (24 : Int32) then
  f_W_law_B1154 X L k23 S x1 x2 x3 x4
  else if i415 = (25 : Int32) then
  f_W_law_B1194 X L k23 S x1 x2 x3 x4
  else if i415 = (26 : Int32) then
  f_W_law_B1234 X L k23 S x1 x2 x3 x4
  else if i415 = (27 : Int32) then
  f_W_law_B1298 X L k23 S x1 x2 x3 x4
  else if i415 = (28 : Int32) then
  f_W_law_B1326 X L k23 S x1 x2 x3 x4
  else if i415 = (29 : Int32) then
  f_W_law_B1366 X L k23 S x1 x2 x3 x4
  else if i415 = (30 : Int32) then
  f_W_law_B1394 X L k23 S x1 x2 x3 x4
  else if i415 = (31 : Int32) then
  f_W_law_B1422 X L k23 S x1 x2 x3 x4
  else if i415 = (32 : Int32) then
  f_W_law_B1474 X L k23 S x1 x2 x3 x4
  else if i415 = (33 : Int32) then
  f_W_law_B1502 X L k23 S x1 x2 x3 x4
  else if i415 = (34 : Int32) then
  f_W_law_B1518 X L k23 S x1 x2 x3 x4
  else if i415 = (35 : Int32) then
  f_W_law_B1534 X L k23 S x1 x2 x3 x4
  else if i415 = (36 : Int32) then
  f_W_law_B1547 X L k23 S x1 x2 x3 x4
  else if i415 = (37 : Int32) then
  f_W_law_B1575 X L k23 S x1 x2 x3 x4
  else if i415 = (38 : Int32) then
  f_W_law_B1603 X L k23 S x1 x2 x3 x4
  else if i415 = (39 : Int32) then
  f_W_law_B1655 X L k23 S x1 x2 x3 x4
  else if i415 = (40 : Int32) then
  f_W_law_B1683 X L k23 S x1 x2 x3 x4
  else if i415 = (41 : Int32) then
  f_W_law_B1711 X L k23 S x1 x2 x3 x4
  else if i415 = (42 : Int32) then
  f_W_law_B1751 X L k23 S x1 x2 x3 x4
  else if i415 = (43 : Int32) then
  f_W_law_B1791 X L k23 S x1 x2 x3 x4
  else if i415 = (44 : Int32) then
  f_W_law_B1819 X L k23 S x1 x2 x3 x4
  else if i415 = (45 : Int32) then
  f_W_law_B1887 X L k23 S x1 x2 x3 x4
  else if i415 = (46 : Int32) then
  f_W_law_B1915 X L k23 S x1 x2 x3 x4
  else if i415 = (47 : Int32) then
  f_W_law_B1943 X L k23 S x1 x2 x3 x4
  else if i415 = (48 : Int32) then
  f_W_law_B1956 X L k23 S x1 x2 x3 x4
  else if i415 = (49 : Int32) then
  f_W_law_B1984 X L k23 S x1 x2 x3 x4
  else if i415 = (50 : Int32) then
  f_W_law_B1997 X L k23 S x1 x2 x3 x4
  else f_W_law_B2025 X L k23 S x1 x2 x3 x4
def f_W_law_L23 (X : Nat → Int32) (L : Nat) : Nat → AS → Option Nat → Option Nat → Option Nat → Int32 → Option (Int32 × AS)
  | 0, S, x1, x2, x3, x4 => none
  | n + 1, S, x1, x2, x3, x4 => f_W_law_C23 X L (f_W_law_L23 X L n) S x1 x2 x3 x4
def f_W_law (X : Nat → Int32) (L : Nat) (S : AS) : Option (Int32 × AS) :=
  (some (nO S 22)).bind fun S416 =>
  (f_K_init S416 (some (sN S))).bind fun S417 =>
  (some (nO S417 23)).bind fun S418 =>
  (f_M_init S418 (some (sN S417))).bind fun S419 =>
  (nA S419 42 (1 : Int32)).bind fun S420 =>
  f_W_law_L23 X L kr_FU S420 (some (sN S)) (some (sN S417)) (some (sN S419)) (0 : Int32)
set_option maxRecDepth 20000 in
set_option maxHeartbeats 4000000 in
theorem s_W_law_B2025 {X : Nat → Int32} {L : Nat} {k23 : AS → Option Nat → Option Nat → Option Nat → Int32 → Option (Int32 × AS)} (hk23 : ∀ {S : AS} {x1 : Option Nat} {x2 : Option Nat} {x3 : Option Nat} {x4 : Int32} {r : (Int32 × AS)}, k23 S x1 x2 x3 x4 = some r → kr_AW (m_W_law X L) 15 23 [(0, va_rf (some 2)), (1, va_rf x1), (2, va_rf x2), (3, va_rf x3), (4, .int x4)] [] S (kr_eI r)) {S : AS} {x1 : Option Nat} {x2 : Option Nat} {x3 : Option Nat} {x4 : Int32} {r : (Int32 × AS)} (h : f_W_law_B2025 X L k23 S x1 x2 x3 x4 = some r) : kr_AW (m_W_law X L) 15 2025 [(0, va_rf (some 2)), (1, va_rf x1), (2, va_rf x2), (3, va_rf x3), (4, .int x4)] [] S (kr_eI r) := by
  unfold f_W_law_B2025 at h
  have h2 := kr_ob h
  clear h
  obtain ⟨i1, ei1, h⟩ := h2
  refine r_iinc (v := i1) (lv' := [(4, .int i1), (0, va_rf (some 2)), (1, va_rf x1), (2, va_rf x2), (3, va_rf x3)]) 4 rfl (kr_inc (by decide) ei1) (by show (4 : Nat) < 7; decide) (by simp [kr_st, kr_rfcat, kr_icat]) d_W_law_2025 ?_
  refine r_goto (tgt := 23) d_W_law_2028 rfl ?_
  exact kr_sub [1, 2, 3, 4, 0] rfl (hk23 h)
set_option maxRecDepth 20000 in
set_option maxHeartbeats 4000000 in
theorem s_W_law_B260 {X : Nat → Int32} {L : Nat} {k23 : AS → Option Nat → Option Nat → Option Nat → Int32 → Option (Int32 × AS)} (hk23 : ∀ {S : AS} {x1 : Option Nat} {x2 : Option Nat} {x3 : Option Nat} {x4 : Int32} {r : (Int32 × AS)}, k23 S x1 x2 x3 x4 = some r → kr_AW (m_W_law X L) 15 23 [(0, va_rf (some 2)), (1, va_rf x1), (2, va_rf x2), (3, va_rf x3), (4, .int x4)] [] S (kr_eI r)) {S : AS} {x1 : Option Nat} {x2 : Option Nat} {x3 : Option Nat} {x4 : Int32} {r : (Int32 × AS)} (h : f_W_law_B260 X L k23 S x1 x2 x3 x4 = some r) : kr_AW (m_W_law X L) 15 260 [(0, va_rf (some 2)), (1, va_rf x1), (2, va_rf x2), (3, va_rf x3), (4, .int x4)] [] S (kr_eI r) := by
  unfold f_W_law_B260 at h
  refine r_aload_n (i := 1) (x := x1) 1 rfl d_W_law_260 ?_
  refine r_aload_n (i := 0) (x := (some 2)) 0 rfl d_W_law_261 ?_
  refine r_iload (i := 4) (x := x4) 4 rfl d_W_law_262 ?_
  refine r_iconst (v := (1 : Int32)) (by decide) d_W_law_264 ?_
  refine r_iadd d_W_law_265 ?_
  have h2 := kr_ob h
  clear h
  obtain ⟨v2, ev2, h⟩ := h2
  refine r_sload rfl ev2 d_W_law_266 ?_
  refine r_aload_n (i := 3) (x := x3) 3 rfl d_W_law_267 ?_
  have h2 := kr_ob2 h
  clear h
  obtain ⟨v4, S3, eS3, h⟩ := h2
  refine r_callSX (M1 := m_W_pass) (As := [va_rf x1, .int v2, va_rf x3]) (s_W_pass eS3) mok_W_pass (by decide) w364 w365 (by decide) (kr_c8 kr_c0) d_W_law_268 (kr_k1 ?_) kr_kn
  refine r_istore (i := 5) (lv' := [(5, .int v4), (0, va_rf (some 2)), (1, va_rf x1), (2, va_rf x2), (3, va_rf x3), (4, .int x4)]) (by show (5 : Nat) < 7; decide) rfl d_W_law_271 ?_
  refine r_aload_n (i := 2) (x := x2) 3 rfl d_W_law_273 ?_
  refine r_aload_n (i := 0) (x := (some 2)) 1 rfl d_W_law_274 ?_
  refine r_iload (i := 4) (x := x4) 5 rfl d_W_law_275 ?_
  refine r_iconst (v := (1 : Int32)) (by decide) d_W_law_277 ?_
  refine r_iadd d_W_law_278 ?_
  have h2 := kr_ob h
  clear h
  obtain ⟨v5, ev5, h⟩ := h2
  refine r_sload rfl ev5 d_W_law_279 ?_
  have h2 := kr_ob h
  clear h
  obtain ⟨⟨⟩, eu6, h⟩ := h2
  have h2 := kr_ob2 h
  clear h
  obtain ⟨v8, S7, eS7, h⟩ := h2
  refine r_callV (M1 := m_M_pass) (κ := 23) (As := [.int v5]) eu6 (s_M_pass eS7) mok_M_pass rfl (by decide) rfl w1716 w1717 w1718 (by decide) (kr_c8 kr_c0) d_W_law_280 (kr_k1 ?_) kr_kn
  refine r_istore (i := 6) (lv' := [(6, .int v8), (5, .int v4), (0, va_rf (some 2)), (1, va_rf x1), (2, va_rf x2), (3, va_rf x3), (4, .int x4)]) (by show (6 : Nat) < 7; decide) rfl d_W_law_283 ?_
  refine r_goto (tgt := 2025) d_W_law_285 rfl ?_
  exact kr_sub [2, 3, 4, 5, 6] rfl (s_W_law_B2025 hk23 h)
set_option maxRecDepth 20000 in
set_option maxHeartbeats 4000000 in
theorem s_W_law_B288 {X : Nat → Int32} {L : Nat} {k23 : AS → Option Nat → Option Nat → Option Nat → Int32 → Option (Int32 × AS)} (hk23 : ∀ {S : AS} {x1 : Option Nat} {x2 : Option Nat} {x3 : Option Nat} {x4 : Int32} {r : (Int32 × AS)}, k23 S x1 x2 x3 x4 = some r → kr_AW (m_W_law X L) 15 23 [(0, va_rf (some 2)), (1, va_rf x1), (2, va_rf x2), (3, va_rf x3), (4, .int x4)] [] S (kr_eI r)) {S : AS} {x1 : Option Nat} {x2 : Option Nat} {x3 : Option Nat} {x4 : Int32} {r : (Int32 × AS)} (h : f_W_law_B288 X L k23 S x1 x2 x3 x4 = some r) : kr_AW (m_W_law X L) 15 288 [(0, va_rf (some 2)), (1, va_rf x1), (2, va_rf x2), (3, va_rf x3), (4, .int x4)] [] S (kr_eI r) := by
  unfold f_W_law_B288 at h
  refine r_aload_n (i := 1) (x := x1) 1 rfl d_W_law_288 ?_
  refine r_aload_n (i := 0) (x := (some 2)) 0 rfl d_W_law_289 ?_
  refine r_iload (i := 4) (x := x4) 4 rfl d_W_law_290 ?_
  refine r_iconst (v := (1 : Int32)) (by decide) d_W_law_292 ?_
  refine r_iadd d_W_law_293 ?_
  have h2 := kr_ob h
  clear h
  obtain ⟨v9, ev9, h⟩ := h2
  refine r_sload rfl ev9 d_W_law_294 ?_
  refine r_aload_n (i := 0) (x := (some 2)) 0 rfl d_W_law_295 ?_
  refine r_iload (i := 4) (x := x4) 4 rfl d_W_law_296 ?_
  refine r_iconst (v := (2 : Int32)) (by decide) d_W_law_298 ?_
  refine r_iadd d_W_law_299 ?_
  have h2 := kr_ob h
  clear h
  obtain ⟨v10, ev10, h⟩ := h2
  refine r_sload rfl ev10 d_W_law_300 ?_
  refine r_aload_n (i := 3) (x := x3) 3 rfl d_W_law_301 ?_
  have h2 := kr_ob2 h
  clear h
  obtain ⟨v12, S11, eS11, h⟩ := h2
  refine r_callSX (M1 := m_W_enroll) (As := [va_rf x1, .int v9, .int v10, va_rf x3]) (s_W_enroll eS11) mok_W_enroll (by decide) w551 w552 (by decide) (kr_c8 kr_c0) d_W_law_302 (kr_k1 ?_) kr_kn
  refine r_istore (i := 5) (lv' := [(5, .int v12), (0, va_rf (some 2)), (1, va_rf x1), (2, va_rf x2), (3, va_rf x3), (4, .int x4)]) (by show (5 : Nat) < 7; decide) rfl d_W_law_305 ?_
  refine r_aload_n (i := 2) (x := x2) 3 rfl d_W_law_307 ?_
  refine r_aload_n (i := 0) (x := (some 2)) 1 rfl d_W_law_308 ?_
  refine r_iload (i := 4) (x := x4) 5 rfl d_W_law_309 ?_
  refine r_iconst (v := (1 : Int32)) (by decide) d_W_law_311 ?_
  refine r_iadd d_W_law_312 ?_
  have h2 := kr_ob h
  clear h
  obtain ⟨v13, ev13, h⟩ := h2
  refine r_sload rfl ev13 d_W_law_313 ?_
  refine r_aload_n (i := 0) (x := (some 2)) 1 rfl d_W_law_314 ?_
  refine r_iload (i := 4) (x := x4) 5 rfl d_W_law_315 ?_
  refine r_iconst (v := (2 : Int32)) (by decide) d_W_law_317 ?_
  refine r_iadd d_W_law_318 ?_
  have h2 := kr_ob h
  clear h
  obtain ⟨v14, ev14, h⟩ := h2
  refine r_sload rfl ev14 d_W_law_319 ?_
  have h2 := kr_ob h
  clear h
  obtain ⟨⟨⟩, eu15, h⟩ := h2
  have h2 := kr_ob2 h
  clear h
  obtain ⟨v17, S16, eS16, h⟩ := h2
  refine r_callV (M1 := m_M_enroll) (κ := 23) (As := [.int v13, .int v14]) eu15 (s_M_enroll eS16) mok_M_enroll rfl (by decide) rfl w1744 w1745 w1746 (by decide) (kr_c8 kr_c0) d_W_law_320 (kr_k1 ?_) kr_kn
  refine r_istore (i := 6) (lv' := [(6, .int v17), (5, .int v12), (0, va_rf (some 2)), (1, va_rf x1), (2, va_rf x2), (3, va_rf x3), (4, .int x4)]) (by show (6 : Nat) < 7; decide) rfl d_W_law_323 ?_
  refine r_goto (tgt := 2025) d_W_law_325 rfl ?_
  exact kr_sub [2, 3, 4, 5, 6] rfl (s_W_law_B2025 hk23 h)
set_option maxRecDepth 20000 in
set_option maxHeartbeats 4000000 in
theorem s_W_law_B328 {X : Nat → Int32} {L : Nat} {k23 : AS → Option Nat → Option Nat → Option Nat → Int32 → Option (Int32 × AS)} (hk23 : ∀ {S : AS} {x1 : Option Nat} {x2 : Option Nat} {x3 : Option Nat} {x4 : Int32} {r : (Int32 × AS)}, k23 S x1 x2 x3 x4 = some r → kr_AW (m_W_law X L) 15 23 [(0, va_rf (some 2)), (1, va_rf x1), (2, va_rf x2), (3, va_rf x3), (4, .int x4)] [] S (kr_eI r)) {S : AS} {x1 : Option Nat} {x2 : Option Nat} {x3 : Option Nat} {x4 : Int32} {r : (Int32 × AS)} (h : f_W_law_B328 X L k23 S x1 x2 x3 x4 = some r) : kr_AW (m_W_law X L) 15 328 [(0, va_rf (some 2)), (1, va_rf x1), (2, va_rf x2), (3, va_rf x3), (4, .int x4)] [] S (kr_eI r) := by
  unfold f_W_law_B328 at h
  refine r_aload_n (i := 1) (x := x1) 1 rfl d_W_law_328 ?_
  refine r_aload_n (i := 0) (x := (some 2)) 0 rfl d_W_law_329 ?_
  refine r_iload (i := 4) (x := x4) 4 rfl d_W_law_330 ?_
  refine r_iconst (v := (1 : Int32)) (by decide) d_W_law_332 ?_
  refine r_iadd d_W_law_333 ?_
  have h2 := kr_ob h
  clear h
  obtain ⟨v18, ev18, h⟩ := h2
  refine r_sload rfl ev18 d_W_law_334 ?_
  refine r_aload_n (i := 0) (x := (some 2)) 0 rfl d_W_law_335 ?_
  refine r_iload (i := 4) (x := x4) 4 rfl d_W_law_336 ?_
  refine r_iconst (v := (2 : Int32)) (by decide) d_W_law_338 ?_
  refine r_iadd d_W_law_339 ?_
  have h2 := kr_ob h
  clear h
  obtain ⟨v19, ev19, h⟩ := h2
  refine r_sload rfl ev19 d_W_law_340 ?_
  refine r_aload_n (i := 3) (x := x3) 3 rfl d_W_law_341 ?_
  have h2 := kr_ob2 h
  clear h
  obtain ⟨v21, S20, eS20, h⟩ := h2
  refine r_callSX (M1 := m_W_factor) (As := [va_rf x1, .int v18, .int v19, va_rf x3]) (s_W_factor eS20) mok_W_factor (by decide) w575 w576 (by decide) (kr_c8 kr_c0) d_W_law_342 (kr_k1 ?_) kr_kn
  refine r_istore (i := 5) (lv' := [(5, .int v21), (0, va_rf (some 2)), (1, va_rf x1), (2, va_rf x2), (3, va_rf x3), (4, .int x4)]) (by show (5 : Nat) < 7; decide) rfl d_W_law_345 ?_
  refine r_aload_n (i := 2) (x := x2) 3 rfl d_W_law_347 ?_
  refine r_aload_n (i := 0) (x := (some 2)) 1 rfl d_W_law_348 ?_
  refine r_iload (i := 4) (x := x4) 5 rfl d_W_law_349 ?_
  refine r_iconst (v := (1 : Int32)) (by decide) d_W_law_351 ?_
  refine r_iadd d_W_law_352 ?_
  have h2 := kr_ob h
  clear h
  obtain ⟨v22, ev22, h⟩ := h2
  refine r_sload rfl ev22 d_W_law_353 ?_
  refine r_aload_n (i := 0) (x := (some 2)) 1 rfl d_W_law_354 ?_
  refine r_iload (i := 4) (x := x4) 5 rfl d_W_law_355 ?_
  refine r_iconst (v := (2 : Int32)) (by decide) d_W_law_357 ?_
  refine r_iadd d_W_law_358 ?_
  have h2 := kr_ob h
  clear h
  obtain ⟨v23, ev23, h⟩ := h2
  refine r_sload rfl ev23 d_W_law_359 ?_
  have h2 := kr_ob h
  clear h
  obtain ⟨⟨⟩, eu24, h⟩ := h2
  have h2 := kr_ob2 h
  clear h
  obtain ⟨v26, S25, eS25, h⟩ := h2
  refine r_callV (M1 := m_M_factor) (κ := 23) (As := [.int v22, .int v23]) eu24 (s_M_factor eS25) mok_M_factor rfl (by decide) rfl w1758 w1759 w1760 (by decide) (kr_c8 kr_c0) d_W_law_360 (kr_k1 ?_) kr_kn
  refine r_istore (i := 6) (lv' := [(6, .int v26), (5, .int v21), (0, va_rf (some 2)), (1, va_rf x1), (2, va_rf x2), (3, va_rf x3), (4, .int x4)]) (by show (6 : Nat) < 7; decide) rfl d_W_law_363 ?_
  refine r_goto (tgt := 2025) d_W_law_365 rfl ?_
  exact kr_sub [2, 3, 4, 5, 6] rfl (s_W_law_B2025 hk23 h)
set_option maxRecDepth 20000 in
set_option maxHeartbeats 4000000 in
theorem s_W_law_B368 {X : Nat → Int32} {L : Nat} {k23 : AS → Option Nat → Option Nat → Option Nat → Int32 → Option (Int32 × AS)} (hk23 : ∀ {S : AS} {x1 : Option Nat} {x2 : Option Nat} {x3 : Option Nat} {x4 : Int32} {r : (Int32 × AS)}, k23 S x1 x2 x3 x4 = some r → kr_AW (m_W_law X L) 15 23 [(0, va_rf (some 2)), (1, va_rf x1), (2, va_rf x2), (3, va_rf x3), (4, .int x4)] [] S (kr_eI r)) {S : AS} {x1 : Option Nat} {x2 : Option Nat} {x3 : Option Nat} {x4 : Int32} {r : (Int32 × AS)} (h : f_W_law_B368 X L k23 S x1 x2 x3 x4 = some r) : kr_AW (m_W_law X L) 15 368 [(0, va_rf (some 2)), (1, va_rf x1), (2, va_rf x2), (3, va_rf x3), (4, .int x4)] [] S (kr_eI r) := by
  unfold f_W_law_B368 at h
  refine r_aload_n (i := 1) (x := x1) 1 rfl d_W_law_368 ?_
  refine r_aload_n (i := 0) (x := (some 2)) 0 rfl d_W_law_369 ?_
  refine r_iload (i := 4) (x := x4) 4 rfl d_W_law_370 ?_
  refine r_iconst (v := (1 : Int32)) (by decide) d_W_law_372 ?_
  refine r_iadd d_W_law_373 ?_
  have h2 := kr_ob h
  clear h
  obtain ⟨v27, ev27, h⟩ := h2
  refine r_sload rfl ev27 d_W_law_374 ?_
  refine r_aload_n (i := 0) (x := (some 2)) 0 rfl d_W_law_375 ?_
  refine r_iload (i := 4) (x := x4) 4 rfl d_W_law_376 ?_
  refine r_iconst (v := (2 : Int32)) (by decide) d_W_law_378 ?_
  refine r_iadd d_W_law_379 ?_
  have h2 := kr_ob h
  clear h
  obtain ⟨v28, ev28, h⟩ := h2
  refine r_sload rfl ev28 d_W_law_380 ?_
  refine r_aload_n (i := 0) (x := (some 2)) 0 rfl d_W_law_381 ?_
  refine r_iload (i := 4) (x := x4) 4 rfl d_W_law_382 ?_
  refine r_iconst (v := (3 : Int32)) (by decide) d_W_law_384 ?_
  refine r_iadd d_W_law_385 ?_
  have h2 := kr_ob h
  clear h
  obtain ⟨v29, ev29, h⟩ := h2
  refine r_sload rfl ev29 d_W_law_386 ?_
  refine r_aload_n (i := 0) (x := (some 2)) 0 rfl d_W_law_387 ?_
  refine r_iload (i := 4) (x := x4) 4 rfl d_W_law_388 ?_
  refine r_iconst (v := (4 : Int32)) (by decide) d_W_law_390 ?_
  refine r_iadd d_W_law_391 ?_
  have h2 := kr_ob h
  clear h
  obtain ⟨v30, ev30, h⟩ := h2
  refine r_sload rfl ev30 d_W_law_392 ?_
  refine r_aload_n (i := 0) (x := (some 2)) 0 rfl d_W_law_393 ?_
  refine r_iload (i := 4) (x := x4) 4 rfl d_W_law_394 ?_
  refine r_iconst (v := (5 : Int32)) (by decide) d_W_law_396 ?_
  refine r_iadd d_W_law_397 ?_
  have h2 := kr_ob h
  clear h
  obtain ⟨v31, ev31, h⟩ := h2
  refine r_sload rfl ev31 d_W_law_398 ?_
  refine r_aload_n (i := 3) (x := x3) 3 rfl d_W_law_399 ?_
  have h2 := kr_ob2 h
  clear h
  obtain ⟨v33, S32, eS32, h⟩ := h2
  refine r_callSX (M1 := m_W_step) (As := [va_rf x1, .int v27, .int v28, .int v29, .int v30, .int v31, va_rf x3]) (s_W_step eS32) mok_W_step (by decide) w582 w583 (by decide) (kr_c8 kr_c0) d_W_law_400 (kr_k1 ?_) kr_kn
  refine r_istore (i := 5) (lv' := [(5, .int v33), (0, va_rf (some 2)), (1, va_rf x1), (2, va_rf x2), (3, va_rf x3), (4, .int x4)]) (by show (5 : Nat) < 7; decide) rfl d_W_law_403 ?_
  refine r_aload_n (i := 2) (x := x2) 3 rfl d_W_law_405 ?_
  refine r_aload_n (i := 0) (x := (some 2)) 1 rfl d_W_law_406 ?_
  refine r_iload (i := 4) (x := x4) 5 rfl d_W_law_407 ?_
  refine r_iconst (v := (1 : Int32)) (by decide) d_W_law_409 ?_
  refine r_iadd d_W_law_410 ?_
  have h2 := kr_ob h
  clear h
  obtain ⟨v34, ev34, h⟩ := h2
  refine r_sload rfl ev34 d_W_law_411 ?_
  refine r_aload_n (i := 0) (x := (some 2)) 1 rfl d_W_law_412 ?_
  refine r_iload (i := 4) (x := x4) 5 rfl d_W_law_413 ?_
  refine r_iconst (v := (2 : Int32)) (by decide) d_W_law_415 ?_
  refine r_iadd d_W_law_416 ?_
  have h2 := kr_ob h
  clear h
  obtain ⟨v35, ev35, h⟩ := h2
  refine r_sload rfl ev35 d_W_law_417 ?_
  refine r_aload_n (i := 0) (x := (some 2)) 1 rfl d_W_law_418 ?_
  refine r_iload (i := 4) (x := x4) 5 rfl d_W_law_419 ?_
  refine r_iconst (v := (3 : Int32)) (by decide) d_W_law_421 ?_
  refine r_iadd d_W_law_422 ?_
  have h2 := kr_ob h
  clear h
  obtain ⟨v36, ev36, h⟩ := h2
  refine r_sload rfl ev36 d_W_law_423 ?_
  refine r_aload_n (i := 0) (x := (some 2)) 1 rfl d_W_law_424 ?_
  refine r_iload (i := 4) (x := x4) 5 rfl d_W_law_425 ?_
  refine r_iconst (v := (4 : Int32)) (by decide) d_W_law_427 ?_
  refine r_iadd d_W_law_428 ?_
  have h2 := kr_ob h
  clear h
  obtain ⟨v37, ev37, h⟩ := h2
  refine r_sload rfl ev37 d_W_law_429 ?_
  refine r_aload_n (i := 0) (x := (some 2)) 1 rfl d_W_law_430 ?_
  refine r_iload (i := 4) (x := x4) 5 rfl d_W_law_431 ?_
  refine r_iconst (v := (5 : Int32)) (by decide) d_W_law_433 ?_
  refine r_iadd d_W_law_434 ?_
  have h2 := kr_ob h
  clear h
  obtain ⟨v38, ev38, h⟩ := h2
  refine r_sload rfl ev38 d_W_law_435 ?_
  have h2 := kr_ob h
  clear h
  obtain ⟨⟨⟩, eu39, h⟩ := h2
  have h2 := kr_ob2 h
  clear h
  obtain ⟨v41, S40, eS40, h⟩ := h2
  refine r_callV (M1 := m_M_step) (κ := 23) (As := [.int v34, .int v35, .int v36, .int v37, .int v38]) eu39 (s_M_step eS40) mok_M_step rfl (by decide) rfl w1762 w1763 w1764 (by decide) (kr_c8 kr_c0) d_W_law_436 (kr_k1 ?_) kr_kn
  refine r_istore (i := 6) (lv' := [(6, .int v41), (5, .int v33), (0, va_rf (some 2)), (1, va_rf x1), (2, va_rf x2), (3, va_rf x3), (4, .int x4)]) (by show (6 : Nat) < 7; decide) rfl d_W_law_439 ?_
  refine r_goto (tgt := 2025) d_W_law_441 rfl ?_
  exact kr_sub [2, 3, 4, 5, 6] rfl (s_W_law_B2025 hk23 h)
set_option maxRecDepth 20000 in
set_option maxHeartbeats 4000000 in
theorem s_W_law_B444 {X : Nat → Int32} {L : Nat} {k23 : AS → Option Nat → Option Nat → Option Nat → Int32 → Option (Int32 × AS)} (hk23 : ∀ {S : AS} {x1 : Option Nat} {x2 : Option Nat} {x3 : Option Nat} {x4 : Int32} {r : (Int32 × AS)}, k23 S x1 x2 x3 x4 = some r → kr_AW (m_W_law X L) 15 23 [(0, va_rf (some 2)), (1, va_rf x1), (2, va_rf x2), (3, va_rf x3), (4, .int x4)] [] S (kr_eI r)) {S : AS} {x1 : Option Nat} {x2 : Option Nat} {x3 : Option Nat} {x4 : Int32} {r : (Int32 × AS)} (h : f_W_law_B444 X L k23 S x1 x2 x3 x4 = some r) : kr_AW (m_W_law X L) 15 444 [(0, va_rf (some 2)), (1, va_rf x1), (2, va_rf x2), (3, va_rf x3), (4, .int x4)] [] S (kr_eI r) := by
  unfold f_W_law_B444 at h
  refine r_aload_n (i := 1) (x := x1) 1 rfl d_W_law_444 ?_
  have h2 := kr_ob h
  clear h
  obtain ⟨⟨⟩, eu42, h⟩ := h2
  have h2 := kr_ob2 h
  clear h
  obtain ⟨v44, S43, eS43, h⟩ := h2
  refine r_callV (M1 := m_K_clear) (κ := 22) (As := []) eu42 (s_K_clear eS43) mok_K_clear rfl (by decide) rfl w340 w341 w342 (by decide) (kr_c8 kr_c0) d_W_law_445 (kr_k1 ?_) kr_kn
  refine r_pop rfl d_W_law_448 ?_
  refine r_aload_n (i := 2) (x := x2) 2 rfl d_W_law_449 ?_
  have h2 := kr_ob h
  clear h
  obtain ⟨⟨⟩, eu45, h⟩ := h2
  have h2 := kr_ob2 h
  clear h
  obtain ⟨v47, S46, eS46, h⟩ := h2
  refine r_callV (M1 := m_M_clear) (κ := 23) (As := []) eu45 (s_M_clear eS46) mok_M_clear rfl (by decide) rfl w1769 w1770 w1771 (by decide) (kr_c8 kr_c0) d_W_law_450 (kr_k1 ?_) kr_kn
  refine r_pop rfl d_W_law_453 ?_
  refine r_goto (tgt := 2025) d_W_law_454 rfl ?_
  exact kr_sub [0, 1, 2, 3, 4] rfl (s_W_law_B2025 hk23 h)
set_option maxRecDepth 20000 in
set_option maxHeartbeats 4000000 in
theorem s_W_law_B457 {X : Nat → Int32} {L : Nat} {k23 : AS → Option Nat → Option Nat → Option Nat → Int32 → Option (Int32 × AS)} (hk23 : ∀ {S : AS} {x1 : Option Nat} {x2 : Option Nat} {x3 : Option Nat} {x4 : Int32} {r : (Int32 × AS)}, k23 S x1 x2 x3 x4 = some r → kr_AW (m_W_law X L) 15 23 [(0, va_rf (some 2)), (1, va_rf x1), (2, va_rf x2), (3, va_rf x3), (4, .int x4)] [] S (kr_eI r)) {S : AS} {x1 : Option Nat} {x2 : Option Nat} {x3 : Option Nat} {x4 : Int32} {r : (Int32 × AS)} (h : f_W_law_B457 X L k23 S x1 x2 x3 x4 = some r) : kr_AW (m_W_law X L) 15 457 [(0, va_rf (some 2)), (1, va_rf x1), (2, va_rf x2), (3, va_rf x3), (4, .int x4)] [] S (kr_eI r) := by
  unfold f_W_law_B457 at h
  refine r_aload_n (i := 1) (x := x1) 1 rfl d_W_law_457 ?_
  refine r_aload_n (i := 3) (x := x3) 3 rfl d_W_law_458 ?_
  have h2 := kr_ob2 h
  clear h
  obtain ⟨v49, S48, eS48, h⟩ := h2
  refine r_callSX (M1 := m_W_publish) (As := [va_rf x1, va_rf x3]) (s_W_publish eS48) mok_W_publish (by decide) w602 w603 (by decide) (kr_c8 kr_c0) d_W_law_459 (kr_k1 ?_) kr_kn
  refine r_istore (i := 5) (lv' := [(5, .int v49), (0, va_rf (some 2)), (1, va_rf x1), (2, va_rf x2), (3, va_rf x3), (4, .int x4)]) (by show (5 : Nat) < 7; decide) rfl d_W_law_462 ?_
  refine r_aload_n (i := 2) (x := x2) 3 rfl d_W_law_464 ?_
  have h2 := kr_ob h
  clear h
  obtain ⟨⟨⟩, eu50, h⟩ := h2
  have h2 := kr_ob2 h
  clear h
  obtain ⟨v52, S51, eS51, h⟩ := h2
  refine r_callV (M1 := m_M_publish) (κ := 23) (As := []) eu50 (s_M_publish eS51) mok_M_publish rfl (by decide) rfl w1773 w1774 w1775 (by decide) (kr_c8 kr_c0) d_W_law_465 (kr_k1 ?_) kr_kn
  refine r_istore (i := 6) (lv' := [(6, .int v52), (5, .int v49), (0, va_rf (some 2)), (1, va_rf x1), (2, va_rf x2), (3, va_rf x3), (4, .int x4)]) (by show (6 : Nat) < 7; decide) rfl d_W_law_468 ?_
  refine r_goto (tgt := 2025) d_W_law_470 rfl ?_
  exact kr_sub [2, 3, 4, 5, 6] rfl (s_W_law_B2025 hk23 h)
set_option maxRecDepth 20000 in
set_option maxHeartbeats 4000000 in
theorem s_W_law_B473 {X : Nat → Int32} {L : Nat} {k23 : AS → Option Nat → Option Nat → Option Nat → Int32 → Option (Int32 × AS)} (hk23 : ∀ {S : AS} {x1 : Option Nat} {x2 : Option Nat} {x3 : Option Nat} {x4 : Int32} {r : (Int32 × AS)}, k23 S x1 x2 x3 x4 = some r → kr_AW (m_W_law X L) 15 23 [(0, va_rf (some 2)), (1, va_rf x1), (2, va_rf x2), (3, va_rf x3), (4, .int x4)] [] S (kr_eI r)) {S : AS} {x1 : Option Nat} {x2 : Option Nat} {x3 : Option Nat} {x4 : Int32} {r : (Int32 × AS)} (h : f_W_law_B473 X L k23 S x1 x2 x3 x4 = some r) : kr_AW (m_W_law X L) 15 473 [(0, va_rf (some 2)), (1, va_rf x1), (2, va_rf x2), (3, va_rf x3), (4, .int x4)] [] S (kr_eI r) := by
  unfold f_W_law_B473 at h
  refine r_aload_n (i := 1) (x := x1) 1 rfl d_W_law_473 ?_
  refine r_aload_n (i := 0) (x := (some 2)) 0 rfl d_W_law_474 ?_
  refine r_iload (i := 4) (x := x4) 4 rfl d_W_law_475 ?_
  refine r_iconst (v := (1 : Int32)) (by decide) d_W_law_477 ?_
  refine r_iadd d_W_law_478 ?_
  have h2 := kr_ob h
  clear h
  obtain ⟨v53, ev53, h⟩ := h2
  refine r_sload rfl ev53 d_W_law_479 ?_
  refine r_aload_n (i := 3) (x := x3) 3 rfl d_W_law_480 ?_
  have h2 := kr_ob2 h
  clear h
  obtain ⟨v55, S54, eS54, h⟩ := h2
  refine r_callSX (M1 := m_W_weakest) (As := [va_rf x1, .int v53, va_rf x3]) (s_W_weakest eS54) mok_W_weakest (by decide) w706 w707 (by decide) (kr_c8 kr_c0) d_W_law_481 (kr_k1 ?_) kr_kn
  refine r_istore (i := 5) (lv' := [(5, .int v55), (0, va_rf (some 2)), (1, va_rf x1), (2, va_rf x2), (3, va_rf x3), (4, .int x4)]) (by show (5 : Nat) < 7; decide) rfl d_W_law_484 ?_
  refine r_aload_n (i := 2) (x := x2) 3 rfl d_W_law_486 ?_
  refine r_aload_n (i := 0) (x := (some 2)) 1 rfl d_W_law_487 ?_
  refine r_iload (i := 4) (x := x4) 5 rfl d_W_law_488 ?_
  refine r_iconst (v := (1 : Int32)) (by decide) d_W_law_490 ?_
  refine r_iadd d_W_law_491 ?_
  have h2 := kr_ob h
  clear h
  obtain ⟨v56, ev56, h⟩ := h2
  refine r_sload rfl ev56 d_W_law_492 ?_
  have h2 := kr_ob h
  clear h
  obtain ⟨⟨⟩, eu57, h⟩ := h2
  have h2 := kr_ob2 h
  clear h
  obtain ⟨v59, S58, eS58, h⟩ := h2
  refine r_callV (M1 := m_M_weakest) (κ := 23) (As := [.int v56]) eu57 (s_M_weakest eS58) mok_M_weakest rfl (by decide) rfl w1784 w1785 w1786 (by decide) (kr_c8 kr_c0) d_W_law_493 (kr_k1 ?_) kr_kn
  refine r_istore (i := 6) (lv' := [(6, .int v59), (5, .int v55), (0, va_rf (some 2)), (1, va_rf x1), (2, va_rf x2), (3, va_rf x3), (4, .int x4)]) (by show (6 : Nat) < 7; decide) rfl d_W_law_496 ?_
  refine r_goto (tgt := 2025) d_W_law_498 rfl ?_
  exact kr_sub [2, 3, 4, 5, 6] rfl (s_W_law_B2025 hk23 h)
set_option maxRecDepth 20000 in
set_option maxHeartbeats 4000000 in
theorem s_W_law_B561 {X : Nat → Int32} {L : Nat} {k23 : AS → Option Nat → Option Nat → Option Nat → Int32 → Option (Int32 × AS)} (hk23 : ∀ {S : AS} {x1 : Option Nat} {x2 : Option Nat} {x3 : Option Nat} {x4 : Int32} {r : (Int32 × AS)}, k23 S x1 x2 x3 x4 = some r → kr_AW (m_W_law X L) 15 23 [(0, va_rf (some 2)), (1, va_rf x1), (2, va_rf x2), (3, va_rf x3), (4, .int x4)] [] S (kr_eI r)) {S : AS} {x1 : Option Nat} {x2 : Option Nat} {x3 : Option Nat} {x4 : Int32} {y0 : Option Nat} {y1 : Int32} {y2 : Int32} {y3 : Int32} {r : (Int32 × AS)} (h : f_W_law_B561 X L k23 S x1 x2 x3 x4 y0 y1 y2 y3 = some r) : kr_AW (m_W_law X L) 15 561 [(0, va_rf (some 2)), (1, va_rf x1), (2, va_rf x2), (3, va_rf x3), (4, .int x4)] [.int y3, .int y2, .int y1, va_rf y0] S (kr_eI r) := by
  unfold f_W_law_B561 at h
  have h2 := kr_ob h
  clear h
  obtain ⟨⟨⟩, eu60, h⟩ := h2
  have h2 := kr_ob2 h
  clear h
  obtain ⟨v62, S61, eS61, h⟩ := h2
  refine r_callV (M1 := m_M_points) (κ := 23) (As := [.int y1, .int y2, .int y3]) eu60 (s_M_points eS61) mok_M_points rfl (by decide) rfl w1795 w1796 w1797 (by decide) (kr_c8 kr_c0) d_W_law_561 (kr_k1 ?_) kr_kn
  refine r_istore (i := 6) (lv' := [(6, .int v62), (0, va_rf (some 2)), (1, va_rf x1), (2, va_rf x2), (3, va_rf x3), (4, .int x4)]) (by show (6 : Nat) < 7; decide) rfl d_W_law_564 ?_
  refine r_goto (tgt := 2025) d_W_law_566 rfl ?_
  exact kr_sub [1, 2, 3, 4, 5] rfl (s_W_law_B2025 hk23 h)
set_option maxRecDepth 20000 in
set_option maxHeartbeats 4000000 in
theorem s_W_law_B528 {X : Nat → Int32} {L : Nat} {k23 : AS → Option Nat → Option Nat → Option Nat → Int32 → Option (Int32 × AS)} (hk23 : ∀ {S : AS} {x1 : Option Nat} {x2 : Option Nat} {x3 : Option Nat} {x4 : Int32} {r : (Int32 × AS)}, k23 S x1 x2 x3 x4 = some r → kr_AW (m_W_law X L) 15 23 [(0, va_rf (some 2)), (1, va_rf x1), (2, va_rf x2), (3, va_rf x3), (4, .int x4)] [] S (kr_eI r)) {S : AS} {x1 : Option Nat} {x2 : Option Nat} {x3 : Option Nat} {x4 : Int32} {y0 : Option Nat} {y1 : Int32} {y2 : Int32} {y3 : Int32} {r : (Int32 × AS)} (h : f_W_law_B528 X L k23 S x1 x2 x3 x4 y0 y1 y2 y3 = some r) : kr_AW (m_W_law X L) 15 528 [(0, va_rf (some 2)), (1, va_rf x1), (2, va_rf x2), (3, va_rf x3), (4, .int x4)] [.int y3, .int y2, .int y1, va_rf y0] S (kr_eI r) := by
  unfold f_W_law_B528 at h
  refine r_aload_n (i := 3) (x := x3) 3 rfl d_W_law_528 ?_
  have h2 := kr_ob2 h
  clear h
  obtain ⟨v64, S63, eS63, h⟩ := h2
  refine r_callSX (M1 := m_W_points) (As := [va_rf y0, .int y1, .int y2, .int y3, va_rf x3]) (s_W_points eS63) mok_W_points (by decide) w757 w758 (by decide) (kr_c8 kr_c0) d_W_law_529 (kr_k1 ?_) kr_kn
  refine r_istore (i := 5) (lv' := [(5, .int v64), (0, va_rf (some 2)), (1, va_rf x1), (2, va_rf x2), (3, va_rf x3), (4, .int x4)]) (by show (5 : Nat) < 7; decide) rfl d_W_law_532 ?_
  refine r_aload_n (i := 2) (x := x2) 3 rfl d_W_law_534 ?_
  refine r_aload_n (i := 0) (x := (some 2)) 1 rfl d_W_law_535 ?_
  refine r_iload (i := 4) (x := x4) 5 rfl d_W_law_536 ?_
  refine r_iconst (v := (1 : Int32)) (by decide) d_W_law_538 ?_
  refine r_iadd d_W_law_539 ?_
  have h2 := kr_ob h
  clear h
  obtain ⟨v65, ev65, h⟩ := h2
  refine r_sload rfl ev65 d_W_law_540 ?_
  refine r_aload_n (i := 0) (x := (some 2)) 1 rfl d_W_law_541 ?_
  refine r_iload (i := 4) (x := x4) 5 rfl d_W_law_542 ?_
  refine r_iconst (v := (2 : Int32)) (by decide) d_W_law_544 ?_
  refine r_iadd d_W_law_545 ?_
  have h2 := kr_ob h
  clear h
  obtain ⟨v66, ev66, h⟩ := h2
  refine r_sload rfl ev66 d_W_law_546 ?_
  refine r_aload_n (i := 0) (x := (some 2)) 1 rfl d_W_law_547 ?_
  refine r_iload (i := 4) (x := x4) 5 rfl d_W_law_548 ?_
  refine r_iconst (v := (3 : Int32)) (by decide) d_W_law_550 ?_
  refine r_iadd d_W_law_551 ?_
  have h2 := kr_ob h
  clear h
  obtain ⟨v67, ev67, h⟩ := h2
  refine r_sload rfl ev67 d_W_law_552 ?_
  refine r_if_eq (tgt := 560) d_W_law_553 rfl (fun c => ?_) (fun c => ?_)
  · replace h := kr_ip c h
    refine r_iconst (v := (0 : Int32)) (by decide) d_W_law_560 ?_
    exact kr_sub [1, 2, 3, 4, 5] rfl (s_W_law_B561 hk23 h)
  · replace h := kr_in_ c h
    refine r_iconst (v := (1 : Int32)) (by decide) d_W_law_556 ?_
    refine r_goto (tgt := 561) d_W_law_557 rfl ?_
    exact kr_sub [1, 2, 3, 4, 5] rfl (s_W_law_B561 hk23 h)
set_option maxRecDepth 20000 in
set_option maxHeartbeats 4000000 in
theorem s_W_law_B501 {X : Nat → Int32} {L : Nat} {k23 : AS → Option Nat → Option Nat → Option Nat → Int32 → Option (Int32 × AS)} (hk23 : ∀ {S : AS} {x1 : Option Nat} {x2 : Option Nat} {x3 : Option Nat} {x4 : Int32} {r : (Int32 × AS)}, k23 S x1 x2 x3 x4 = some r → kr_AW (m_W_law X L) 15 23 [(0, va_rf (some 2)), (1, va_rf x1), (2, va_rf x2), (3, va_rf x3), (4, .int x4)] [] S (kr_eI r)) {S : AS} {x1 : Option Nat} {x2 : Option Nat} {x3 : Option Nat} {x4 : Int32} {r : (Int32 × AS)} (h : f_W_law_B501 X L k23 S x1 x2 x3 x4 = some r) : kr_AW (m_W_law X L) 15 501 [(0, va_rf (some 2)), (1, va_rf x1), (2, va_rf x2), (3, va_rf x3), (4, .int x4)] [] S (kr_eI r) := by
  unfold f_W_law_B501 at h
  refine r_aload_n (i := 1) (x := x1) 1 rfl d_W_law_501 ?_
  refine r_aload_n (i := 0) (x := (some 2)) 0 rfl d_W_law_502 ?_
  refine r_iload (i := 4) (x := x4) 4 rfl d_W_law_503 ?_
  refine r_iconst (v := (1 : Int32)) (by decide) d_W_law_505 ?_
  refine r_iadd d_W_law_506 ?_
  have h2 := kr_ob h
  clear h
  obtain ⟨v68, ev68, h⟩ := h2
  refine r_sload rfl ev68 d_W_law_507 ?_
  refine r_aload_n (i := 0) (x := (some 2)) 0 rfl d_W_law_508 ?_
  refine r_iload (i := 4) (x := x4) 4 rfl d_W_law_509 ?_
  refine r_iconst (v := (2 : Int32)) (by decide) d_W_law_511 ?_
  refine r_iadd d_W_law_512 ?_
  have h2 := kr_ob h
  clear h
  obtain ⟨v69, ev69, h⟩ := h2
  refine r_sload rfl ev69 d_W_law_513 ?_
  refine r_aload_n (i := 0) (x := (some 2)) 0 rfl d_W_law_514 ?_
  refine r_iload (i := 4) (x := x4) 4 rfl d_W_law_515 ?_
  refine r_iconst (v := (3 : Int32)) (by decide) d_W_law_517 ?_
  refine r_iadd d_W_law_518 ?_
  have h2 := kr_ob h
  clear h
  obtain ⟨v70, ev70, h⟩ := h2
  refine r_sload rfl ev70 d_W_law_519 ?_
  refine r_if_eq (tgt := 527) d_W_law_520 rfl (fun c => ?_) (fun c => ?_)
  · replace h := kr_ip c h
    refine r_iconst (v := (0 : Int32)) (by decide) d_W_law_527 ?_
    exact kr_sub [0, 1, 2, 3, 4] rfl (s_W_law_B528 hk23 h)
  · replace h := kr_in_ c h
    refine r_iconst (v := (1 : Int32)) (by decide) d_W_law_523 ?_
    refine r_goto (tgt := 528) d_W_law_524 rfl ?_
    exact kr_sub [0, 1, 2, 3, 4] rfl (s_W_law_B528 hk23 h)
set_option maxRecDepth 20000 in
set_option maxHeartbeats 4000000 in
theorem s_W_law_B569 {X : Nat → Int32} {L : Nat} {k23 : AS → Option Nat → Option Nat → Option Nat → Int32 → Option (Int32 × AS)} (hk23 : ∀ {S : AS} {x1 : Option Nat} {x2 : Option Nat} {x3 : Option Nat} {x4 : Int32} {r : (Int32 × AS)}, k23 S x1 x2 x3 x4 = some r → kr_AW (m_W_law X L) 15 23 [(0, va_rf (some 2)), (1, va_rf x1), (2, va_rf x2), (3, va_rf x3), (4, .int x4)] [] S (kr_eI r)) {S : AS} {x1 : Option Nat} {x2 : Option Nat} {x3 : Option Nat} {x4 : Int32} {r : (Int32 × AS)} (h : f_W_law_B569 X L k23 S x1 x2 x3 x4 = some r) : kr_AW (m_W_law X L) 15 569 [(0, va_rf (some 2)), (1, va_rf x1), (2, va_rf x2), (3, va_rf x3), (4, .int x4)] [] S (kr_eI r) := by
  unfold f_W_law_B569 at h
  refine r_aload_n (i := 1) (x := x1) 1 rfl d_W_law_569 ?_
  refine r_aload_n (i := 0) (x := (some 2)) 0 rfl d_W_law_570 ?_
  refine r_iload (i := 4) (x := x4) 4 rfl d_W_law_571 ?_
  refine r_iconst (v := (1 : Int32)) (by decide) d_W_law_573 ?_
  refine r_iadd d_W_law_574 ?_
  have h2 := kr_ob h
  clear h
  obtain ⟨v71, ev71, h⟩ := h2
  refine r_sload rfl ev71 d_W_law_575 ?_
  refine r_aload_n (i := 0) (x := (some 2)) 0 rfl d_W_law_576 ?_
  refine r_iload (i := 4) (x := x4) 4 rfl d_W_law_577 ?_
  refine r_iconst (v := (2 : Int32)) (by decide) d_W_law_579 ?_
  refine r_iadd d_W_law_580 ?_
  have h2 := kr_ob h
  clear h
  obtain ⟨v72, ev72, h⟩ := h2
  refine r_sload rfl ev72 d_W_law_581 ?_
  refine r_aload_n (i := 0) (x := (some 2)) 0 rfl d_W_law_582 ?_
  refine r_iload (i := 4) (x := x4) 4 rfl d_W_law_583 ?_
  refine r_iconst (v := (3 : Int32)) (by decide) d_W_law_585 ?_
  refine r_iadd d_W_law_586 ?_
  have h2 := kr_ob h
  clear h
  obtain ⟨v73, ev73, h⟩ := h2
  refine r_sload rfl ev73 d_W_law_587 ?_
  refine r_aload_n (i := 3) (x := x3) 3 rfl d_W_law_588 ?_
  have h2 := kr_ob2 h
  clear h
  obtain ⟨v75, S74, eS74, h⟩ := h2
  refine r_callSX (M1 := m_W_begin) (As := [va_rf x1, .int v71, .int v72, .int v73, va_rf x3]) (s_W_begin eS74) mok_W_begin (by decide) w764 w765 (by decide) (kr_c8 kr_c0) d_W_law_589 (kr_k1 ?_) kr_kn
  refine r_istore (i := 5) (lv' := [(5, .int v75), (0, va_rf (some 2)), (1, va_rf x1), (2, va_rf x2), (3, va_rf x3), (4, .int x4)]) (by show (5 : Nat) < 7; decide) rfl d_W_law_592 ?_
  refine r_aload_n (i := 2) (x := x2) 3 rfl d_W_law_594 ?_
  refine r_aload_n (i := 0) (x := (some 2)) 1 rfl d_W_law_595 ?_
  refine r_iload (i := 4) (x := x4) 5 rfl d_W_law_596 ?_
  refine r_iconst (v := (1 : Int32)) (by decide) d_W_law_598 ?_
  refine r_iadd d_W_law_599 ?_
  have h2 := kr_ob h
  clear h
  obtain ⟨v76, ev76, h⟩ := h2
  refine r_sload rfl ev76 d_W_law_600 ?_
  refine r_aload_n (i := 0) (x := (some 2)) 1 rfl d_W_law_601 ?_
  refine r_iload (i := 4) (x := x4) 5 rfl d_W_law_602 ?_
  refine r_iconst (v := (2 : Int32)) (by decide) d_W_law_604 ?_
  refine r_iadd d_W_law_605 ?_
  have h2 := kr_ob h
  clear h
  obtain ⟨v77, ev77, h⟩ := h2
  refine r_sload rfl ev77 d_W_law_606 ?_
  refine r_aload_n (i := 0) (x := (some 2)) 1 rfl d_W_law_607 ?_
  refine r_iload (i := 4) (x := x4) 5 rfl d_W_law_608 ?_
  refine r_iconst (v := (3 : Int32)) (by decide) d_W_law_610 ?_
  refine r_iadd d_W_law_611 ?_
  have h2 := kr_ob h
  clear h
  obtain ⟨v78, ev78, h⟩ := h2
  refine r_sload rfl ev78 d_W_law_612 ?_
  have h2 := kr_ob h
  clear h
  obtain ⟨⟨⟩, eu79, h⟩ := h2
  have h2 := kr_ob2 h
  clear h
  obtain ⟨v81, S80, eS80, h⟩ := h2
  refine r_callV (M1 := m_M_begin) (κ := 23) (As := [.int v76, .int v77, .int v78]) eu79 (s_M_begin eS80) mok_M_begin rfl (by decide) rfl w1799 w1800 w1801 (by decide) (kr_c8 kr_c0) d_W_law_613 (kr_k1 ?_) kr_kn
  refine r_istore (i := 6) (lv' := [(6, .int v81), (5, .int v75), (0, va_rf (some 2)), (1, va_rf x1), (2, va_rf x2), (3, va_rf x3), (4, .int x4)]) (by show (6 : Nat) < 7; decide) rfl d_W_law_616 ?_
  refine r_goto (tgt := 2025) d_W_law_618 rfl ?_
  exact kr_sub [2, 3, 4, 5, 6] rfl (s_W_law_B2025 hk23 h)
set_option maxRecDepth 20000 in
set_option maxHeartbeats 4000000 in
theorem s_W_law_B675 {X : Nat → Int32} {L : Nat} {k23 : AS → Option Nat → Option Nat → Option Nat → Int32 → Option (Int32 × AS)} (hk23 : ∀ {S : AS} {x1 : Option Nat} {x2 : Option Nat} {x3 : Option Nat} {x4 : Int32} {r : (Int32 × AS)}, k23 S x1 x2 x3 x4 = some r → kr_AW (m_W_law X L) 15 23 [(0, va_rf (some 2)), (1, va_rf x1), (2, va_rf x2), (3, va_rf x3), (4, .int x4)] [] S (kr_eI r)) {S : AS} {x1 : Option Nat} {x2 : Option Nat} {x3 : Option Nat} {x4 : Int32} {y0 : Option Nat} {y1 : Int32} {y2 : Int32} {r : (Int32 × AS)} (h : f_W_law_B675 X L k23 S x1 x2 x3 x4 y0 y1 y2 = some r) : kr_AW (m_W_law X L) 15 675 [(0, va_rf (some 2)), (1, va_rf x1), (2, va_rf x2), (3, va_rf x3), (4, .int x4)] [.int y2, .int y1, va_rf y0] S (kr_eI r) := by
  unfold f_W_law_B675 at h
  refine r_aload_n (i := 0) (x := (some 2)) 0 rfl d_W_law_675 ?_
  refine r_iload (i := 4) (x := x4) 4 rfl d_W_law_676 ?_
  refine r_iconst (v := (3 : Int32)) (by decide) d_W_law_678 ?_
  refine r_iadd d_W_law_679 ?_
  have h2 := kr_ob h
  clear h
  obtain ⟨v82, ev82, h⟩ := h2
  refine r_sload rfl ev82 d_W_law_680 ?_
  have h2 := kr_ob h
  clear h
  obtain ⟨⟨⟩, eu83, h⟩ := h2
  have h2 := kr_ob2 h
  clear h
  obtain ⟨v85, S84, eS84, h⟩ := h2
  refine r_callV (M1 := m_M_answer) (κ := 23) (As := [.int y1, .int y2, .int v82]) eu83 (s_M_answer eS84) mok_M_answer rfl (by decide) rfl w1835 w1836 w1837 (by decide) (kr_c8 kr_c0) d_W_law_681 (kr_k1 ?_) kr_kn
  refine r_istore (i := 6) (lv' := [(6, .int v85), (0, va_rf (some 2)), (1, va_rf x1), (2, va_rf x2), (3, va_rf x3), (4, .int x4)]) (by show (6 : Nat) < 7; decide) rfl d_W_law_684 ?_
  refine r_goto (tgt := 2025) d_W_law_686 rfl ?_
  exact kr_sub [1, 2, 3, 4, 5] rfl (s_W_law_B2025 hk23 h)
set_option maxRecDepth 20000 in
set_option maxHeartbeats 4000000 in
theorem s_W_law_B642 {X : Nat → Int32} {L : Nat} {k23 : AS → Option Nat → Option Nat → Option Nat → Int32 → Option (Int32 × AS)} (hk23 : ∀ {S : AS} {x1 : Option Nat} {x2 : Option Nat} {x3 : Option Nat} {x4 : Int32} {r : (Int32 × AS)}, k23 S x1 x2 x3 x4 = some r → kr_AW (m_W_law X L) 15 23 [(0, va_rf (some 2)), (1, va_rf x1), (2, va_rf x2), (3, va_rf x3), (4, .int x4)] [] S (kr_eI r)) {S : AS} {x1 : Option Nat} {x2 : Option Nat} {x3 : Option Nat} {x4 : Int32} {y0 : Option Nat} {y1 : Int32} {y2 : Int32} {r : (Int32 × AS)} (h : f_W_law_B642 X L k23 S x1 x2 x3 x4 y0 y1 y2 = some r) : kr_AW (m_W_law X L) 15 642 [(0, va_rf (some 2)), (1, va_rf x1), (2, va_rf x2), (3, va_rf x3), (4, .int x4)] [.int y2, .int y1, va_rf y0] S (kr_eI r) := by
  unfold f_W_law_B642 at h
  refine r_aload_n (i := 0) (x := (some 2)) 0 rfl d_W_law_642 ?_
  refine r_iload (i := 4) (x := x4) 4 rfl d_W_law_643 ?_
  refine r_iconst (v := (3 : Int32)) (by decide) d_W_law_645 ?_
  refine r_iadd d_W_law_646 ?_
  have h2 := kr_ob h
  clear h
  obtain ⟨v86, ev86, h⟩ := h2
  refine r_sload rfl ev86 d_W_law_647 ?_
  refine r_aload_n (i := 3) (x := x3) 3 rfl d_W_law_648 ?_
  have h2 := kr_ob2 h
  clear h
  obtain ⟨v88, S87, eS87, h⟩ := h2
  refine r_callSX (M1 := m_W_answer) (As := [va_rf y0, .int y1, .int y2, .int v86, va_rf x3]) (s_W_answer eS87) mok_W_answer (by decide) w914 w915 (by decide) (kr_c8 kr_c0) d_W_law_649 (kr_k1 ?_) kr_kn
  refine r_istore (i := 5) (lv' := [(5, .int v88), (0, va_rf (some 2)), (1, va_rf x1), (2, va_rf x2), (3, va_rf x3), (4, .int x4)]) (by show (5 : Nat) < 7; decide) rfl d_W_law_652 ?_
  refine r_aload_n (i := 2) (x := x2) 3 rfl d_W_law_654 ?_
  refine r_aload_n (i := 0) (x := (some 2)) 1 rfl d_W_law_655 ?_
  refine r_iload (i := 4) (x := x4) 5 rfl d_W_law_656 ?_
  refine r_iconst (v := (1 : Int32)) (by decide) d_W_law_658 ?_
  refine r_iadd d_W_law_659 ?_
  have h2 := kr_ob h
  clear h
  obtain ⟨v89, ev89, h⟩ := h2
  refine r_sload rfl ev89 d_W_law_660 ?_
  refine r_aload_n (i := 0) (x := (some 2)) 1 rfl d_W_law_661 ?_
  refine r_iload (i := 4) (x := x4) 5 rfl d_W_law_662 ?_
  refine r_iconst (v := (2 : Int32)) (by decide) d_W_law_664 ?_
  refine r_iadd d_W_law_665 ?_
  have h2 := kr_ob h
  clear h
  obtain ⟨v90, ev90, h⟩ := h2
  refine r_sload rfl ev90 d_W_law_666 ?_
  refine r_if_eq (tgt := 674) d_W_law_667 rfl (fun c => ?_) (fun c => ?_)
  · replace h := kr_ip c h
    refine r_iconst (v := (0 : Int32)) (by decide) d_W_law_674 ?_
    exact kr_sub [1, 2, 3, 4, 5] rfl (s_W_law_B675 hk23 h)
  · replace h := kr_in_ c h
    refine r_iconst (v := (1 : Int32)) (by decide) d_W_law_670 ?_
    refine r_goto (tgt := 675) d_W_law_671 rfl ?_
    exact kr_sub [1, 2, 3, 4, 5] rfl (s_W_law_B675 hk23 h)
set_option maxRecDepth 20000 in
set_option maxHeartbeats 4000000 in
theorem s_W_law_B621 {X : Nat → Int32} {L : Nat} {k23 : AS → Option Nat → Option Nat → Option Nat → Int32 → Option (Int32 × AS)} (hk23 : ∀ {S : AS} {x1 : Option Nat} {x2 : Option Nat} {x3 : Option Nat} {x4 : Int32} {r : (Int32 × AS)}, k23 S x1 x2 x3 x4 = some r → kr_AW (m_W_law X L) 15 23 [(0, va_rf (some 2)), (1, va_rf x1), (2, va_rf x2), (3, va_rf x3), (4, .int x4)] [] S (kr_eI r)) {S : AS} {x1 : Option Nat} {x2 : Option Nat} {x3 : Option Nat} {x4 : Int32} {r : (Int32 × AS)} (h : f_W_law_B621 X L k23 S x1 x2 x3 x4 = some r) : kr_AW (m_W_law X L) 15 621 [(0, va_rf (some 2)), (1, va_rf x1), (2, va_rf x2), (3, va_rf x3), (4, .int x4)] [] S (kr_eI r) := by
  unfold f_W_law_B621 at h
  refine r_aload_n (i := 1) (x := x1) 1 rfl d_W_law_621 ?_
  refine r_aload_n (i := 0) (x := (some 2)) 0 rfl d_W_law_622 ?_
  refine r_iload (i := 4) (x := x4) 4 rfl d_W_law_623 ?_
  refine r_iconst (v := (1 : Int32)) (by decide) d_W_law_625 ?_
  refine r_iadd d_W_law_626 ?_
  have h2 := kr_ob h
  clear h
  obtain ⟨v91, ev91, h⟩ := h2
  refine r_sload rfl ev91 d_W_law_627 ?_
  refine r_aload_n (i := 0) (x := (some 2)) 0 rfl d_W_law_628 ?_
  refine r_iload (i := 4) (x := x4) 4 rfl d_W_law_629 ?_
  refine r_iconst (v := (2 : Int32)) (by decide) d_W_law_631 ?_
  refine r_iadd d_W_law_632 ?_
  have h2 := kr_ob h
  clear h
  obtain ⟨v92, ev92, h⟩ := h2
  refine r_sload rfl ev92 d_W_law_633 ?_
  refine r_if_eq (tgt := 641) d_W_law_634 rfl (fun c => ?_) (fun c => ?_)
  · replace h := kr_ip c h
    refine r_iconst (v := (0 : Int32)) (by decide) d_W_law_641 ?_
    exact kr_sub [0, 1, 2, 3, 4] rfl (s_W_law_B642 hk23 h)
  · replace h := kr_in_ c h
    refine r_iconst (v := (1 : Int32)) (by decide) d_W_law_637 ?_
    refine r_goto (tgt := 642) d_W_law_638 rfl ?_
    exact kr_sub [0, 1, 2, 3, 4] rfl (s_W_law_B642 hk23 h)
set_option maxRecDepth 20000 in
set_option maxHeartbeats 4000000 in
theorem s_W_law_B689 {X : Nat → Int32} {L : Nat} {k23 : AS → Option Nat → Option Nat → Option Nat → Int32 → Option (Int32 × AS)} (hk23 : ∀ {S : AS} {x1 : Option Nat} {x2 : Option Nat} {x3 : Option Nat} {x4 : Int32} {r : (Int32 × AS)}, k23 S x1 x2 x3 x4 = some r → kr_AW (m_W_law X L) 15 23 [(0, va_rf (some 2)), (1, va_rf x1), (2, va_rf x2), (3, va_rf x3), (4, .int x4)] [] S (kr_eI r)) {S : AS} {x1 : Option Nat} {x2 : Option Nat} {x3 : Option Nat} {x4 : Int32} {r : (Int32 × AS)} (h : f_W_law_B689 X L k23 S x1 x2 x3 x4 = some r) : kr_AW (m_W_law X L) 15 689 [(0, va_rf (some 2)), (1, va_rf x1), (2, va_rf x2), (3, va_rf x3), (4, .int x4)] [] S (kr_eI r) := by
  unfold f_W_law_B689 at h
  refine r_aload_n (i := 1) (x := x1) 1 rfl d_W_law_689 ?_
  refine r_aload_n (i := 0) (x := (some 2)) 0 rfl d_W_law_690 ?_
  refine r_iload (i := 4) (x := x4) 4 rfl d_W_law_691 ?_
  refine r_iconst (v := (1 : Int32)) (by decide) d_W_law_693 ?_
  refine r_iadd d_W_law_694 ?_
  have h2 := kr_ob h
  clear h
  obtain ⟨v93, ev93, h⟩ := h2
  refine r_sload rfl ev93 d_W_law_695 ?_
  refine r_aload_n (i := 3) (x := x3) 3 rfl d_W_law_696 ?_
  have h2 := kr_ob2 h
  clear h
  obtain ⟨v95, S94, eS94, h⟩ := h2
  refine r_callSX (M1 := m_W_state) (As := [va_rf x1, .int v93, va_rf x3]) (s_W_state eS94) mok_W_state (by decide) w949 w950 (by decide) (kr_c8 kr_c0) d_W_law_697 (kr_k1 ?_) kr_kn
  refine r_istore (i := 5) (lv' := [(5, .int v95), (0, va_rf (some 2)), (1, va_rf x1), (2, va_rf x2), (3, va_rf x3), (4, .int x4)]) (by show (5 : Nat) < 7; decide) rfl d_W_law_700 ?_
  refine r_aload_n (i := 2) (x := x2) 3 rfl d_W_law_702 ?_
  refine r_aload_n (i := 0) (x := (some 2)) 1 rfl d_W_law_703 ?_
  refine r_iload (i := 4) (x := x4) 5 rfl d_W_law_704 ?_
  refine r_iconst (v := (1 : Int32)) (by decide) d_W_law_706 ?_
  refine r_iadd d_W_law_707 ?_
  have h2 := kr_ob h
  clear h
  obtain ⟨v96, ev96, h⟩ := h2
  refine r_sload rfl ev96 d_W_law_708 ?_
  have h2 := kr_ob h
  clear h
  obtain ⟨⟨⟩, eu97, h⟩ := h2
  have h2 := kr_ob2 h
  clear h
  obtain ⟨v99, S98, eS98, h⟩ := h2
  refine r_callV (M1 := m_M_state) (κ := 23) (As := [.int v96]) eu97 (s_M_state eS98) mok_M_state rfl (by decide) rfl w1855 w1856 w1857 (by decide) (kr_c8 kr_c0) d_W_law_709 (kr_k1 ?_) kr_kn
  refine r_istore (i := 6) (lv' := [(6, .int v99), (5, .int v95), (0, va_rf (some 2)), (1, va_rf x1), (2, va_rf x2), (3, va_rf x3), (4, .int x4)]) (by show (6 : Nat) < 7; decide) rfl d_W_law_712 ?_
  refine r_goto (tgt := 2025) d_W_law_714 rfl ?_
  exact kr_sub [2, 3, 4, 5, 6] rfl (s_W_law_B2025 hk23 h)
set_option maxRecDepth 20000 in
set_option maxHeartbeats 4000000 in
theorem s_W_law_B717 {X : Nat → Int32} {L : Nat} {k23 : AS → Option Nat → Option Nat → Option Nat → Int32 → Option (Int32 × AS)} (hk23 : ∀ {S : AS} {x1 : Option Nat} {x2 : Option Nat} {x3 : Option Nat} {x4 : Int32} {r : (Int32 × AS)}, k23 S x1 x2 x3 x4 = some r → kr_AW (m_W_law X L) 15 23 [(0, va_rf (some 2)), (1, va_rf x1), (2, va_rf x2), (3, va_rf x3), (4, .int x4)] [] S (kr_eI r)) {S : AS} {x1 : Option Nat} {x2 : Option Nat} {x3 : Option Nat} {x4 : Int32} {r : (Int32 × AS)} (h : f_W_law_B717 X L k23 S x1 x2 x3 x4 = some r) : kr_AW (m_W_law X L) 15 717 [(0, va_rf (some 2)), (1, va_rf x1), (2, va_rf x2), (3, va_rf x3), (4, .int x4)] [] S (kr_eI r) := by
  unfold f_W_law_B717 at h
  refine r_aload_n (i := 1) (x := x1) 1 rfl d_W_law_717 ?_
  refine r_aload_n (i := 0) (x := (some 2)) 0 rfl d_W_law_718 ?_
  refine r_iload (i := 4) (x := x4) 4 rfl d_W_law_719 ?_
  refine r_iconst (v := (1 : Int32)) (by decide) d_W_law_721 ?_
  refine r_iadd d_W_law_722 ?_
  have h2 := kr_ob h
  clear h
  obtain ⟨v100, ev100, h⟩ := h2
  refine r_sload rfl ev100 d_W_law_723 ?_
  refine r_aload_n (i := 3) (x := x3) 3 rfl d_W_law_724 ?_
  have h2 := kr_ob2 h
  clear h
  obtain ⟨v102, S101, eS101, h⟩ := h2
  refine r_callSX (M1 := m_W_asked) (As := [va_rf x1, .int v100, va_rf x3]) (s_W_asked eS101) mok_W_asked (by decide) w956 w957 (by decide) (kr_c8 kr_c0) d_W_law_725 (kr_k1 ?_) kr_kn
  refine r_istore (i := 5) (lv' := [(5, .int v102), (0, va_rf (some 2)), (1, va_rf x1), (2, va_rf x2), (3, va_rf x3), (4, .int x4)]) (by show (5 : Nat) < 7; decide) rfl d_W_law_728 ?_
  refine r_aload_n (i := 2) (x := x2) 3 rfl d_W_law_730 ?_
  refine r_aload_n (i := 0) (x := (some 2)) 1 rfl d_W_law_731 ?_
  refine r_iload (i := 4) (x := x4) 5 rfl d_W_law_732 ?_
  refine r_iconst (v := (1 : Int32)) (by decide) d_W_law_734 ?_
  refine r_iadd d_W_law_735 ?_
  have h2 := kr_ob h
  clear h
  obtain ⟨v103, ev103, h⟩ := h2
  refine r_sload rfl ev103 d_W_law_736 ?_
  have h2 := kr_ob h
  clear h
  obtain ⟨⟨⟩, eu104, h⟩ := h2
  have h2 := kr_ob2 h
  clear h
  obtain ⟨v106, S105, eS105, h⟩ := h2
  refine r_callV (M1 := m_M_asked) (κ := 23) (As := [.int v103]) eu104 (s_M_asked eS105) mok_M_asked rfl (by decide) rfl w1859 w1860 w1861 (by decide) (kr_c8 kr_c0) d_W_law_737 (kr_k1 ?_) kr_kn
  refine r_istore (i := 6) (lv' := [(6, .int v106), (5, .int v102), (0, va_rf (some 2)), (1, va_rf x1), (2, va_rf x2), (3, va_rf x3), (4, .int x4)]) (by show (6 : Nat) < 7; decide) rfl d_W_law_740 ?_
  refine r_goto (tgt := 2025) d_W_law_742 rfl ?_
  exact kr_sub [2, 3, 4, 5, 6] rfl (s_W_law_B2025 hk23 h)
set_option maxRecDepth 20000 in
set_option maxHeartbeats 4000000 in
theorem s_W_law_B745 {X : Nat → Int32} {L : Nat} {k23 : AS → Option Nat → Option Nat → Option Nat → Int32 → Option (Int32 × AS)} (hk23 : ∀ {S : AS} {x1 : Option Nat} {x2 : Option Nat} {x3 : Option Nat} {x4 : Int32} {r : (Int32 × AS)}, k23 S x1 x2 x3 x4 = some r → kr_AW (m_W_law X L) 15 23 [(0, va_rf (some 2)), (1, va_rf x1), (2, va_rf x2), (3, va_rf x3), (4, .int x4)] [] S (kr_eI r)) {S : AS} {x1 : Option Nat} {x2 : Option Nat} {x3 : Option Nat} {x4 : Int32} {r : (Int32 × AS)} (h : f_W_law_B745 X L k23 S x1 x2 x3 x4 = some r) : kr_AW (m_W_law X L) 15 745 [(0, va_rf (some 2)), (1, va_rf x1), (2, va_rf x2), (3, va_rf x3), (4, .int x4)] [] S (kr_eI r) := by
  unfold f_W_law_B745 at h
  refine r_aload_n (i := 1) (x := x1) 1 rfl d_W_law_745 ?_
  refine r_aload_n (i := 0) (x := (some 2)) 0 rfl d_W_law_746 ?_
  refine r_iload (i := 4) (x := x4) 4 rfl d_W_law_747 ?_
  refine r_iconst (v := (1 : Int32)) (by decide) d_W_law_749 ?_
  refine r_iadd d_W_law_750 ?_
  have h2 := kr_ob h
  clear h
  obtain ⟨v107, ev107, h⟩ := h2
  refine r_sload rfl ev107 d_W_law_751 ?_
  refine r_aload_n (i := 3) (x := x3) 3 rfl d_W_law_752 ?_
  have h2 := kr_ob2 h
  clear h
  obtain ⟨v109, S108, eS108, h⟩ := h2
  refine r_callSX (M1 := m_W_sessionOf) (As := [va_rf x1, .int v107, va_rf x3]) (s_W_sessionOf eS108) mok_W_sessionOf (by decide) w963 w964 (by decide) (kr_c8 kr_c0) d_W_law_753 (kr_k1 ?_) kr_kn
  refine r_istore (i := 5) (lv' := [(5, .int v109), (0, va_rf (some 2)), (1, va_rf x1), (2, va_rf x2), (3, va_rf x3), (4, .int x4)]) (by show (5 : Nat) < 7; decide) rfl d_W_law_756 ?_
  refine r_aload_n (i := 2) (x := x2) 3 rfl d_W_law_758 ?_
  refine r_aload_n (i := 0) (x := (some 2)) 1 rfl d_W_law_759 ?_
  refine r_iload (i := 4) (x := x4) 5 rfl d_W_law_760 ?_
  refine r_iconst (v := (1 : Int32)) (by decide) d_W_law_762 ?_
  refine r_iadd d_W_law_763 ?_
  have h2 := kr_ob h
  clear h
  obtain ⟨v110, ev110, h⟩ := h2
  refine r_sload rfl ev110 d_W_law_764 ?_
  have h2 := kr_ob h
  clear h
  obtain ⟨⟨⟩, eu111, h⟩ := h2
  have h2 := kr_ob2 h
  clear h
  obtain ⟨v113, S112, eS112, h⟩ := h2
  refine r_callV (M1 := m_M_sessionOf) (κ := 23) (As := [.int v110]) eu111 (s_M_sessionOf eS112) mok_M_sessionOf rfl (by decide) rfl w1863 w1864 w1865 (by decide) (kr_c8 kr_c0) d_W_law_765 (kr_k1 ?_) kr_kn
  refine r_istore (i := 6) (lv' := [(6, .int v113), (5, .int v109), (0, va_rf (some 2)), (1, va_rf x1), (2, va_rf x2), (3, va_rf x3), (4, .int x4)]) (by show (6 : Nat) < 7; decide) rfl d_W_law_768 ?_
  refine r_goto (tgt := 2025) d_W_law_770 rfl ?_
  exact kr_sub [2, 3, 4, 5, 6] rfl (s_W_law_B2025 hk23 h)
set_option maxRecDepth 20000 in
set_option maxHeartbeats 4000000 in
theorem s_W_law_B773 {X : Nat → Int32} {L : Nat} {k23 : AS → Option Nat → Option Nat → Option Nat → Int32 → Option (Int32 × AS)} (hk23 : ∀ {S : AS} {x1 : Option Nat} {x2 : Option Nat} {x3 : Option Nat} {x4 : Int32} {r : (Int32 × AS)}, k23 S x1 x2 x3 x4 = some r → kr_AW (m_W_law X L) 15 23 [(0, va_rf (some 2)), (1, va_rf x1), (2, va_rf x2), (3, va_rf x3), (4, .int x4)] [] S (kr_eI r)) {S : AS} {x1 : Option Nat} {x2 : Option Nat} {x3 : Option Nat} {x4 : Int32} {r : (Int32 × AS)} (h : f_W_law_B773 X L k23 S x1 x2 x3 x4 = some r) : kr_AW (m_W_law X L) 15 773 [(0, va_rf (some 2)), (1, va_rf x1), (2, va_rf x2), (3, va_rf x3), (4, .int x4)] [] S (kr_eI r) := by
  unfold f_W_law_B773 at h
  refine r_aload_n (i := 1) (x := x1) 1 rfl d_W_law_773 ?_
  refine r_aload_n (i := 0) (x := (some 2)) 0 rfl d_W_law_774 ?_
  refine r_iload (i := 4) (x := x4) 4 rfl d_W_law_775 ?_
  refine r_iconst (v := (1 : Int32)) (by decide) d_W_law_777 ?_
  refine r_iadd d_W_law_778 ?_
  have h2 := kr_ob h
  clear h
  obtain ⟨v114, ev114, h⟩ := h2
  refine r_sload rfl ev114 d_W_law_779 ?_
  refine r_aload_n (i := 3) (x := x3) 3 rfl d_W_law_780 ?_
  have h2 := kr_ob2 h
  clear h
  obtain ⟨v116, S115, eS115, h⟩ := h2
  refine r_callSX (M1 := m_W_risk) (As := [va_rf x1, .int v114, va_rf x3]) (s_W_risk eS115) mok_W_risk (by decide) w970 w971 (by decide) (kr_c8 kr_c0) d_W_law_781 (kr_k1 ?_) kr_kn
  refine r_istore (i := 5) (lv' := [(5, .int v116), (0, va_rf (some 2)), (1, va_rf x1), (2, va_rf x2), (3, va_rf x3), (4, .int x4)]) (by show (5 : Nat) < 7; decide) rfl d_W_law_784 ?_
  refine r_aload_n (i := 2) (x := x2) 3 rfl d_W_law_786 ?_
  refine r_aload_n (i := 0) (x := (some 2)) 1 rfl d_W_law_787 ?_
  refine r_iload (i := 4) (x := x4) 5 rfl d_W_law_788 ?_
  refine r_iconst (v := (1 : Int32)) (by decide) d_W_law_790 ?_
  refine r_iadd d_W_law_791 ?_
  have h2 := kr_ob h
  clear h
  obtain ⟨v117, ev117, h⟩ := h2
  refine r_sload rfl ev117 d_W_law_792 ?_
  have h2 := kr_ob h
  clear h
  obtain ⟨⟨⟩, eu118, h⟩ := h2
  have h2 := kr_ob2 h
  clear h
  obtain ⟨v120, S119, eS119, h⟩ := h2
  refine r_callV (M1 := m_M_risk) (κ := 23) (As := [.int v117]) eu118 (s_M_risk eS119) mok_M_risk rfl (by decide) rfl w1867 w1868 w1869 (by decide) (kr_c8 kr_c0) d_W_law_793 (kr_k1 ?_) kr_kn
  refine r_istore (i := 6) (lv' := [(6, .int v120), (5, .int v116), (0, va_rf (some 2)), (1, va_rf x1), (2, va_rf x2), (3, va_rf x3), (4, .int x4)]) (by show (6 : Nat) < 7; decide) rfl d_W_law_796 ?_
  refine r_goto (tgt := 2025) d_W_law_798 rfl ?_
  exact kr_sub [2, 3, 4, 5, 6] rfl (s_W_law_B2025 hk23 h)
set_option maxRecDepth 20000 in
set_option maxHeartbeats 4000000 in
theorem s_W_law_B801 {X : Nat → Int32} {L : Nat} {k23 : AS → Option Nat → Option Nat → Option Nat → Int32 → Option (Int32 × AS)} (hk23 : ∀ {S : AS} {x1 : Option Nat} {x2 : Option Nat} {x3 : Option Nat} {x4 : Int32} {r : (Int32 × AS)}, k23 S x1 x2 x3 x4 = some r → kr_AW (m_W_law X L) 15 23 [(0, va_rf (some 2)), (1, va_rf x1), (2, va_rf x2), (3, va_rf x3), (4, .int x4)] [] S (kr_eI r)) {S : AS} {x1 : Option Nat} {x2 : Option Nat} {x3 : Option Nat} {x4 : Int32} {r : (Int32 × AS)} (h : f_W_law_B801 X L k23 S x1 x2 x3 x4 = some r) : kr_AW (m_W_law X L) 15 801 [(0, va_rf (some 2)), (1, va_rf x1), (2, va_rf x2), (3, va_rf x3), (4, .int x4)] [] S (kr_eI r) := by
  unfold f_W_law_B801 at h
  refine r_aload_n (i := 1) (x := x1) 1 rfl d_W_law_801 ?_
  refine r_aload_n (i := 0) (x := (some 2)) 0 rfl d_W_law_802 ?_
  refine r_iload (i := 4) (x := x4) 4 rfl d_W_law_803 ?_
  refine r_iconst (v := (1 : Int32)) (by decide) d_W_law_805 ?_
  refine r_iadd d_W_law_806 ?_
  have h2 := kr_ob h
  clear h
  obtain ⟨v121, ev121, h⟩ := h2
  refine r_sload rfl ev121 d_W_law_807 ?_
  refine r_aload_n (i := 3) (x := x3) 3 rfl d_W_law_808 ?_
  have h2 := kr_ob2 h
  clear h
  obtain ⟨v123, S122, eS122, h⟩ := h2
  refine r_callSX (M1 := m_W_trialRisk) (As := [va_rf x1, .int v121, va_rf x3]) (s_W_trialRisk eS122) mok_W_trialRisk (by decide) w977 w978 (by decide) (kr_c8 kr_c0) d_W_law_809 (kr_k1 ?_) kr_kn
  refine r_istore (i := 5) (lv' := [(5, .int v123), (0, va_rf (some 2)), (1, va_rf x1), (2, va_rf x2), (3, va_rf x3), (4, .int x4)]) (by show (5 : Nat) < 7; decide) rfl d_W_law_812 ?_
  refine r_aload_n (i := 2) (x := x2) 3 rfl d_W_law_814 ?_
  refine r_aload_n (i := 0) (x := (some 2)) 1 rfl d_W_law_815 ?_
  refine r_iload (i := 4) (x := x4) 5 rfl d_W_law_816 ?_
  refine r_iconst (v := (1 : Int32)) (by decide) d_W_law_818 ?_
  refine r_iadd d_W_law_819 ?_
  have h2 := kr_ob h
  clear h
  obtain ⟨v124, ev124, h⟩ := h2
  refine r_sload rfl ev124 d_W_law_820 ?_
  have h2 := kr_ob h
  clear h
  obtain ⟨⟨⟩, eu125, h⟩ := h2
  have h2 := kr_ob2 h
  clear h
  obtain ⟨v127, S126, eS126, h⟩ := h2
  refine r_callV (M1 := m_M_trialRisk) (κ := 23) (As := [.int v124]) eu125 (s_M_trialRisk eS126) mok_M_trialRisk rfl (by decide) rfl w1871 w1872 w1873 (by decide) (kr_c8 kr_c0) d_W_law_821 (kr_k1 ?_) kr_kn
  refine r_istore (i := 6) (lv' := [(6, .int v127), (5, .int v123), (0, va_rf (some 2)), (1, va_rf x1), (2, va_rf x2), (3, va_rf x3), (4, .int x4)]) (by show (6 : Nat) < 7; decide) rfl d_W_law_824 ?_
  refine r_goto (tgt := 2025) d_W_law_826 rfl ?_
  exact kr_sub [2, 3, 4, 5, 6] rfl (s_W_law_B2025 hk23 h)
set_option maxRecDepth 20000 in
set_option maxHeartbeats 4000000 in
theorem s_W_law_B829 {X : Nat → Int32} {L : Nat} {k23 : AS → Option Nat → Option Nat → Option Nat → Int32 → Option (Int32 × AS)} (hk23 : ∀ {S : AS} {x1 : Option Nat} {x2 : Option Nat} {x3 : Option Nat} {x4 : Int32} {r : (Int32 × AS)}, k23 S x1 x2 x3 x4 = some r → kr_AW (m_W_law X L) 15 23 [(0, va_rf (some 2)), (1, va_rf x1), (2, va_rf x2), (3, va_rf x3), (4, .int x4)] [] S (kr_eI r)) {S : AS} {x1 : Option Nat} {x2 : Option Nat} {x3 : Option Nat} {x4 : Int32} {r : (Int32 × AS)} (h : f_W_law_B829 X L k23 S x1 x2 x3 x4 = some r) : kr_AW (m_W_law X L) 15 829 [(0, va_rf (some 2)), (1, va_rf x1), (2, va_rf x2), (3, va_rf x3), (4, .int x4)] [] S (kr_eI r) := by
  unfold f_W_law_B829 at h
  refine r_aload_n (i := 1) (x := x1) 1 rfl d_W_law_829 ?_
  have h2 := kr_ob h
  clear h
  obtain ⟨⟨⟩, eu128, h⟩ := h2
  have h2 := kr_ob2 h
  clear h
  obtain ⟨v130, S129, eS129, h⟩ := h2
  refine r_callV (M1 := m_K_sessions) (κ := 22) (As := []) eu128 (s_K_sessions eS129) mok_K_sessions rfl (by decide) rfl w344 w345 w346 (by decide) (kr_c8 kr_c0) d_W_law_830 (kr_k1 ?_) kr_kn
  refine r_pop rfl d_W_law_833 ?_
  refine r_aload_n (i := 2) (x := x2) 2 rfl d_W_law_834 ?_
  have h2 := kr_ob h
  clear h
  obtain ⟨⟨⟩, eu131, h⟩ := h2
  have h2 := kr_ob2 h
  clear h
  obtain ⟨v133, S132, eS132, h⟩ := h2
  refine r_callV (M1 := m_M_sessions) (κ := 23) (As := []) eu131 (s_M_sessions eS132) mok_M_sessions rfl (by decide) rfl w1875 w1876 w1877 (by decide) (kr_c8 kr_c0) d_W_law_835 (kr_k1 ?_) kr_kn
  refine r_pop rfl d_W_law_838 ?_
  refine r_goto (tgt := 2025) d_W_law_839 rfl ?_
  exact kr_sub [0, 1, 2, 3, 4] rfl (s_W_law_B2025 hk23 h)
set_option maxRecDepth 20000 in
set_option maxHeartbeats 4000000 in
theorem s_W_law_B842 {X : Nat → Int32} {L : Nat} {k23 : AS → Option Nat → Option Nat → Option Nat → Int32 → Option (Int32 × AS)} (hk23 : ∀ {S : AS} {x1 : Option Nat} {x2 : Option Nat} {x3 : Option Nat} {x4 : Int32} {r : (Int32 × AS)}, k23 S x1 x2 x3 x4 = some r → kr_AW (m_W_law X L) 15 23 [(0, va_rf (some 2)), (1, va_rf x1), (2, va_rf x2), (3, va_rf x3), (4, .int x4)] [] S (kr_eI r)) {S : AS} {x1 : Option Nat} {x2 : Option Nat} {x3 : Option Nat} {x4 : Int32} {r : (Int32 × AS)} (h : f_W_law_B842 X L k23 S x1 x2 x3 x4 = some r) : kr_AW (m_W_law X L) 15 842 [(0, va_rf (some 2)), (1, va_rf x1), (2, va_rf x2), (3, va_rf x3), (4, .int x4)] [] S (kr_eI r) := by
  unfold f_W_law_B842 at h
  refine r_aload_n (i := 1) (x := x1) 1 rfl d_W_law_842 ?_
  refine r_aload_n (i := 0) (x := (some 2)) 0 rfl d_W_law_843 ?_
  refine r_iload (i := 4) (x := x4) 4 rfl d_W_law_844 ?_
  refine r_iconst (v := (1 : Int32)) (by decide) d_W_law_846 ?_
  refine r_iadd d_W_law_847 ?_
  have h2 := kr_ob h
  clear h
  obtain ⟨v134, ev134, h⟩ := h2
  refine r_sload rfl ev134 d_W_law_848 ?_
  refine r_aload_n (i := 3) (x := x3) 3 rfl d_W_law_849 ?_
  have h2 := kr_ob2 h
  clear h
  obtain ⟨v136, S135, eS135, h⟩ := h2
  refine r_callSX (M1 := m_W_isLive) (As := [va_rf x1, .int v134, va_rf x3]) (s_W_isLive eS135) mok_W_isLive (by decide) w984 w985 (by decide) (kr_c8 kr_c0) d_W_law_850 (kr_k1 ?_) kr_kn
  refine r_istore (i := 5) (lv' := [(5, .int v136), (0, va_rf (some 2)), (1, va_rf x1), (2, va_rf x2), (3, va_rf x3), (4, .int x4)]) (by show (5 : Nat) < 7; decide) rfl d_W_law_853 ?_
  refine r_aload_n (i := 2) (x := x2) 3 rfl d_W_law_855 ?_
  refine r_aload_n (i := 0) (x := (some 2)) 1 rfl d_W_law_856 ?_
  refine r_iload (i := 4) (x := x4) 5 rfl d_W_law_857 ?_
  refine r_iconst (v := (1 : Int32)) (by decide) d_W_law_859 ?_
  refine r_iadd d_W_law_860 ?_
  have h2 := kr_ob h
  clear h
  obtain ⟨v137, ev137, h⟩ := h2
  refine r_sload rfl ev137 d_W_law_861 ?_
  have h2 := kr_ob h
  clear h
  obtain ⟨⟨⟩, eu138, h⟩ := h2
  have h2 := kr_ob2 h
  clear h
  obtain ⟨v140, S139, eS139, h⟩ := h2
  refine r_callV (M1 := m_M_isLive) (κ := 23) (As := [.int v137]) eu138 (s_M_isLive eS139) mok_M_isLive rfl (by decide) rfl w1879 w1880 w1881 (by decide) (kr_c8 kr_c0) d_W_law_862 (kr_k1 ?_) kr_kn
  refine r_istore (i := 6) (lv' := [(6, .int v140), (5, .int v136), (0, va_rf (some 2)), (1, va_rf x1), (2, va_rf x2), (3, va_rf x3), (4, .int x4)]) (by show (6 : Nat) < 7; decide) rfl d_W_law_865 ?_
  refine r_goto (tgt := 2025) d_W_law_867 rfl ?_
  exact kr_sub [2, 3, 4, 5, 6] rfl (s_W_law_B2025 hk23 h)
set_option maxRecDepth 20000 in
set_option maxHeartbeats 4000000 in
theorem s_W_law_B870 {X : Nat → Int32} {L : Nat} {k23 : AS → Option Nat → Option Nat → Option Nat → Int32 → Option (Int32 × AS)} (hk23 : ∀ {S : AS} {x1 : Option Nat} {x2 : Option Nat} {x3 : Option Nat} {x4 : Int32} {r : (Int32 × AS)}, k23 S x1 x2 x3 x4 = some r → kr_AW (m_W_law X L) 15 23 [(0, va_rf (some 2)), (1, va_rf x1), (2, va_rf x2), (3, va_rf x3), (4, .int x4)] [] S (kr_eI r)) {S : AS} {x1 : Option Nat} {x2 : Option Nat} {x3 : Option Nat} {x4 : Int32} {r : (Int32 × AS)} (h : f_W_law_B870 X L k23 S x1 x2 x3 x4 = some r) : kr_AW (m_W_law X L) 15 870 [(0, va_rf (some 2)), (1, va_rf x1), (2, va_rf x2), (3, va_rf x3), (4, .int x4)] [] S (kr_eI r) := by
  unfold f_W_law_B870 at h
  refine r_aload_n (i := 1) (x := x1) 1 rfl d_W_law_870 ?_
  refine r_aload_n (i := 0) (x := (some 2)) 0 rfl d_W_law_871 ?_
  refine r_iload (i := 4) (x := x4) 4 rfl d_W_law_872 ?_
  refine r_iconst (v := (1 : Int32)) (by decide) d_W_law_874 ?_
  refine r_iadd d_W_law_875 ?_
  have h2 := kr_ob h
  clear h
  obtain ⟨v141, ev141, h⟩ := h2
  refine r_sload rfl ev141 d_W_law_876 ?_
  refine r_aload_n (i := 3) (x := x3) 3 rfl d_W_law_877 ?_
  have h2 := kr_ob2 h
  clear h
  obtain ⟨v143, S142, eS142, h⟩ := h2
  refine r_callSX (M1 := m_W_isLiveByAudit) (As := [va_rf x1, .int v141, va_rf x3]) (s_W_isLiveByAudit eS142) mok_W_isLiveByAudit (by decide) w995 w996 (by decide) (kr_c8 kr_c0) d_W_law_878 (kr_k1 ?_) kr_kn
  refine r_istore (i := 5) (lv' := [(5, .int v143), (0, va_rf (some 2)), (1, va_rf x1), (2, va_rf x2), (3, va_rf x3), (4, .int x4)]) (by show (5 : Nat) < 7; decide) rfl d_W_law_881 ?_
  refine r_aload_n (i := 2) (x := x2) 3 rfl d_W_law_883 ?_
  refine r_aload_n (i := 0) (x := (some 2)) 1 rfl d_W_law_884 ?_
  refine r_iload (i := 4) (x := x4) 5 rfl d_W_law_885 ?_
  refine r_iconst (v := (1 : Int32)) (by decide) d_W_law_887 ?_
  refine r_iadd d_W_law_888 ?_
  have h2 := kr_ob h
  clear h
  obtain ⟨v144, ev144, h⟩ := h2
  refine r_sload rfl ev144 d_W_law_889 ?_
  have h2 := kr_ob h
  clear h
  obtain ⟨⟨⟩, eu145, h⟩ := h2
  have h2 := kr_ob2 h
  clear h
  obtain ⟨v147, S146, eS146, h⟩ := h2
  refine r_callV (M1 := m_M_isLiveByAudit) (κ := 23) (As := [.int v144]) eu145 (s_M_isLiveByAudit eS146) mok_M_isLiveByAudit rfl (by decide) rfl w1887 w1888 w1889 (by decide) (kr_c8 kr_c0) d_W_law_890 (kr_k1 ?_) kr_kn
  refine r_istore (i := 6) (lv' := [(6, .int v147), (5, .int v143), (0, va_rf (some 2)), (1, va_rf x1), (2, va_rf x2), (3, va_rf x3), (4, .int x4)]) (by show (6 : Nat) < 7; decide) rfl d_W_law_893 ?_
  refine r_goto (tgt := 2025) d_W_law_895 rfl ?_
  exact kr_sub [2, 3, 4, 5, 6] rfl (s_W_law_B2025 hk23 h)
set_option maxRecDepth 20000 in
set_option maxHeartbeats 4000000 in
theorem s_W_law_B898 {X : Nat → Int32} {L : Nat} {k23 : AS → Option Nat → Option Nat → Option Nat → Int32 → Option (Int32 × AS)} (hk23 : ∀ {S : AS} {x1 : Option Nat} {x2 : Option Nat} {x3 : Option Nat} {x4 : Int32} {r : (Int32 × AS)}, k23 S x1 x2 x3 x4 = some r → kr_AW (m_W_law X L) 15 23 [(0, va_rf (some 2)), (1, va_rf x1), (2, va_rf x2), (3, va_rf x3), (4, .int x4)] [] S (kr_eI r)) {S : AS} {x1 : Option Nat} {x2 : Option Nat} {x3 : Option Nat} {x4 : Int32} {r : (Int32 × AS)} (h : f_W_law_B898 X L k23 S x1 x2 x3 x4 = some r) : kr_AW (m_W_law X L) 15 898 [(0, va_rf (some 2)), (1, va_rf x1), (2, va_rf x2), (3, va_rf x3), (4, .int x4)] [] S (kr_eI r) := by
  unfold f_W_law_B898 at h
  refine r_aload_n (i := 1) (x := x1) 1 rfl d_W_law_898 ?_
  refine r_aload_n (i := 0) (x := (some 2)) 0 rfl d_W_law_899 ?_
  refine r_iload (i := 4) (x := x4) 4 rfl d_W_law_900 ?_
  refine r_iconst (v := (1 : Int32)) (by decide) d_W_law_902 ?_
  refine r_iadd d_W_law_903 ?_
  have h2 := kr_ob h
  clear h
  obtain ⟨v148, ev148, h⟩ := h2
  refine r_sload rfl ev148 d_W_law_904 ?_
  refine r_aload_n (i := 3) (x := x3) 3 rfl d_W_law_905 ?_
  have h2 := kr_ob2 h
  clear h
  obtain ⟨v150, S149, eS149, h⟩ := h2
  refine r_callSX (M1 := m_W_level) (As := [va_rf x1, .int v148, va_rf x3]) (s_W_level eS149) mok_W_level (by decide) w1010 w1011 (by decide) (kr_c8 kr_c0) d_W_law_906 (kr_k1 ?_) kr_kn
  refine r_istore (i := 5) (lv' := [(5, .int v150), (0, va_rf (some 2)), (1, va_rf x1), (2, va_rf x2), (3, va_rf x3), (4, .int x4)]) (by show (5 : Nat) < 7; decide) rfl d_W_law_909 ?_
  refine r_aload_n (i := 2) (x := x2) 3 rfl d_W_law_911 ?_
  refine r_aload_n (i := 0) (x := (some 2)) 1 rfl d_W_law_912 ?_
  refine r_iload (i := 4) (x := x4) 5 rfl d_W_law_913 ?_
  refine r_iconst (v := (1 : Int32)) (by decide) d_W_law_915 ?_
  refine r_iadd d_W_law_916 ?_
  have h2 := kr_ob h
  clear h
  obtain ⟨v151, ev151, h⟩ := h2
  refine r_sload rfl ev151 d_W_law_917 ?_
  have h2 := kr_ob h
  clear h
  obtain ⟨⟨⟩, eu152, h⟩ := h2
  have h2 := kr_ob2 h
  clear h
  obtain ⟨v154, S153, eS153, h⟩ := h2
  refine r_callV (M1 := m_M_level) (κ := 23) (As := [.int v151]) eu152 (s_M_level eS153) mok_M_level rfl (by decide) rfl w1891 w1892 w1893 (by decide) (kr_c8 kr_c0) d_W_law_918 (kr_k1 ?_) kr_kn
  refine r_istore (i := 6) (lv' := [(6, .int v154), (5, .int v150), (0, va_rf (some 2)), (1, va_rf x1), (2, va_rf x2), (3, va_rf x3), (4, .int x4)]) (by show (6 : Nat) < 7; decide) rfl d_W_law_921 ?_
  refine r_goto (tgt := 2025) d_W_law_923 rfl ?_
  exact kr_sub [2, 3, 4, 5, 6] rfl (s_W_law_B2025 hk23 h)
set_option maxRecDepth 20000 in
set_option maxHeartbeats 4000000 in
theorem s_W_law_B992 {X : Nat → Int32} {L : Nat} {k23 : AS → Option Nat → Option Nat → Option Nat → Int32 → Option (Int32 × AS)} (hk23 : ∀ {S : AS} {x1 : Option Nat} {x2 : Option Nat} {x3 : Option Nat} {x4 : Int32} {r : (Int32 × AS)}, k23 S x1 x2 x3 x4 = some r → kr_AW (m_W_law X L) 15 23 [(0, va_rf (some 2)), (1, va_rf x1), (2, va_rf x2), (3, va_rf x3), (4, .int x4)] [] S (kr_eI r)) {S : AS} {x1 : Option Nat} {x2 : Option Nat} {x3 : Option Nat} {x4 : Int32} {y0 : Option Nat} {y1 : Int32} {y2 : Int32} {y3 : Int32} {r : (Int32 × AS)} (h : f_W_law_B992 X L k23 S x1 x2 x3 x4 y0 y1 y2 y3 = some r) : kr_AW (m_W_law X L) 15 992 [(0, va_rf (some 2)), (1, va_rf x1), (2, va_rf x2), (3, va_rf x3), (4, .int x4)] [.int y3, .int y2, .int y1, va_rf y0] S (kr_eI r) := by
  unfold f_W_law_B992 at h
  refine r_aload_n (i := 0) (x := (some 2)) 0 rfl d_W_law_992 ?_
  refine r_iload (i := 4) (x := x4) 4 rfl d_W_law_993 ?_
  refine r_iconst (v := (4 : Int32)) (by decide) d_W_law_995 ?_
  refine r_iadd d_W_law_996 ?_
  have h2 := kr_ob h
  clear h
  obtain ⟨v155, ev155, h⟩ := h2
  refine r_sload rfl ev155 d_W_law_997 ?_
  have h2 := kr_ob h
  clear h
  obtain ⟨⟨⟩, eu156, h⟩ := h2
  have h2 := kr_ob2 h
  clear h
  obtain ⟨v158, S157, eS157, h⟩ := h2
  refine r_callV (M1 := m_M_stepUp) (κ := 23) (As := [.int y1, .int y2, .int y3, .int v155]) eu156 (s_M_stepUp eS157) mok_M_stepUp rfl (by decide) rfl w1899 w1900 w1901 (by decide) (kr_c8 kr_c0) d_W_law_998 (kr_k1 ?_) kr_kn
  refine r_istore (i := 6) (lv' := [(6, .int v158), (0, va_rf (some 2)), (1, va_rf x1), (2, va_rf x2), (3, va_rf x3), (4, .int x4)]) (by show (6 : Nat) < 7; decide) rfl d_W_law_1001 ?_
  refine r_goto (tgt := 2025) d_W_law_1003 rfl ?_
  exact kr_sub [1, 2, 3, 4, 5] rfl (s_W_law_B2025 hk23 h)
set_option maxRecDepth 20000 in
set_option maxHeartbeats 4000000 in
theorem s_W_law_B953 {X : Nat → Int32} {L : Nat} {k23 : AS → Option Nat → Option Nat → Option Nat → Int32 → Option (Int32 × AS)} (hk23 : ∀ {S : AS} {x1 : Option Nat} {x2 : Option Nat} {x3 : Option Nat} {x4 : Int32} {r : (Int32 × AS)}, k23 S x1 x2 x3 x4 = some r → kr_AW (m_W_law X L) 15 23 [(0, va_rf (some 2)), (1, va_rf x1), (2, va_rf x2), (3, va_rf x3), (4, .int x4)] [] S (kr_eI r)) {S : AS} {x1 : Option Nat} {x2 : Option Nat} {x3 : Option Nat} {x4 : Int32} {y0 : Option Nat} {y1 : Int32} {y2 : Int32} {y3 : Int32} {r : (Int32 × AS)} (h : f_W_law_B953 X L k23 S x1 x2 x3 x4 y0 y1 y2 y3 = some r) : kr_AW (m_W_law X L) 15 953 [(0, va_rf (some 2)), (1, va_rf x1), (2, va_rf x2), (3, va_rf x3), (4, .int x4)] [.int y3, .int y2, .int y1, va_rf y0] S (kr_eI r) := by
  unfold f_W_law_B953 at h
  refine r_aload_n (i := 0) (x := (some 2)) 0 rfl d_W_law_953 ?_
  refine r_iload (i := 4) (x := x4) 4 rfl d_W_law_954 ?_
  refine r_iconst (v := (4 : Int32)) (by decide) d_W_law_956 ?_
  refine r_iadd d_W_law_957 ?_
  have h2 := kr_ob h
  clear h
  obtain ⟨v159, ev159, h⟩ := h2
  refine r_sload rfl ev159 d_W_law_958 ?_
  refine r_aload_n (i := 3) (x := x3) 3 rfl d_W_law_959 ?_
  have h2 := kr_ob2 h
  clear h
  obtain ⟨v161, S160, eS160, h⟩ := h2
  refine r_callSX (M1 := m_W_stepUp) (As := [va_rf y0, .int y1, .int y2, .int y3, .int v159, va_rf x3]) (s_W_stepUp eS160) mok_W_stepUp (by decide) w1022 w1023 (by decide) (kr_c8 kr_c0) d_W_law_960 (kr_k1 ?_) kr_kn
  refine r_istore (i := 5) (lv' := [(5, .int v161), (0, va_rf (some 2)), (1, va_rf x1), (2, va_rf x2), (3, va_rf x3), (4, .int x4)]) (by show (5 : Nat) < 7; decide) rfl d_W_law_963 ?_
  refine r_aload_n (i := 2) (x := x2) 3 rfl d_W_law_965 ?_
  refine r_aload_n (i := 0) (x := (some 2)) 1 rfl d_W_law_966 ?_
  refine r_iload (i := 4) (x := x4) 5 rfl d_W_law_967 ?_
  refine r_iconst (v := (1 : Int32)) (by decide) d_W_law_969 ?_
  refine r_iadd d_W_law_970 ?_
  have h2 := kr_ob h
  clear h
  obtain ⟨v162, ev162, h⟩ := h2
  refine r_sload rfl ev162 d_W_law_971 ?_
  refine r_aload_n (i := 0) (x := (some 2)) 1 rfl d_W_law_972 ?_
  refine r_iload (i := 4) (x := x4) 5 rfl d_W_law_973 ?_
  refine r_iconst (v := (2 : Int32)) (by decide) d_W_law_975 ?_
  refine r_iadd d_W_law_976 ?_
  have h2 := kr_ob h
  clear h
  obtain ⟨v163, ev163, h⟩ := h2
  refine r_sload rfl ev163 d_W_law_977 ?_
  refine r_aload_n (i := 0) (x := (some 2)) 1 rfl d_W_law_978 ?_
  refine r_iload (i := 4) (x := x4) 5 rfl d_W_law_979 ?_
  refine r_iconst (v := (3 : Int32)) (by decide) d_W_law_981 ?_
  refine r_iadd d_W_law_982 ?_
  have h2 := kr_ob h
  clear h
  obtain ⟨v164, ev164, h⟩ := h2
  refine r_sload rfl ev164 d_W_law_983 ?_
  refine r_if_eq (tgt := 991) d_W_law_984 rfl (fun c => ?_) (fun c => ?_)
  · replace h := kr_ip c h
    refine r_iconst (v := (0 : Int32)) (by decide) d_W_law_991 ?_
    exact kr_sub [1, 2, 3, 4, 5] rfl (s_W_law_B992 hk23 h)
  · replace h := kr_in_ c h
    refine r_iconst (v := (1 : Int32)) (by decide) d_W_law_987 ?_
    refine r_goto (tgt := 992) d_W_law_988 rfl ?_
    exact kr_sub [1, 2, 3, 4, 5] rfl (s_W_law_B992 hk23 h)
set_option maxRecDepth 20000 in
set_option maxHeartbeats 4000000 in
theorem s_W_law_B926 {X : Nat → Int32} {L : Nat} {k23 : AS → Option Nat → Option Nat → Option Nat → Int32 → Option (Int32 × AS)} (hk23 : ∀ {S : AS} {x1 : Option Nat} {x2 : Option Nat} {x3 : Option Nat} {x4 : Int32} {r : (Int32 × AS)}, k23 S x1 x2 x3 x4 = some r → kr_AW (m_W_law X L) 15 23 [(0, va_rf (some 2)), (1, va_rf x1), (2, va_rf x2), (3, va_rf x3), (4, .int x4)] [] S (kr_eI r)) {S : AS} {x1 : Option Nat} {x2 : Option Nat} {x3 : Option Nat} {x4 : Int32} {r : (Int32 × AS)} (h : f_W_law_B926 X L k23 S x1 x2 x3 x4 = some r) : kr_AW (m_W_law X L) 15 926 [(0, va_rf (some 2)), (1, va_rf x1), (2, va_rf x2), (3, va_rf x3), (4, .int x4)] [] S (kr_eI r) := by
  unfold f_W_law_B926 at h
  refine r_aload_n (i := 1) (x := x1) 1 rfl d_W_law_926 ?_
  refine r_aload_n (i := 0) (x := (some 2)) 0 rfl d_W_law_927 ?_
  refine r_iload (i := 4) (x := x4) 4 rfl d_W_law_928 ?_
  refine r_iconst (v := (1 : Int32)) (by decide) d_W_law_930 ?_
  refine r_iadd d_W_law_931 ?_
  have h2 := kr_ob h
  clear h
  obtain ⟨v165, ev165, h⟩ := h2
  refine r_sload rfl ev165 d_W_law_932 ?_
  refine r_aload_n (i := 0) (x := (some 2)) 0 rfl d_W_law_933 ?_
  refine r_iload (i := 4) (x := x4) 4 rfl d_W_law_934 ?_
  refine r_iconst (v := (2 : Int32)) (by decide) d_W_law_936 ?_
  refine r_iadd d_W_law_937 ?_
  have h2 := kr_ob h
  clear h
  obtain ⟨v166, ev166, h⟩ := h2
  refine r_sload rfl ev166 d_W_law_938 ?_
  refine r_aload_n (i := 0) (x := (some 2)) 0 rfl d_W_law_939 ?_
  refine r_iload (i := 4) (x := x4) 4 rfl d_W_law_940 ?_
  refine r_iconst (v := (3 : Int32)) (by decide) d_W_law_942 ?_
  refine r_iadd d_W_law_943 ?_
  have h2 := kr_ob h
  clear h
  obtain ⟨v167, ev167, h⟩ := h2
  refine r_sload rfl ev167 d_W_law_944 ?_
  refine r_if_eq (tgt := 952) d_W_law_945 rfl (fun c => ?_) (fun c => ?_)
  · replace h := kr_ip c h
    refine r_iconst (v := (0 : Int32)) (by decide) d_W_law_952 ?_
    exact kr_sub [0, 1, 2, 3, 4] rfl (s_W_law_B953 hk23 h)
  · replace h := kr_in_ c h
    refine r_iconst (v := (1 : Int32)) (by decide) d_W_law_948 ?_
    refine r_goto (tgt := 953) d_W_law_949 rfl ?_
    exact kr_sub [0, 1, 2, 3, 4] rfl (s_W_law_B953 hk23 h)
set_option maxRecDepth 20000 in
set_option maxHeartbeats 4000000 in
theorem s_W_law_B1006 {X : Nat → Int32} {L : Nat} {k23 : AS → Option Nat → Option Nat → Option Nat → Int32 → Option (Int32 × AS)} (hk23 : ∀ {S : AS} {x1 : Option Nat} {x2 : Option Nat} {x3 : Option Nat} {x4 : Int32} {r : (Int32 × AS)}, k23 S x1 x2 x3 x4 = some r → kr_AW (m_W_law X L) 15 23 [(0, va_rf (some 2)), (1, va_rf x1), (2, va_rf x2), (3, va_rf x3), (4, .int x4)] [] S (kr_eI r)) {S : AS} {x1 : Option Nat} {x2 : Option Nat} {x3 : Option Nat} {x4 : Int32} {r : (Int32 × AS)} (h : f_W_law_B1006 X L k23 S x1 x2 x3 x4 = some r) : kr_AW (m_W_law X L) 15 1006 [(0, va_rf (some 2)), (1, va_rf x1), (2, va_rf x2), (3, va_rf x3), (4, .int x4)] [] S (kr_eI r) := by
  unfold f_W_law_B1006 at h
  refine r_aload_n (i := 1) (x := x1) 1 rfl d_W_law_1006 ?_
  refine r_aload_n (i := 0) (x := (some 2)) 0 rfl d_W_law_1007 ?_
  refine r_iload (i := 4) (x := x4) 4 rfl d_W_law_1008 ?_
  refine r_iconst (v := (1 : Int32)) (by decide) d_W_law_1010 ?_
  refine r_iadd d_W_law_1011 ?_
  have h2 := kr_ob h
  clear h
  obtain ⟨v168, ev168, h⟩ := h2
  refine r_sload rfl ev168 d_W_law_1012 ?_
  refine r_aload_n (i := 3) (x := x3) 3 rfl d_W_law_1013 ?_
  have h2 := kr_ob2 h
  clear h
  obtain ⟨v170, S169, eS169, h⟩ := h2
  refine r_callSX (M1 := m_W_signOut) (As := [va_rf x1, .int v168, va_rf x3]) (s_W_signOut eS169) mok_W_signOut (by decide) w1029 w1030 (by decide) (kr_c8 kr_c0) d_W_law_1014 (kr_k1 ?_) kr_kn
  refine r_istore (i := 5) (lv' := [(5, .int v170), (0, va_rf (some 2)), (1, va_rf x1), (2, va_rf x2), (3, va_rf x3), (4, .int x4)]) (by show (5 : Nat) < 7; decide) rfl d_W_law_1017 ?_
  refine r_aload_n (i := 2) (x := x2) 3 rfl d_W_law_1019 ?_
  refine r_aload_n (i := 0) (x := (some 2)) 1 rfl d_W_law_1020 ?_
  refine r_iload (i := 4) (x := x4) 5 rfl d_W_law_1021 ?_
  refine r_iconst (v := (1 : Int32)) (by decide) d_W_law_1023 ?_
  refine r_iadd d_W_law_1024 ?_
  have h2 := kr_ob h
  clear h
  obtain ⟨v171, ev171, h⟩ := h2
  refine r_sload rfl ev171 d_W_law_1025 ?_
  have h2 := kr_ob h
  clear h
  obtain ⟨⟨⟩, eu172, h⟩ := h2
  have h2 := kr_ob2 h
  clear h
  obtain ⟨v174, S173, eS173, h⟩ := h2
  refine r_callV (M1 := m_M_signOut) (κ := 23) (As := [.int v171]) eu172 (s_M_signOut eS173) mok_M_signOut rfl (by decide) rfl w1903 w1904 w1905 (by decide) (kr_c8 kr_c0) d_W_law_1026 (kr_k1 ?_) kr_kn
  refine r_istore (i := 6) (lv' := [(6, .int v174), (5, .int v170), (0, va_rf (some 2)), (1, va_rf x1), (2, va_rf x2), (3, va_rf x3), (4, .int x4)]) (by show (6 : Nat) < 7; decide) rfl d_W_law_1029 ?_
  refine r_goto (tgt := 2025) d_W_law_1031 rfl ?_
  exact kr_sub [2, 3, 4, 5, 6] rfl (s_W_law_B2025 hk23 h)
set_option maxRecDepth 20000 in
set_option maxHeartbeats 4000000 in
theorem s_W_law_B1034 {X : Nat → Int32} {L : Nat} {k23 : AS → Option Nat → Option Nat → Option Nat → Int32 → Option (Int32 × AS)} (hk23 : ∀ {S : AS} {x1 : Option Nat} {x2 : Option Nat} {x3 : Option Nat} {x4 : Int32} {r : (Int32 × AS)}, k23 S x1 x2 x3 x4 = some r → kr_AW (m_W_law X L) 15 23 [(0, va_rf (some 2)), (1, va_rf x1), (2, va_rf x2), (3, va_rf x3), (4, .int x4)] [] S (kr_eI r)) {S : AS} {x1 : Option Nat} {x2 : Option Nat} {x3 : Option Nat} {x4 : Int32} {r : (Int32 × AS)} (h : f_W_law_B1034 X L k23 S x1 x2 x3 x4 = some r) : kr_AW (m_W_law X L) 15 1034 [(0, va_rf (some 2)), (1, va_rf x1), (2, va_rf x2), (3, va_rf x3), (4, .int x4)] [] S (kr_eI r) := by
  unfold f_W_law_B1034 at h
  refine r_aload_n (i := 1) (x := x1) 1 rfl d_W_law_1034 ?_
  refine r_aload_n (i := 0) (x := (some 2)) 0 rfl d_W_law_1035 ?_
  refine r_iload (i := 4) (x := x4) 4 rfl d_W_law_1036 ?_
  refine r_iconst (v := (1 : Int32)) (by decide) d_W_law_1038 ?_
  refine r_iadd d_W_law_1039 ?_
  have h2 := kr_ob h
  clear h
  obtain ⟨v175, ev175, h⟩ := h2
  refine r_sload rfl ev175 d_W_law_1040 ?_
  refine r_aload_n (i := 3) (x := x3) 3 rfl d_W_law_1041 ?_
  have h2 := kr_ob2 h
  clear h
  obtain ⟨v177, S176, eS176, h⟩ := h2
  refine r_callSX (M1 := m_W_helper) (As := [va_rf x1, .int v175, va_rf x3]) (s_W_helper eS176) mok_W_helper (by decide) w1036 w1037 (by decide) (kr_c8 kr_c0) d_W_law_1042 (kr_k1 ?_) kr_kn
  refine r_istore (i := 5) (lv' := [(5, .int v177), (0, va_rf (some 2)), (1, va_rf x1), (2, va_rf x2), (3, va_rf x3), (4, .int x4)]) (by show (5 : Nat) < 7; decide) rfl d_W_law_1045 ?_
  refine r_aload_n (i := 2) (x := x2) 3 rfl d_W_law_1047 ?_
  refine r_aload_n (i := 0) (x := (some 2)) 1 rfl d_W_law_1048 ?_
  refine r_iload (i := 4) (x := x4) 5 rfl d_W_law_1049 ?_
  refine r_iconst (v := (1 : Int32)) (by decide) d_W_law_1051 ?_
  refine r_iadd d_W_law_1052 ?_
  have h2 := kr_ob h
  clear h
  obtain ⟨v178, ev178, h⟩ := h2
  refine r_sload rfl ev178 d_W_law_1053 ?_
  have h2 := kr_ob h
  clear h
  obtain ⟨⟨⟩, eu179, h⟩ := h2
  have h2 := kr_ob2 h
  clear h
  obtain ⟨v181, S180, eS180, h⟩ := h2
  refine r_callV (M1 := m_M_helper) (κ := 23) (As := [.int v178]) eu179 (s_M_helper eS180) mok_M_helper rfl (by decide) rfl w1907 w1908 w1909 (by decide) (kr_c8 kr_c0) d_W_law_1054 (kr_k1 ?_) kr_kn
  refine r_istore (i := 6) (lv' := [(6, .int v181), (5, .int v177), (0, va_rf (some 2)), (1, va_rf x1), (2, va_rf x2), (3, va_rf x3), (4, .int x4)]) (by show (6 : Nat) < 7; decide) rfl d_W_law_1057 ?_
  refine r_goto (tgt := 2025) d_W_law_1059 rfl ?_
  exact kr_sub [2, 3, 4, 5, 6] rfl (s_W_law_B2025 hk23 h)
set_option maxRecDepth 20000 in
set_option maxHeartbeats 4000000 in
theorem s_W_law_B1062 {X : Nat → Int32} {L : Nat} {k23 : AS → Option Nat → Option Nat → Option Nat → Int32 → Option (Int32 × AS)} (hk23 : ∀ {S : AS} {x1 : Option Nat} {x2 : Option Nat} {x3 : Option Nat} {x4 : Int32} {r : (Int32 × AS)}, k23 S x1 x2 x3 x4 = some r → kr_AW (m_W_law X L) 15 23 [(0, va_rf (some 2)), (1, va_rf x1), (2, va_rf x2), (3, va_rf x3), (4, .int x4)] [] S (kr_eI r)) {S : AS} {x1 : Option Nat} {x2 : Option Nat} {x3 : Option Nat} {x4 : Int32} {r : (Int32 × AS)} (h : f_W_law_B1062 X L k23 S x1 x2 x3 x4 = some r) : kr_AW (m_W_law X L) 15 1062 [(0, va_rf (some 2)), (1, va_rf x1), (2, va_rf x2), (3, va_rf x3), (4, .int x4)] [] S (kr_eI r) := by
  unfold f_W_law_B1062 at h
  refine r_aload_n (i := 1) (x := x1) 1 rfl d_W_law_1062 ?_
  refine r_aload_n (i := 0) (x := (some 2)) 0 rfl d_W_law_1063 ?_
  refine r_iload (i := 4) (x := x4) 4 rfl d_W_law_1064 ?_
  refine r_iconst (v := (1 : Int32)) (by decide) d_W_law_1066 ?_
  refine r_iadd d_W_law_1067 ?_
  have h2 := kr_ob h
  clear h
  obtain ⟨v182, ev182, h⟩ := h2
  refine r_sload rfl ev182 d_W_law_1068 ?_
  refine r_aload_n (i := 0) (x := (some 2)) 0 rfl d_W_law_1069 ?_
  refine r_iload (i := 4) (x := x4) 4 rfl d_W_law_1070 ?_
  refine r_iconst (v := (2 : Int32)) (by decide) d_W_law_1072 ?_
  refine r_iadd d_W_law_1073 ?_
  have h2 := kr_ob h
  clear h
  obtain ⟨v183, ev183, h⟩ := h2
  refine r_sload rfl ev183 d_W_law_1074 ?_
  refine r_aload_n (i := 3) (x := x3) 3 rfl d_W_law_1075 ?_
  have h2 := kr_ob2 h
  clear h
  obtain ⟨v185, S184, eS184, h⟩ := h2
  refine r_callSX (M1 := m_W_act) (As := [va_rf x1, .int v182, .int v183, va_rf x3]) (s_W_act eS184) mok_W_act (by decide) w1043 w1044 (by decide) (kr_c8 kr_c0) d_W_law_1076 (kr_k1 ?_) kr_kn
  refine r_istore (i := 5) (lv' := [(5, .int v185), (0, va_rf (some 2)), (1, va_rf x1), (2, va_rf x2), (3, va_rf x3), (4, .int x4)]) (by show (5 : Nat) < 7; decide) rfl d_W_law_1079 ?_
  refine r_aload_n (i := 2) (x := x2) 3 rfl d_W_law_1081 ?_
  refine r_aload_n (i := 0) (x := (some 2)) 1 rfl d_W_law_1082 ?_
  refine r_iload (i := 4) (x := x4) 5 rfl d_W_law_1083 ?_
  refine r_iconst (v := (1 : Int32)) (by decide) d_W_law_1085 ?_
  refine r_iadd d_W_law_1086 ?_
  have h2 := kr_ob h
  clear h
  obtain ⟨v186, ev186, h⟩ := h2
  refine r_sload rfl ev186 d_W_law_1087 ?_
  refine r_aload_n (i := 0) (x := (some 2)) 1 rfl d_W_law_1088 ?_
  refine r_iload (i := 4) (x := x4) 5 rfl d_W_law_1089 ?_
  refine r_iconst (v := (2 : Int32)) (by decide) d_W_law_1091 ?_
  refine r_iadd d_W_law_1092 ?_
  have h2 := kr_ob h
  clear h
  obtain ⟨v187, ev187, h⟩ := h2
  refine r_sload rfl ev187 d_W_law_1093 ?_
  have h2 := kr_ob h
  clear h
  obtain ⟨⟨⟩, eu188, h⟩ := h2
  have h2 := kr_ob2 h
  clear h
  obtain ⟨v190, S189, eS189, h⟩ := h2
  refine r_callV (M1 := m_M_act) (κ := 23) (As := [.int v186, .int v187]) eu188 (s_M_act eS189) mok_M_act rfl (by decide) rfl w1911 w1912 w1913 (by decide) (kr_c8 kr_c0) d_W_law_1094 (kr_k1 ?_) kr_kn
  refine r_istore (i := 6) (lv' := [(6, .int v190), (5, .int v185), (0, va_rf (some 2)), (1, va_rf x1), (2, va_rf x2), (3, va_rf x3), (4, .int x4)]) (by show (6 : Nat) < 7; decide) rfl d_W_law_1097 ?_
  refine r_goto (tgt := 2025) d_W_law_1099 rfl ?_
  exact kr_sub [2, 3, 4, 5, 6] rfl (s_W_law_B2025 hk23 h)
set_option maxRecDepth 20000 in
set_option maxHeartbeats 4000000 in
theorem s_W_law_B1102 {X : Nat → Int32} {L : Nat} {k23 : AS → Option Nat → Option Nat → Option Nat → Int32 → Option (Int32 × AS)} (hk23 : ∀ {S : AS} {x1 : Option Nat} {x2 : Option Nat} {x3 : Option Nat} {x4 : Int32} {r : (Int32 × AS)}, k23 S x1 x2 x3 x4 = some r → kr_AW (m_W_law X L) 15 23 [(0, va_rf (some 2)), (1, va_rf x1), (2, va_rf x2), (3, va_rf x3), (4, .int x4)] [] S (kr_eI r)) {S : AS} {x1 : Option Nat} {x2 : Option Nat} {x3 : Option Nat} {x4 : Int32} {r : (Int32 × AS)} (h : f_W_law_B1102 X L k23 S x1 x2 x3 x4 = some r) : kr_AW (m_W_law X L) 15 1102 [(0, va_rf (some 2)), (1, va_rf x1), (2, va_rf x2), (3, va_rf x3), (4, .int x4)] [] S (kr_eI r) := by
  unfold f_W_law_B1102 at h
  refine r_aload_n (i := 1) (x := x1) 1 rfl d_W_law_1102 ?_
  refine r_aload_n (i := 0) (x := (some 2)) 0 rfl d_W_law_1103 ?_
  refine r_iload (i := 4) (x := x4) 4 rfl d_W_law_1104 ?_
  refine r_iconst (v := (1 : Int32)) (by decide) d_W_law_1106 ?_
  refine r_iadd d_W_law_1107 ?_
  have h2 := kr_ob h
  clear h
  obtain ⟨v191, ev191, h⟩ := h2
  refine r_sload rfl ev191 d_W_law_1108 ?_
  refine r_aload_n (i := 0) (x := (some 2)) 0 rfl d_W_law_1109 ?_
  refine r_iload (i := 4) (x := x4) 4 rfl d_W_law_1110 ?_
  refine r_iconst (v := (2 : Int32)) (by decide) d_W_law_1112 ?_
  refine r_iadd d_W_law_1113 ?_
  have h2 := kr_ob h
  clear h
  obtain ⟨v192, ev192, h⟩ := h2
  refine r_sload rfl ev192 d_W_law_1114 ?_
  refine r_aload_n (i := 0) (x := (some 2)) 0 rfl d_W_law_1115 ?_
  refine r_iload (i := 4) (x := x4) 4 rfl d_W_law_1116 ?_
  refine r_iconst (v := (3 : Int32)) (by decide) d_W_law_1118 ?_
  refine r_iadd d_W_law_1119 ?_
  have h2 := kr_ob h
  clear h
  obtain ⟨v193, ev193, h⟩ := h2
  refine r_sload rfl ev193 d_W_law_1120 ?_
  refine r_aload_n (i := 3) (x := x3) 3 rfl d_W_law_1121 ?_
  have h2 := kr_ob2 h
  clear h
  obtain ⟨v195, S194, eS194, h⟩ := h2
  refine r_callSX (M1 := m_W_consent) (As := [va_rf x1, .int v191, .int v192, .int v193, va_rf x3]) (s_W_consent eS194) mok_W_consent (by decide) w1050 w1051 (by decide) (kr_c8 kr_c0) d_W_law_1122 (kr_k1 ?_) kr_kn
  refine r_istore (i := 5) (lv' := [(5, .int v195), (0, va_rf (some 2)), (1, va_rf x1), (2, va_rf x2), (3, va_rf x3), (4, .int x4)]) (by show (5 : Nat) < 7; decide) rfl d_W_law_1125 ?_
  refine r_aload_n (i := 2) (x := x2) 3 rfl d_W_law_1127 ?_
  refine r_aload_n (i := 0) (x := (some 2)) 1 rfl d_W_law_1128 ?_
  refine r_iload (i := 4) (x := x4) 5 rfl d_W_law_1129 ?_
  refine r_iconst (v := (1 : Int32)) (by decide) d_W_law_1131 ?_
  refine r_iadd d_W_law_1132 ?_
  have h2 := kr_ob h
  clear h
  obtain ⟨v196, ev196, h⟩ := h2
  refine r_sload rfl ev196 d_W_law_1133 ?_
  refine r_aload_n (i := 0) (x := (some 2)) 1 rfl d_W_law_1134 ?_
  refine r_iload (i := 4) (x := x4) 5 rfl d_W_law_1135 ?_
  refine r_iconst (v := (2 : Int32)) (by decide) d_W_law_1137 ?_
  refine r_iadd d_W_law_1138 ?_
  have h2 := kr_ob h
  clear h
  obtain ⟨v197, ev197, h⟩ := h2
  refine r_sload rfl ev197 d_W_law_1139 ?_
  refine r_aload_n (i := 0) (x := (some 2)) 1 rfl d_W_law_1140 ?_
  refine r_iload (i := 4) (x := x4) 5 rfl d_W_law_1141 ?_
  refine r_iconst (v := (3 : Int32)) (by decide) d_W_law_1143 ?_
  refine r_iadd d_W_law_1144 ?_
  have h2 := kr_ob h
  clear h
  obtain ⟨v198, ev198, h⟩ := h2
  refine r_sload rfl ev198 d_W_law_1145 ?_
  have h2 := kr_ob h
  clear h
  obtain ⟨⟨⟩, eu199, h⟩ := h2
  have h2 := kr_ob2 h
  clear h
  obtain ⟨v201, S200, eS200, h⟩ := h2
  refine r_callV (M1 := m_M_consent) (κ := 23) (As := [.int v196, .int v197, .int v198]) eu199 (s_M_consent eS200) mok_M_consent rfl (by decide) rfl w1915 w1916 w1917 (by decide) (kr_c8 kr_c0) d_W_law_1146 (kr_k1 ?_) kr_kn
  refine r_istore (i := 6) (lv' := [(6, .int v201), (5, .int v195), (0, va_rf (some 2)), (1, va_rf x1), (2, va_rf x2), (3, va_rf x3), (4, .int x4)]) (by show (6 : Nat) < 7; decide) rfl d_W_law_1149 ?_
  refine r_goto (tgt := 2025) d_W_law_1151 rfl ?_
  exact kr_sub [2, 3, 4, 5, 6] rfl (s_W_law_B2025 hk23 h)
set_option maxRecDepth 20000 in
set_option maxHeartbeats 4000000 in
theorem s_W_law_B1154 {X : Nat → Int32} {L : Nat} {k23 : AS → Option Nat → Option Nat → Option Nat → Int32 → Option (Int32 × AS)} (hk23 : ∀ {S : AS} {x1 : Option Nat} {x2 : Option Nat} {x3 : Option Nat} {x4 : Int32} {r : (Int32 × AS)}, k23 S x1 x2 x3 x4 = some r → kr_AW (m_W_law X L) 15 23 [(0, va_rf (some 2)), (1, va_rf x1), (2, va_rf x2), (3, va_rf x3), (4, .int x4)] [] S (kr_eI r)) {S : AS} {x1 : Option Nat} {x2 : Option Nat} {x3 : Option Nat} {x4 : Int32} {r : (Int32 × AS)} (h : f_W_law_B1154 X L k23 S x1 x2 x3 x4 = some r) : kr_AW (m_W_law X L) 15 1154 [(0, va_rf (some 2)), (1, va_rf x1), (2, va_rf x2), (3, va_rf x3), (4, .int x4)] [] S (kr_eI r) := by
  unfold f_W_law_B1154 at h
  refine r_aload_n (i := 1) (x := x1) 1 rfl d_W_law_1154 ?_
  refine r_aload_n (i := 0) (x := (some 2)) 0 rfl d_W_law_1155 ?_
  refine r_iload (i := 4) (x := x4) 4 rfl d_W_law_1156 ?_
  refine r_iconst (v := (1 : Int32)) (by decide) d_W_law_1158 ?_
  refine r_iadd d_W_law_1159 ?_
  have h2 := kr_ob h
  clear h
  obtain ⟨v202, ev202, h⟩ := h2
  refine r_sload rfl ev202 d_W_law_1160 ?_
  refine r_aload_n (i := 0) (x := (some 2)) 0 rfl d_W_law_1161 ?_
  refine r_iload (i := 4) (x := x4) 4 rfl d_W_law_1162 ?_
  refine r_iconst (v := (2 : Int32)) (by decide) d_W_law_1164 ?_
  refine r_iadd d_W_law_1165 ?_
  have h2 := kr_ob h
  clear h
  obtain ⟨v203, ev203, h⟩ := h2
  refine r_sload rfl ev203 d_W_law_1166 ?_
  refine r_aload_n (i := 3) (x := x3) 3 rfl d_W_law_1167 ?_
  have h2 := kr_ob2 h
  clear h
  obtain ⟨v205, S204, eS204, h⟩ := h2
  refine r_callSX (M1 := m_W_withdraw) (As := [va_rf x1, .int v202, .int v203, va_rf x3]) (s_W_withdraw eS204) mok_W_withdraw (by decide) w1057 w1058 (by decide) (kr_c8 kr_c0) d_W_law_1168 (kr_k1 ?_) kr_kn
  refine r_istore (i := 5) (lv' := [(5, .int v205), (0, va_rf (some 2)), (1, va_rf x1), (2, va_rf x2), (3, va_rf x3), (4, .int x4)]) (by show (5 : Nat) < 7; decide) rfl d_W_law_1171 ?_
  refine r_aload_n (i := 2) (x := x2) 3 rfl d_W_law_1173 ?_
  refine r_aload_n (i := 0) (x := (some 2)) 1 rfl d_W_law_1174 ?_
  refine r_iload (i := 4) (x := x4) 5 rfl d_W_law_1175 ?_
  refine r_iconst (v := (1 : Int32)) (by decide) d_W_law_1177 ?_
  refine r_iadd d_W_law_1178 ?_
  have h2 := kr_ob h
  clear h
  obtain ⟨v206, ev206, h⟩ := h2
  refine r_sload rfl ev206 d_W_law_1179 ?_
  refine r_aload_n (i := 0) (x := (some 2)) 1 rfl d_W_law_1180 ?_
  refine r_iload (i := 4) (x := x4) 5 rfl d_W_law_1181 ?_
  refine r_iconst (v := (2 : Int32)) (by decide) d_W_law_1183 ?_
  refine r_iadd d_W_law_1184 ?_
  have h2 := kr_ob h
  clear h
  obtain ⟨v207, ev207, h⟩ := h2
  refine r_sload rfl ev207 d_W_law_1185 ?_
  have h2 := kr_ob h
  clear h
  obtain ⟨⟨⟩, eu208, h⟩ := h2
  have h2 := kr_ob2 h
  clear h
  obtain ⟨v210, S209, eS209, h⟩ := h2
  refine r_callV (M1 := m_M_withdraw) (κ := 23) (As := [.int v206, .int v207]) eu208 (s_M_withdraw eS209) mok_M_withdraw rfl (by decide) rfl w1922 w1923 w1924 (by decide) (kr_c8 kr_c0) d_W_law_1186 (kr_k1 ?_) kr_kn
  refine r_istore (i := 6) (lv' := [(6, .int v210), (5, .int v205), (0, va_rf (some 2)), (1, va_rf x1), (2, va_rf x2), (3, va_rf x3), (4, .int x4)]) (by show (6 : Nat) < 7; decide) rfl d_W_law_1189 ?_
  refine r_goto (tgt := 2025) d_W_law_1191 rfl ?_
  exact kr_sub [2, 3, 4, 5, 6] rfl (s_W_law_B2025 hk23 h)
set_option maxRecDepth 20000 in
set_option maxHeartbeats 4000000 in
theorem s_W_law_B1194 {X : Nat → Int32} {L : Nat} {k23 : AS → Option Nat → Option Nat → Option Nat → Int32 → Option (Int32 × AS)} (hk23 : ∀ {S : AS} {x1 : Option Nat} {x2 : Option Nat} {x3 : Option Nat} {x4 : Int32} {r : (Int32 × AS)}, k23 S x1 x2 x3 x4 = some r → kr_AW (m_W_law X L) 15 23 [(0, va_rf (some 2)), (1, va_rf x1), (2, va_rf x2), (3, va_rf x3), (4, .int x4)] [] S (kr_eI r)) {S : AS} {x1 : Option Nat} {x2 : Option Nat} {x3 : Option Nat} {x4 : Int32} {r : (Int32 × AS)} (h : f_W_law_B1194 X L k23 S x1 x2 x3 x4 = some r) : kr_AW (m_W_law X L) 15 1194 [(0, va_rf (some 2)), (1, va_rf x1), (2, va_rf x2), (3, va_rf x3), (4, .int x4)] [] S (kr_eI r) := by
  unfold f_W_law_B1194 at h
  refine r_aload_n (i := 1) (x := x1) 1 rfl d_W_law_1194 ?_
  refine r_aload_n (i := 0) (x := (some 2)) 0 rfl d_W_law_1195 ?_
  refine r_iload (i := 4) (x := x4) 4 rfl d_W_law_1196 ?_
  refine r_iconst (v := (1 : Int32)) (by decide) d_W_law_1198 ?_
  refine r_iadd d_W_law_1199 ?_
  have h2 := kr_ob h
  clear h
  obtain ⟨v211, ev211, h⟩ := h2
  refine r_sload rfl ev211 d_W_law_1200 ?_
  refine r_aload_n (i := 0) (x := (some 2)) 0 rfl d_W_law_1201 ?_
  refine r_iload (i := 4) (x := x4) 4 rfl d_W_law_1202 ?_
  refine r_iconst (v := (2 : Int32)) (by decide) d_W_law_1204 ?_
  refine r_iadd d_W_law_1205 ?_
  have h2 := kr_ob h
  clear h
  obtain ⟨v212, ev212, h⟩ := h2
  refine r_sload rfl ev212 d_W_law_1206 ?_
  refine r_aload_n (i := 3) (x := x3) 3 rfl d_W_law_1207 ?_
  have h2 := kr_ob2 h
  clear h
  obtain ⟨v214, S213, eS213, h⟩ := h2
  refine r_callSX (M1 := m_W_need) (As := [va_rf x1, .int v211, .int v212, va_rf x3]) (s_W_need eS213) mok_W_need (by decide) w1064 w1065 (by decide) (kr_c8 kr_c0) d_W_law_1208 (kr_k1 ?_) kr_kn
  refine r_istore (i := 5) (lv' := [(5, .int v214), (0, va_rf (some 2)), (1, va_rf x1), (2, va_rf x2), (3, va_rf x3), (4, .int x4)]) (by show (5 : Nat) < 7; decide) rfl d_W_law_1211 ?_
  refine r_aload_n (i := 2) (x := x2) 3 rfl d_W_law_1213 ?_
  refine r_aload_n (i := 0) (x := (some 2)) 1 rfl d_W_law_1214 ?_
  refine r_iload (i := 4) (x := x4) 5 rfl d_W_law_1215 ?_
  refine r_iconst (v := (1 : Int32)) (by decide) d_W_law_1217 ?_
  refine r_iadd d_W_law_1218 ?_
  have h2 := kr_ob h
  clear h
  obtain ⟨v215, ev215, h⟩ := h2
  refine r_sload rfl ev215 d_W_law_1219 ?_
  refine r_aload_n (i := 0) (x := (some 2)) 1 rfl d_W_law_1220 ?_
  refine r_iload (i := 4) (x := x4) 5 rfl d_W_law_1221 ?_
  refine r_iconst (v := (2 : Int32)) (by decide) d_W_law_1223 ?_
  refine r_iadd d_W_law_1224 ?_
  have h2 := kr_ob h
  clear h
  obtain ⟨v216, ev216, h⟩ := h2
  refine r_sload rfl ev216 d_W_law_1225 ?_
  have h2 := kr_ob h
  clear h
  obtain ⟨⟨⟩, eu217, h⟩ := h2
  have h2 := kr_ob2 h
  clear h
  obtain ⟨v219, S218, eS218, h⟩ := h2
  refine r_callV (M1 := m_M_need) (κ := 23) (As := [.int v215, .int v216]) eu217 (s_M_need eS218) mok_M_need rfl (by decide) rfl w1926 w1927 w1928 (by decide) (kr_c8 kr_c0) d_W_law_1226 (kr_k1 ?_) kr_kn
  refine r_istore (i := 6) (lv' := [(6, .int v219), (5, .int v214), (0, va_rf (some 2)), (1, va_rf x1), (2, va_rf x2), (3, va_rf x3), (4, .int x4)]) (by show (6 : Nat) < 7; decide) rfl d_W_law_1229 ?_
  refine r_goto (tgt := 2025) d_W_law_1231 rfl ?_
  exact kr_sub [2, 3, 4, 5, 6] rfl (s_W_law_B2025 hk23 h)
set_option maxRecDepth 20000 in
set_option maxHeartbeats 4000000 in
theorem s_W_law_B1234 {X : Nat → Int32} {L : Nat} {k23 : AS → Option Nat → Option Nat → Option Nat → Int32 → Option (Int32 × AS)} (hk23 : ∀ {S : AS} {x1 : Option Nat} {x2 : Option Nat} {x3 : Option Nat} {x4 : Int32} {r : (Int32 × AS)}, k23 S x1 x2 x3 x4 = some r → kr_AW (m_W_law X L) 15 23 [(0, va_rf (some 2)), (1, va_rf x1), (2, va_rf x2), (3, va_rf x3), (4, .int x4)] [] S (kr_eI r)) {S : AS} {x1 : Option Nat} {x2 : Option Nat} {x3 : Option Nat} {x4 : Int32} {r : (Int32 × AS)} (h : f_W_law_B1234 X L k23 S x1 x2 x3 x4 = some r) : kr_AW (m_W_law X L) 15 1234 [(0, va_rf (some 2)), (1, va_rf x1), (2, va_rf x2), (3, va_rf x3), (4, .int x4)] [] S (kr_eI r) := by
  unfold f_W_law_B1234 at h
  refine r_aload_n (i := 1) (x := x1) 1 rfl d_W_law_1234 ?_
  refine r_aload_n (i := 0) (x := (some 2)) 0 rfl d_W_law_1235 ?_
  refine r_iload (i := 4) (x := x4) 4 rfl d_W_law_1236 ?_
  refine r_iconst (v := (1 : Int32)) (by decide) d_W_law_1238 ?_
  refine r_iadd d_W_law_1239 ?_
  have h2 := kr_ob h
  clear h
  obtain ⟨v220, ev220, h⟩ := h2
  refine r_sload rfl ev220 d_W_law_1240 ?_
  refine r_aload_n (i := 0) (x := (some 2)) 0 rfl d_W_law_1241 ?_
  refine r_iload (i := 4) (x := x4) 4 rfl d_W_law_1242 ?_
  refine r_iconst (v := (2 : Int32)) (by decide) d_W_law_1244 ?_
  refine r_iadd d_W_law_1245 ?_
  have h2 := kr_ob h
  clear h
  obtain ⟨v221, ev221, h⟩ := h2
  refine r_sload rfl ev221 d_W_law_1246 ?_
  refine r_aload_n (i := 0) (x := (some 2)) 0 rfl d_W_law_1247 ?_
  refine r_iload (i := 4) (x := x4) 4 rfl d_W_law_1248 ?_
  refine r_iconst (v := (3 : Int32)) (by decide) d_W_law_1250 ?_
  refine r_iadd d_W_law_1251 ?_
  have h2 := kr_ob h
  clear h
  obtain ⟨v222, ev222, h⟩ := h2
  refine r_sload rfl ev222 d_W_law_1252 ?_
  refine r_aload_n (i := 0) (x := (some 2)) 0 rfl d_W_law_1253 ?_
  refine r_iload (i := 4) (x := x4) 4 rfl d_W_law_1254 ?_
  refine r_iconst (v := (4 : Int32)) (by decide) d_W_law_1256 ?_
  refine r_iadd d_W_law_1257 ?_
  have h2 := kr_ob h
  clear h
  obtain ⟨v223, ev223, h⟩ := h2
  refine r_sload rfl ev223 d_W_law_1258 ?_
  refine r_aload_n (i := 3) (x := x3) 3 rfl d_W_law_1259 ?_
  have h2 := kr_ob2 h
  clear h
  obtain ⟨v225, S224, eS224, h⟩ := h2
  refine r_callSX (M1 := m_W_authorize) (As := [va_rf x1, .int v220, .int v221, .int v222, .int v223, va_rf x3]) (s_W_authorize eS224) mok_W_authorize (by decide) w1071 w1072 (by decide) (kr_c8 kr_c0) d_W_law_1260 (kr_k1 ?_) kr_kn
  refine r_istore (i := 5) (lv' := [(5, .int v225), (0, va_rf (some 2)), (1, va_rf x1), (2, va_rf x2), (3, va_rf x3), (4, .int x4)]) (by show (5 : Nat) < 7; decide) rfl d_W_law_1263 ?_
  refine r_aload_n (i := 2) (x := x2) 3 rfl d_W_law_1265 ?_
  refine r_aload_n (i := 0) (x := (some 2)) 1 rfl d_W_law_1266 ?_
  refine r_iload (i := 4) (x := x4) 5 rfl d_W_law_1267 ?_
  refine r_iconst (v := (1 : Int32)) (by decide) d_W_law_1269 ?_
  refine r_iadd d_W_law_1270 ?_
  have h2 := kr_ob h
  clear h
  obtain ⟨v226, ev226, h⟩ := h2
  refine r_sload rfl ev226 d_W_law_1271 ?_
  refine r_aload_n (i := 0) (x := (some 2)) 1 rfl d_W_law_1272 ?_
  refine r_iload (i := 4) (x := x4) 5 rfl d_W_law_1273 ?_
  refine r_iconst (v := (2 : Int32)) (by decide) d_W_law_1275 ?_
  refine r_iadd d_W_law_1276 ?_
  have h2 := kr_ob h
  clear h
  obtain ⟨v227, ev227, h⟩ := h2
  refine r_sload rfl ev227 d_W_law_1277 ?_
  refine r_aload_n (i := 0) (x := (some 2)) 1 rfl d_W_law_1278 ?_
  refine r_iload (i := 4) (x := x4) 5 rfl d_W_law_1279 ?_
  refine r_iconst (v := (3 : Int32)) (by decide) d_W_law_1281 ?_
  refine r_iadd d_W_law_1282 ?_
  have h2 := kr_ob h
  clear h
  obtain ⟨v228, ev228, h⟩ := h2
  refine r_sload rfl ev228 d_W_law_1283 ?_
  refine r_aload_n (i := 0) (x := (some 2)) 1 rfl d_W_law_1284 ?_
  refine r_iload (i := 4) (x := x4) 5 rfl d_W_law_1285 ?_
  refine r_iconst (v := (4 : Int32)) (by decide) d_W_law_1287 ?_
  refine r_iadd d_W_law_1288 ?_
  have h2 := kr_ob h
  clear h
  obtain ⟨v229, ev229, h⟩ := h2
  refine r_sload rfl ev229 d_W_law_1289 ?_
  have h2 := kr_ob h
  clear h
  obtain ⟨⟨⟩, eu230, h⟩ := h2
  have h2 := kr_ob2 h
  clear h
  obtain ⟨v232, S231, eS231, h⟩ := h2
  refine r_callV (M1 := m_M_authorize) (κ := 23) (As := [.int v226, .int v227, .int v228, .int v229]) eu230 (s_M_authorize eS231) mok_M_authorize rfl (by decide) rfl w1930 w1931 w1932 (by decide) (kr_c8 kr_c0) d_W_law_1290 (kr_k1 ?_) kr_kn
  refine r_istore (i := 6) (lv' := [(6, .int v232), (5, .int v225), (0, va_rf (some 2)), (1, va_rf x1), (2, va_rf x2), (3, va_rf x3), (4, .int x4)]) (by show (6 : Nat) < 7; decide) rfl d_W_law_1293 ?_
  refine r_goto (tgt := 2025) d_W_law_1295 rfl ?_
  exact kr_sub [2, 3, 4, 5, 6] rfl (s_W_law_B2025 hk23 h)
set_option maxRecDepth 20000 in
set_option maxHeartbeats 4000000 in
theorem s_W_law_B1298 {X : Nat → Int32} {L : Nat} {k23 : AS → Option Nat → Option Nat → Option Nat → Int32 → Option (Int32 × AS)} (hk23 : ∀ {S : AS} {x1 : Option Nat} {x2 : Option Nat} {x3 : Option Nat} {x4 : Int32} {r : (Int32 × AS)}, k23 S x1 x2 x3 x4 = some r → kr_AW (m_W_law X L) 15 23 [(0, va_rf (some 2)), (1, va_rf x1), (2, va_rf x2), (3, va_rf x3), (4, .int x4)] [] S (kr_eI r)) {S : AS} {x1 : Option Nat} {x2 : Option Nat} {x3 : Option Nat} {x4 : Int32} {r : (Int32 × AS)} (h : f_W_law_B1298 X L k23 S x1 x2 x3 x4 = some r) : kr_AW (m_W_law X L) 15 1298 [(0, va_rf (some 2)), (1, va_rf x1), (2, va_rf x2), (3, va_rf x3), (4, .int x4)] [] S (kr_eI r) := by
  unfold f_W_law_B1298 at h
  refine r_aload_n (i := 1) (x := x1) 1 rfl d_W_law_1298 ?_
  refine r_aload_n (i := 0) (x := (some 2)) 0 rfl d_W_law_1299 ?_
  refine r_iload (i := 4) (x := x4) 4 rfl d_W_law_1300 ?_
  refine r_iconst (v := (1 : Int32)) (by decide) d_W_law_1302 ?_
  refine r_iadd d_W_law_1303 ?_
  have h2 := kr_ob h
  clear h
  obtain ⟨v233, ev233, h⟩ := h2
  refine r_sload rfl ev233 d_W_law_1304 ?_
  refine r_aload_n (i := 3) (x := x3) 3 rfl d_W_law_1305 ?_
  have h2 := kr_ob2 h
  clear h
  obtain ⟨v235, S234, eS234, h⟩ := h2
  refine r_callSX (M1 := m_W_redeem) (As := [va_rf x1, .int v233, va_rf x3]) (s_W_redeem eS234) mok_W_redeem (by decide) w1133 w1134 (by decide) (kr_c8 kr_c0) d_W_law_1306 (kr_k1 ?_) kr_kn
  refine r_istore (i := 5) (lv' := [(5, .int v235), (0, va_rf (some 2)), (1, va_rf x1), (2, va_rf x2), (3, va_rf x3), (4, .int x4)]) (by show (5 : Nat) < 7; decide) rfl d_W_law_1309 ?_
  refine r_aload_n (i := 2) (x := x2) 3 rfl d_W_law_1311 ?_
  refine r_aload_n (i := 0) (x := (some 2)) 1 rfl d_W_law_1312 ?_
  refine r_iload (i := 4) (x := x4) 5 rfl d_W_law_1313 ?_
  refine r_iconst (v := (1 : Int32)) (by decide) d_W_law_1315 ?_
  refine r_iadd d_W_law_1316 ?_
  have h2 := kr_ob h
  clear h
  obtain ⟨v236, ev236, h⟩ := h2
  refine r_sload rfl ev236 d_W_law_1317 ?_
  have h2 := kr_ob h
  clear h
  obtain ⟨⟨⟩, eu237, h⟩ := h2
  have h2 := kr_ob2 h
  clear h
  obtain ⟨v239, S238, eS238, h⟩ := h2
  refine r_callV (M1 := m_M_redeem) (κ := 23) (As := [.int v236]) eu237 (s_M_redeem eS238) mok_M_redeem rfl (by decide) rfl w1934 w1935 w1936 (by decide) (kr_c8 kr_c0) d_W_law_1318 (kr_k1 ?_) kr_kn
  refine r_istore (i := 6) (lv' := [(6, .int v239), (5, .int v235), (0, va_rf (some 2)), (1, va_rf x1), (2, va_rf x2), (3, va_rf x3), (4, .int x4)]) (by show (6 : Nat) < 7; decide) rfl d_W_law_1321 ?_
  refine r_goto (tgt := 2025) d_W_law_1323 rfl ?_
  exact kr_sub [2, 3, 4, 5, 6] rfl (s_W_law_B2025 hk23 h)
set_option maxRecDepth 20000 in
set_option maxHeartbeats 4000000 in
theorem s_W_law_B1326 {X : Nat → Int32} {L : Nat} {k23 : AS → Option Nat → Option Nat → Option Nat → Int32 → Option (Int32 × AS)} (hk23 : ∀ {S : AS} {x1 : Option Nat} {x2 : Option Nat} {x3 : Option Nat} {x4 : Int32} {r : (Int32 × AS)}, k23 S x1 x2 x3 x4 = some r → kr_AW (m_W_law X L) 15 23 [(0, va_rf (some 2)), (1, va_rf x1), (2, va_rf x2), (3, va_rf x3), (4, .int x4)] [] S (kr_eI r)) {S : AS} {x1 : Option Nat} {x2 : Option Nat} {x3 : Option Nat} {x4 : Int32} {r : (Int32 × AS)} (h : f_W_law_B1326 X L k23 S x1 x2 x3 x4 = some r) : kr_AW (m_W_law X L) 15 1326 [(0, va_rf (some 2)), (1, va_rf x1), (2, va_rf x2), (3, va_rf x3), (4, .int x4)] [] S (kr_eI r) := by
  unfold f_W_law_B1326 at h
  refine r_aload_n (i := 1) (x := x1) 1 rfl d_W_law_1326 ?_
  refine r_aload_n (i := 0) (x := (some 2)) 0 rfl d_W_law_1327 ?_
  refine r_iload (i := 4) (x := x4) 4 rfl d_W_law_1328 ?_
  refine r_iconst (v := (1 : Int32)) (by decide) d_W_law_1330 ?_
  refine r_iadd d_W_law_1331 ?_
  have h2 := kr_ob h
  clear h
  obtain ⟨v240, ev240, h⟩ := h2
  refine r_sload rfl ev240 d_W_law_1332 ?_
  refine r_aload_n (i := 0) (x := (some 2)) 0 rfl d_W_law_1333 ?_
  refine r_iload (i := 4) (x := x4) 4 rfl d_W_law_1334 ?_
  refine r_iconst (v := (2 : Int32)) (by decide) d_W_law_1336 ?_
  refine r_iadd d_W_law_1337 ?_
  have h2 := kr_ob h
  clear h
  obtain ⟨v241, ev241, h⟩ := h2
  refine r_sload rfl ev241 d_W_law_1338 ?_
  refine r_aload_n (i := 3) (x := x3) 3 rfl d_W_law_1339 ?_
  have h2 := kr_ob2 h
  clear h
  obtain ⟨v243, S242, eS242, h⟩ := h2
  refine r_callSX (M1 := m_W_refresh) (As := [va_rf x1, .int v240, .int v241, va_rf x3]) (s_W_refresh eS242) mok_W_refresh (by decide) w1187 w1188 (by decide) (kr_c8 kr_c0) d_W_law_1340 (kr_k1 ?_) kr_kn
  refine r_istore (i := 5) (lv' := [(5, .int v243), (0, va_rf (some 2)), (1, va_rf x1), (2, va_rf x2), (3, va_rf x3), (4, .int x4)]) (by show (5 : Nat) < 7; decide) rfl d_W_law_1343 ?_
  refine r_aload_n (i := 2) (x := x2) 3 rfl d_W_law_1345 ?_
  refine r_aload_n (i := 0) (x := (some 2)) 1 rfl d_W_law_1346 ?_
  refine r_iload (i := 4) (x := x4) 5 rfl d_W_law_1347 ?_
  refine r_iconst (v := (1 : Int32)) (by decide) d_W_law_1349 ?_
  refine r_iadd d_W_law_1350 ?_
  have h2 := kr_ob h
  clear h
  obtain ⟨v244, ev244, h⟩ := h2
  refine r_sload rfl ev244 d_W_law_1351 ?_
  refine r_aload_n (i := 0) (x := (some 2)) 1 rfl d_W_law_1352 ?_
  refine r_iload (i := 4) (x := x4) 5 rfl d_W_law_1353 ?_
  refine r_iconst (v := (2 : Int32)) (by decide) d_W_law_1355 ?_
  refine r_iadd d_W_law_1356 ?_
  have h2 := kr_ob h
  clear h
  obtain ⟨v245, ev245, h⟩ := h2
  refine r_sload rfl ev245 d_W_law_1357 ?_
  have h2 := kr_ob h
  clear h
  obtain ⟨⟨⟩, eu246, h⟩ := h2
  have h2 := kr_ob2 h
  clear h
  obtain ⟨v248, S247, eS247, h⟩ := h2
  refine r_callV (M1 := m_M_refresh) (κ := 23) (As := [.int v244, .int v245]) eu246 (s_M_refresh eS247) mok_M_refresh rfl (by decide) rfl w1946 w1947 w1948 (by decide) (kr_c8 kr_c0) d_W_law_1358 (kr_k1 ?_) kr_kn
  refine r_istore (i := 6) (lv' := [(6, .int v248), (5, .int v243), (0, va_rf (some 2)), (1, va_rf x1), (2, va_rf x2), (3, va_rf x3), (4, .int x4)]) (by show (6 : Nat) < 7; decide) rfl d_W_law_1361 ?_
  refine r_goto (tgt := 2025) d_W_law_1363 rfl ?_
  exact kr_sub [2, 3, 4, 5, 6] rfl (s_W_law_B2025 hk23 h)
set_option maxRecDepth 20000 in
set_option maxHeartbeats 4000000 in
theorem s_W_law_B1366 {X : Nat → Int32} {L : Nat} {k23 : AS → Option Nat → Option Nat → Option Nat → Int32 → Option (Int32 × AS)} (hk23 : ∀ {S : AS} {x1 : Option Nat} {x2 : Option Nat} {x3 : Option Nat} {x4 : Int32} {r : (Int32 × AS)}, k23 S x1 x2 x3 x4 = some r → kr_AW (m_W_law X L) 15 23 [(0, va_rf (some 2)), (1, va_rf x1), (2, va_rf x2), (3, va_rf x3), (4, .int x4)] [] S (kr_eI r)) {S : AS} {x1 : Option Nat} {x2 : Option Nat} {x3 : Option Nat} {x4 : Int32} {r : (Int32 × AS)} (h : f_W_law_B1366 X L k23 S x1 x2 x3 x4 = some r) : kr_AW (m_W_law X L) 15 1366 [(0, va_rf (some 2)), (1, va_rf x1), (2, va_rf x2), (3, va_rf x3), (4, .int x4)] [] S (kr_eI r) := by
  unfold f_W_law_B1366 at h
  refine r_aload_n (i := 1) (x := x1) 1 rfl d_W_law_1366 ?_
  refine r_aload_n (i := 0) (x := (some 2)) 0 rfl d_W_law_1367 ?_
  refine r_iload (i := 4) (x := x4) 4 rfl d_W_law_1368 ?_
  refine r_iconst (v := (1 : Int32)) (by decide) d_W_law_1370 ?_
  refine r_iadd d_W_law_1371 ?_
  have h2 := kr_ob h
  clear h
  obtain ⟨v249, ev249, h⟩ := h2
  refine r_sload rfl ev249 d_W_law_1372 ?_
  refine r_aload_n (i := 3) (x := x3) 3 rfl d_W_law_1373 ?_
  have h2 := kr_ob2 h
  clear h
  obtain ⟨v251, S250, eS250, h⟩ := h2
  refine r_callSX (M1 := m_W_isGood) (As := [va_rf x1, .int v249, va_rf x3]) (s_W_isGood eS250) mok_W_isGood (by decide) w1202 w1203 (by decide) (kr_c8 kr_c0) d_W_law_1374 (kr_k1 ?_) kr_kn
  refine r_istore (i := 5) (lv' := [(5, .int v251), (0, va_rf (some 2)), (1, va_rf x1), (2, va_rf x2), (3, va_rf x3), (4, .int x4)]) (by show (5 : Nat) < 7; decide) rfl d_W_law_1377 ?_
  refine r_aload_n (i := 2) (x := x2) 3 rfl d_W_law_1379 ?_
  refine r_aload_n (i := 0) (x := (some 2)) 1 rfl d_W_law_1380 ?_
  refine r_iload (i := 4) (x := x4) 5 rfl d_W_law_1381 ?_
  refine r_iconst (v := (1 : Int32)) (by decide) d_W_law_1383 ?_
  refine r_iadd d_W_law_1384 ?_
  have h2 := kr_ob h
  clear h
  obtain ⟨v252, ev252, h⟩ := h2
  refine r_sload rfl ev252 d_W_law_1385 ?_
  have h2 := kr_ob h
  clear h
  obtain ⟨⟨⟩, eu253, h⟩ := h2
  have h2 := kr_ob2 h
  clear h
  obtain ⟨v255, S254, eS254, h⟩ := h2
  refine r_callV (M1 := m_M_isGood) (κ := 23) (As := [.int v252]) eu253 (s_M_isGood eS254) mok_M_isGood rfl (by decide) rfl w1954 w1955 w1956 (by decide) (kr_c8 kr_c0) d_W_law_1386 (kr_k1 ?_) kr_kn
  refine r_istore (i := 6) (lv' := [(6, .int v255), (5, .int v251), (0, va_rf (some 2)), (1, va_rf x1), (2, va_rf x2), (3, va_rf x3), (4, .int x4)]) (by show (6 : Nat) < 7; decide) rfl d_W_law_1389 ?_
  refine r_goto (tgt := 2025) d_W_law_1391 rfl ?_
  exact kr_sub [2, 3, 4, 5, 6] rfl (s_W_law_B2025 hk23 h)
set_option maxRecDepth 20000 in
set_option maxHeartbeats 4000000 in
theorem s_W_law_B1394 {X : Nat → Int32} {L : Nat} {k23 : AS → Option Nat → Option Nat → Option Nat → Int32 → Option (Int32 × AS)} (hk23 : ∀ {S : AS} {x1 : Option Nat} {x2 : Option Nat} {x3 : Option Nat} {x4 : Int32} {r : (Int32 × AS)}, k23 S x1 x2 x3 x4 = some r → kr_AW (m_W_law X L) 15 23 [(0, va_rf (some 2)), (1, va_rf x1), (2, va_rf x2), (3, va_rf x3), (4, .int x4)] [] S (kr_eI r)) {S : AS} {x1 : Option Nat} {x2 : Option Nat} {x3 : Option Nat} {x4 : Int32} {r : (Int32 × AS)} (h : f_W_law_B1394 X L k23 S x1 x2 x3 x4 = some r) : kr_AW (m_W_law X L) 15 1394 [(0, va_rf (some 2)), (1, va_rf x1), (2, va_rf x2), (3, va_rf x3), (4, .int x4)] [] S (kr_eI r) := by
  unfold f_W_law_B1394 at h
  refine r_aload_n (i := 1) (x := x1) 1 rfl d_W_law_1394 ?_
  refine r_aload_n (i := 0) (x := (some 2)) 0 rfl d_W_law_1395 ?_
  refine r_iload (i := 4) (x := x4) 4 rfl d_W_law_1396 ?_
  refine r_iconst (v := (1 : Int32)) (by decide) d_W_law_1398 ?_
  refine r_iadd d_W_law_1399 ?_
  have h2 := kr_ob h
  clear h
  obtain ⟨v256, ev256, h⟩ := h2
  refine r_sload rfl ev256 d_W_law_1400 ?_
  refine r_aload_n (i := 3) (x := x3) 3 rfl d_W_law_1401 ?_
  have h2 := kr_ob2 h
  clear h
  obtain ⟨v258, S257, eS257, h⟩ := h2
  refine r_callSX (M1 := m_W_tokenOf) (As := [va_rf x1, .int v256, va_rf x3]) (s_W_tokenOf eS257) mok_W_tokenOf (by decide) w1209 w1210 (by decide) (kr_c8 kr_c0) d_W_law_1402 (kr_k1 ?_) kr_kn
  refine r_istore (i := 5) (lv' := [(5, .int v258), (0, va_rf (some 2)), (1, va_rf x1), (2, va_rf x2), (3, va_rf x3), (4, .int x4)]) (by show (5 : Nat) < 7; decide) rfl d_W_law_1405 ?_
  refine r_aload_n (i := 2) (x := x2) 3 rfl d_W_law_1407 ?_
  refine r_aload_n (i := 0) (x := (some 2)) 1 rfl d_W_law_1408 ?_
  refine r_iload (i := 4) (x := x4) 5 rfl d_W_law_1409 ?_
  refine r_iconst (v := (1 : Int32)) (by decide) d_W_law_1411 ?_
  refine r_iadd d_W_law_1412 ?_
  have h2 := kr_ob h
  clear h
  obtain ⟨v259, ev259, h⟩ := h2
  refine r_sload rfl ev259 d_W_law_1413 ?_
  have h2 := kr_ob h
  clear h
  obtain ⟨⟨⟩, eu260, h⟩ := h2
  have h2 := kr_ob2 h
  clear h
  obtain ⟨v262, S261, eS261, h⟩ := h2
  refine r_callV (M1 := m_M_tokenOf) (κ := 23) (As := [.int v259]) eu260 (s_M_tokenOf eS261) mok_M_tokenOf rfl (by decide) rfl w1958 w1959 w1960 (by decide) (kr_c8 kr_c0) d_W_law_1414 (kr_k1 ?_) kr_kn
  refine r_istore (i := 6) (lv' := [(6, .int v262), (5, .int v258), (0, va_rf (some 2)), (1, va_rf x1), (2, va_rf x2), (3, va_rf x3), (4, .int x4)]) (by show (6 : Nat) < 7; decide) rfl d_W_law_1417 ?_
  refine r_goto (tgt := 2025) d_W_law_1419 rfl ?_
  exact kr_sub [2, 3, 4, 5, 6] rfl (s_W_law_B2025 hk23 h)
set_option maxRecDepth 20000 in
set_option maxHeartbeats 4000000 in
theorem s_W_law_B1422 {X : Nat → Int32} {L : Nat} {k23 : AS → Option Nat → Option Nat → Option Nat → Int32 → Option (Int32 × AS)} (hk23 : ∀ {S : AS} {x1 : Option Nat} {x2 : Option Nat} {x3 : Option Nat} {x4 : Int32} {r : (Int32 × AS)}, k23 S x1 x2 x3 x4 = some r → kr_AW (m_W_law X L) 15 23 [(0, va_rf (some 2)), (1, va_rf x1), (2, va_rf x2), (3, va_rf x3), (4, .int x4)] [] S (kr_eI r)) {S : AS} {x1 : Option Nat} {x2 : Option Nat} {x3 : Option Nat} {x4 : Int32} {r : (Int32 × AS)} (h : f_W_law_B1422 X L k23 S x1 x2 x3 x4 = some r) : kr_AW (m_W_law X L) 15 1422 [(0, va_rf (some 2)), (1, va_rf x1), (2, va_rf x2), (3, va_rf x3), (4, .int x4)] [] S (kr_eI r) := by
  unfold f_W_law_B1422 at h
  refine r_aload_n (i := 1) (x := x1) 1 rfl d_W_law_1422 ?_
  refine r_aload_n (i := 0) (x := (some 2)) 0 rfl d_W_law_1423 ?_
  refine r_iload (i := 4) (x := x4) 4 rfl d_W_law_1424 ?_
  refine r_iconst (v := (1 : Int32)) (by decide) d_W_law_1426 ?_
  refine r_iadd d_W_law_1427 ?_
  have h2 := kr_ob h
  clear h
  obtain ⟨v263, ev263, h⟩ := h2
  refine r_sload rfl ev263 d_W_law_1428 ?_
  refine r_aload_n (i := 0) (x := (some 2)) 0 rfl d_W_law_1429 ?_
  refine r_iload (i := 4) (x := x4) 4 rfl d_W_law_1430 ?_
  refine r_iconst (v := (2 : Int32)) (by decide) d_W_law_1432 ?_
  refine r_iadd d_W_law_1433 ?_
  have h2 := kr_ob h
  clear h
  obtain ⟨v264, ev264, h⟩ := h2
  refine r_sload rfl ev264 d_W_law_1434 ?_
  refine r_aload_n (i := 0) (x := (some 2)) 0 rfl d_W_law_1435 ?_
  refine r_iload (i := 4) (x := x4) 4 rfl d_W_law_1436 ?_
  refine r_iconst (v := (3 : Int32)) (by decide) d_W_law_1438 ?_
  refine r_iadd d_W_law_1439 ?_
  have h2 := kr_ob h
  clear h
  obtain ⟨v265, ev265, h⟩ := h2
  refine r_sload rfl ev265 d_W_law_1440 ?_
  refine r_aload_n (i := 3) (x := x3) 3 rfl d_W_law_1441 ?_
  have h2 := kr_ob2 h
  clear h
  obtain ⟨v267, S266, eS266, h⟩ := h2
  refine r_callSX (M1 := m_W_exchange) (As := [va_rf x1, .int v263, .int v264, .int v265, va_rf x3]) (s_W_exchange eS266) mok_W_exchange (by decide) w1216 w1217 (by decide) (kr_c8 kr_c0) d_W_law_1442 (kr_k1 ?_) kr_kn
  refine r_istore (i := 5) (lv' := [(5, .int v267), (0, va_rf (some 2)), (1, va_rf x1), (2, va_rf x2), (3, va_rf x3), (4, .int x4)]) (by show (5 : Nat) < 7; decide) rfl d_W_law_1445 ?_
  refine r_aload_n (i := 2) (x := x2) 3 rfl d_W_law_1447 ?_
  refine r_aload_n (i := 0) (x := (some 2)) 1 rfl d_W_law_1448 ?_
  refine r_iload (i := 4) (x := x4) 5 rfl d_W_law_1449 ?_
  refine r_iconst (v := (1 : Int32)) (by decide) d_W_law_1451 ?_
  refine r_iadd d_W_law_1452 ?_
  have h2 := kr_ob h
  clear h
  obtain ⟨v268, ev268, h⟩ := h2
  refine r_sload rfl ev268 d_W_law_1453 ?_
  refine r_aload_n (i := 0) (x := (some 2)) 1 rfl d_W_law_1454 ?_
  refine r_iload (i := 4) (x := x4) 5 rfl d_W_law_1455 ?_
  refine r_iconst (v := (2 : Int32)) (by decide) d_W_law_1457 ?_
  refine r_iadd d_W_law_1458 ?_
  have h2 := kr_ob h
  clear h
  obtain ⟨v269, ev269, h⟩ := h2
  refine r_sload rfl ev269 d_W_law_1459 ?_
  refine r_aload_n (i := 0) (x := (some 2)) 1 rfl d_W_law_1460 ?_
  refine r_iload (i := 4) (x := x4) 5 rfl d_W_law_1461 ?_
  refine r_iconst (v := (3 : Int32)) (by decide) d_W_law_1463 ?_
  refine r_iadd d_W_law_1464 ?_
  have h2 := kr_ob h
  clear h
  obtain ⟨v270, ev270, h⟩ := h2
  refine r_sload rfl ev270 d_W_law_1465 ?_
  have h2 := kr_ob h
  clear h
  obtain ⟨⟨⟩, eu271, h⟩ := h2
  have h2 := kr_ob2 h
  clear h
  obtain ⟨v273, S272, eS272, h⟩ := h2
  refine r_callV (M1 := m_M_exchange) (κ := 23) (As := [.int v268, .int v269, .int v270]) eu271 (s_M_exchange eS272) mok_M_exchange rfl (by decide) rfl w1962 w1963 w1964 (by decide) (kr_c8 kr_c0) d_W_law_1466 (kr_k1 ?_) kr_kn
  refine r_istore (i := 6) (lv' := [(6, .int v273), (5, .int v267), (0, va_rf (some 2)), (1, va_rf x1), (2, va_rf x2), (3, va_rf x3), (4, .int x4)]) (by show (6 : Nat) < 7; decide) rfl d_W_law_1469 ?_
  refine r_goto (tgt := 2025) d_W_law_1471 rfl ?_
  exact kr_sub [2, 3, 4, 5, 6] rfl (s_W_law_B2025 hk23 h)
set_option maxRecDepth 20000 in
set_option maxHeartbeats 4000000 in
theorem s_W_law_B1474 {X : Nat → Int32} {L : Nat} {k23 : AS → Option Nat → Option Nat → Option Nat → Int32 → Option (Int32 × AS)} (hk23 : ∀ {S : AS} {x1 : Option Nat} {x2 : Option Nat} {x3 : Option Nat} {x4 : Int32} {r : (Int32 × AS)}, k23 S x1 x2 x3 x4 = some r → kr_AW (m_W_law X L) 15 23 [(0, va_rf (some 2)), (1, va_rf x1), (2, va_rf x2), (3, va_rf x3), (4, .int x4)] [] S (kr_eI r)) {S : AS} {x1 : Option Nat} {x2 : Option Nat} {x3 : Option Nat} {x4 : Int32} {r : (Int32 × AS)} (h : f_W_law_B1474 X L k23 S x1 x2 x3 x4 = some r) : kr_AW (m_W_law X L) 15 1474 [(0, va_rf (some 2)), (1, va_rf x1), (2, va_rf x2), (3, va_rf x3), (4, .int x4)] [] S (kr_eI r) := by
  unfold f_W_law_B1474 at h
  refine r_aload_n (i := 1) (x := x1) 1 rfl d_W_law_1474 ?_
  refine r_aload_n (i := 0) (x := (some 2)) 0 rfl d_W_law_1475 ?_
  refine r_iload (i := 4) (x := x4) 4 rfl d_W_law_1476 ?_
  refine r_iconst (v := (1 : Int32)) (by decide) d_W_law_1478 ?_
  refine r_iadd d_W_law_1479 ?_
  have h2 := kr_ob h
  clear h
  obtain ⟨v274, ev274, h⟩ := h2
  refine r_sload rfl ev274 d_W_law_1480 ?_
  refine r_aload_n (i := 3) (x := x3) 3 rfl d_W_law_1481 ?_
  have h2 := kr_ob2 h
  clear h
  obtain ⟨v276, S275, eS275, h⟩ := h2
  refine r_callSX (M1 := m_W_token) (As := [va_rf x1, .int v274, va_rf x3]) (s_W_token eS275) mok_W_token (by decide) w1227 w1228 (by decide) (kr_c8 kr_c0) d_W_law_1482 (kr_k1 ?_) kr_kn
  refine r_istore (i := 5) (lv' := [(5, .int v276), (0, va_rf (some 2)), (1, va_rf x1), (2, va_rf x2), (3, va_rf x3), (4, .int x4)]) (by show (5 : Nat) < 7; decide) rfl d_W_law_1485 ?_
  refine r_aload_n (i := 2) (x := x2) 3 rfl d_W_law_1487 ?_
  refine r_aload_n (i := 0) (x := (some 2)) 1 rfl d_W_law_1488 ?_
  refine r_iload (i := 4) (x := x4) 5 rfl d_W_law_1489 ?_
  refine r_iconst (v := (1 : Int32)) (by decide) d_W_law_1491 ?_
  refine r_iadd d_W_law_1492 ?_
  have h2 := kr_ob h
  clear h
  obtain ⟨v277, ev277, h⟩ := h2
  refine r_sload rfl ev277 d_W_law_1493 ?_
  have h2 := kr_ob h
  clear h
  obtain ⟨⟨⟩, eu278, h⟩ := h2
  have h2 := kr_ob2 h
  clear h
  obtain ⟨v280, S279, eS279, h⟩ := h2
  refine r_callV (M1 := m_M_token) (κ := 23) (As := [.int v277]) eu278 (s_M_token eS279) mok_M_token rfl (by decide) rfl w1970 w1971 w1972 (by decide) (kr_c8 kr_c0) d_W_law_1494 (kr_k1 ?_) kr_kn
  refine r_istore (i := 6) (lv' := [(6, .int v280), (5, .int v276), (0, va_rf (some 2)), (1, va_rf x1), (2, va_rf x2), (3, va_rf x3), (4, .int x4)]) (by show (6 : Nat) < 7; decide) rfl d_W_law_1497 ?_
  refine r_goto (tgt := 2025) d_W_law_1499 rfl ?_
  exact kr_sub [2, 3, 4, 5, 6] rfl (s_W_law_B2025 hk23 h)
set_option maxRecDepth 20000 in
set_option maxHeartbeats 4000000 in
theorem s_W_law_B1502 {X : Nat → Int32} {L : Nat} {k23 : AS → Option Nat → Option Nat → Option Nat → Int32 → Option (Int32 × AS)} (hk23 : ∀ {S : AS} {x1 : Option Nat} {x2 : Option Nat} {x3 : Option Nat} {x4 : Int32} {r : (Int32 × AS)}, k23 S x1 x2 x3 x4 = some r → kr_AW (m_W_law X L) 15 23 [(0, va_rf (some 2)), (1, va_rf x1), (2, va_rf x2), (3, va_rf x3), (4, .int x4)] [] S (kr_eI r)) {S : AS} {x1 : Option Nat} {x2 : Option Nat} {x3 : Option Nat} {x4 : Int32} {r : (Int32 × AS)} (h : f_W_law_B1502 X L k23 S x1 x2 x3 x4 = some r) : kr_AW (m_W_law X L) 15 1502 [(0, va_rf (some 2)), (1, va_rf x1), (2, va_rf x2), (3, va_rf x3), (4, .int x4)] [] S (kr_eI r) := by
  unfold f_W_law_B1502 at h
  refine r_aload_n (i := 1) (x := x1) 1 rfl d_W_law_1502 ?_
  refine r_aload_n (i := 3) (x := x3) 3 rfl d_W_law_1503 ?_
  have h2 := kr_ob2 h
  clear h
  obtain ⟨v282, S281, eS281, h⟩ := h2
  refine r_callSX (M1 := m_W_turn) (As := [va_rf x1, va_rf x3]) (s_W_turn eS281) mok_W_turn (by decide) w1234 w1235 (by decide) (kr_c8 kr_c0) d_W_law_1504 (kr_k1 ?_) kr_kn
  refine r_istore (i := 5) (lv' := [(5, .int v282), (0, va_rf (some 2)), (1, va_rf x1), (2, va_rf x2), (3, va_rf x3), (4, .int x4)]) (by show (5 : Nat) < 7; decide) rfl d_W_law_1507 ?_
  refine r_aload_n (i := 2) (x := x2) 3 rfl d_W_law_1509 ?_
  have h2 := kr_ob h
  clear h
  obtain ⟨⟨⟩, eu283, h⟩ := h2
  have h2 := kr_ob2 h
  clear h
  obtain ⟨v285, S284, eS284, h⟩ := h2
  refine r_callV (M1 := m_M_turn) (κ := 23) (As := []) eu283 (s_M_turn eS284) mok_M_turn rfl (by decide) rfl w1974 w1975 w1976 (by decide) (kr_c8 kr_c0) d_W_law_1510 (kr_k1 ?_) kr_kn
  refine r_istore (i := 6) (lv' := [(6, .int v285), (5, .int v282), (0, va_rf (some 2)), (1, va_rf x1), (2, va_rf x2), (3, va_rf x3), (4, .int x4)]) (by show (6 : Nat) < 7; decide) rfl d_W_law_1513 ?_
  refine r_goto (tgt := 2025) d_W_law_1515 rfl ?_
  exact kr_sub [2, 3, 4, 5, 6] rfl (s_W_law_B2025 hk23 h)
set_option maxRecDepth 20000 in
set_option maxHeartbeats 4000000 in
theorem s_W_law_B1518 {X : Nat → Int32} {L : Nat} {k23 : AS → Option Nat → Option Nat → Option Nat → Int32 → Option (Int32 × AS)} (hk23 : ∀ {S : AS} {x1 : Option Nat} {x2 : Option Nat} {x3 : Option Nat} {x4 : Int32} {r : (Int32 × AS)}, k23 S x1 x2 x3 x4 = some r → kr_AW (m_W_law X L) 15 23 [(0, va_rf (some 2)), (1, va_rf x1), (2, va_rf x2), (3, va_rf x3), (4, .int x4)] [] S (kr_eI r)) {S : AS} {x1 : Option Nat} {x2 : Option Nat} {x3 : Option Nat} {x4 : Int32} {r : (Int32 × AS)} (h : f_W_law_B1518 X L k23 S x1 x2 x3 x4 = some r) : kr_AW (m_W_law X L) 15 1518 [(0, va_rf (some 2)), (1, va_rf x1), (2, va_rf x2), (3, va_rf x3), (4, .int x4)] [] S (kr_eI r) := by
  unfold f_W_law_B1518 at h
  refine r_aload_n (i := 1) (x := x1) 1 rfl d_W_law_1518 ?_
  refine r_aload_n (i := 3) (x := x3) 3 rfl d_W_law_1519 ?_
  have h2 := kr_ob2 h
  clear h
  obtain ⟨v287, S286, eS286, h⟩ := h2
  refine r_callSX (M1 := m_W_emergency) (As := [va_rf x1, va_rf x3]) (s_W_emergency eS286) mok_W_emergency (by decide) w1249 w1250 (by decide) (kr_c8 kr_c0) d_W_law_1520 (kr_k1 ?_) kr_kn
  refine r_istore (i := 5) (lv' := [(5, .int v287), (0, va_rf (some 2)), (1, va_rf x1), (2, va_rf x2), (3, va_rf x3), (4, .int x4)]) (by show (5 : Nat) < 7; decide) rfl d_W_law_1523 ?_
  refine r_aload_n (i := 2) (x := x2) 3 rfl d_W_law_1525 ?_
  have h2 := kr_ob h
  clear h
  obtain ⟨⟨⟩, eu288, h⟩ := h2
  have h2 := kr_ob2 h
  clear h
  obtain ⟨v290, S289, eS289, h⟩ := h2
  refine r_callV (M1 := m_M_emergency) (κ := 23) (As := []) eu288 (s_M_emergency eS289) mok_M_emergency rfl (by decide) rfl w1978 w1979 w1980 (by decide) (kr_c8 kr_c0) d_W_law_1526 (kr_k1 ?_) kr_kn
  refine r_istore (i := 6) (lv' := [(6, .int v290), (5, .int v287), (0, va_rf (some 2)), (1, va_rf x1), (2, va_rf x2), (3, va_rf x3), (4, .int x4)]) (by show (6 : Nat) < 7; decide) rfl d_W_law_1529 ?_
  refine r_goto (tgt := 2025) d_W_law_1531 rfl ?_
  exact kr_sub [2, 3, 4, 5, 6] rfl (s_W_law_B2025 hk23 h)
set_option maxRecDepth 20000 in
set_option maxHeartbeats 4000000 in
theorem s_W_law_B1534 {X : Nat → Int32} {L : Nat} {k23 : AS → Option Nat → Option Nat → Option Nat → Int32 → Option (Int32 × AS)} (hk23 : ∀ {S : AS} {x1 : Option Nat} {x2 : Option Nat} {x3 : Option Nat} {x4 : Int32} {r : (Int32 × AS)}, k23 S x1 x2 x3 x4 = some r → kr_AW (m_W_law X L) 15 23 [(0, va_rf (some 2)), (1, va_rf x1), (2, va_rf x2), (3, va_rf x3), (4, .int x4)] [] S (kr_eI r)) {S : AS} {x1 : Option Nat} {x2 : Option Nat} {x3 : Option Nat} {x4 : Int32} {r : (Int32 × AS)} (h : f_W_law_B1534 X L k23 S x1 x2 x3 x4 = some r) : kr_AW (m_W_law X L) 15 1534 [(0, va_rf (some 2)), (1, va_rf x1), (2, va_rf x2), (3, va_rf x3), (4, .int x4)] [] S (kr_eI r) := by
  unfold f_W_law_B1534 at h
  refine r_aload_n (i := 1) (x := x1) 1 rfl d_W_law_1534 ?_
  have h2 := kr_ob h
  clear h
  obtain ⟨⟨⟩, eu291, h⟩ := h2
  have h2 := kr_ob2 h
  clear h
  obtain ⟨v293, S292, eS292, h⟩ := h2
  refine r_callV (M1 := m_K_signing) (κ := 22) (As := []) eu291 (s_K_signing eS292) mok_K_signing rfl (by decide) rfl w352 w353 w354 (by decide) (kr_c8 kr_c0) d_W_law_1535 (kr_k1 ?_) kr_kn
  refine r_pop rfl d_W_law_1538 ?_
  refine r_aload_n (i := 2) (x := x2) 2 rfl d_W_law_1539 ?_
  have h2 := kr_ob h
  clear h
  obtain ⟨⟨⟩, eu294, h⟩ := h2
  have h2 := kr_ob2 h
  clear h
  obtain ⟨v296, S295, eS295, h⟩ := h2
  refine r_callV (M1 := m_M_signing) (κ := 23) (As := []) eu294 (s_M_signing eS295) mok_M_signing rfl (by decide) rfl w1982 w1983 w1984 (by decide) (kr_c8 kr_c0) d_W_law_1540 (kr_k1 ?_) kr_kn
  refine r_pop rfl d_W_law_1543 ?_
  refine r_goto (tgt := 2025) d_W_law_1544 rfl ?_
  exact kr_sub [0, 1, 2, 3, 4] rfl (s_W_law_B2025 hk23 h)
set_option maxRecDepth 20000 in
set_option maxHeartbeats 4000000 in
theorem s_W_law_B1547 {X : Nat → Int32} {L : Nat} {k23 : AS → Option Nat → Option Nat → Option Nat → Int32 → Option (Int32 × AS)} (hk23 : ∀ {S : AS} {x1 : Option Nat} {x2 : Option Nat} {x3 : Option Nat} {x4 : Int32} {r : (Int32 × AS)}, k23 S x1 x2 x3 x4 = some r → kr_AW (m_W_law X L) 15 23 [(0, va_rf (some 2)), (1, va_rf x1), (2, va_rf x2), (3, va_rf x3), (4, .int x4)] [] S (kr_eI r)) {S : AS} {x1 : Option Nat} {x2 : Option Nat} {x3 : Option Nat} {x4 : Int32} {r : (Int32 × AS)} (h : f_W_law_B1547 X L k23 S x1 x2 x3 x4 = some r) : kr_AW (m_W_law X L) 15 1547 [(0, va_rf (some 2)), (1, va_rf x1), (2, va_rf x2), (3, va_rf x3), (4, .int x4)] [] S (kr_eI r) := by
  unfold f_W_law_B1547 at h
  refine r_aload_n (i := 1) (x := x1) 1 rfl d_W_law_1547 ?_
  refine r_aload_n (i := 0) (x := (some 2)) 0 rfl d_W_law_1548 ?_
  refine r_iload (i := 4) (x := x4) 4 rfl d_W_law_1549 ?_
  refine r_iconst (v := (1 : Int32)) (by decide) d_W_law_1551 ?_
  refine r_iadd d_W_law_1552 ?_
  have h2 := kr_ob h
  clear h
  obtain ⟨v297, ev297, h⟩ := h2
  refine r_sload rfl ev297 d_W_law_1553 ?_
  refine r_aload_n (i := 3) (x := x3) 3 rfl d_W_law_1554 ?_
  have h2 := kr_ob2 h
  clear h
  obtain ⟨v299, S298, eS298, h⟩ := h2
  refine r_callSX (M1 := m_W_isPublished) (As := [va_rf x1, .int v297, va_rf x3]) (s_W_isPublished eS298) mok_W_isPublished (by decide) w1260 w1261 (by decide) (kr_c8 kr_c0) d_W_law_1555 (kr_k1 ?_) kr_kn
  refine r_istore (i := 5) (lv' := [(5, .int v299), (0, va_rf (some 2)), (1, va_rf x1), (2, va_rf x2), (3, va_rf x3), (4, .int x4)]) (by show (5 : Nat) < 7; decide) rfl d_W_law_1558 ?_
  refine r_aload_n (i := 2) (x := x2) 3 rfl d_W_law_1560 ?_
  refine r_aload_n (i := 0) (x := (some 2)) 1 rfl d_W_law_1561 ?_
  refine r_iload (i := 4) (x := x4) 5 rfl d_W_law_1562 ?_
  refine r_iconst (v := (1 : Int32)) (by decide) d_W_law_1564 ?_
  refine r_iadd d_W_law_1565 ?_
  have h2 := kr_ob h
  clear h
  obtain ⟨v300, ev300, h⟩ := h2
  refine r_sload rfl ev300 d_W_law_1566 ?_
  have h2 := kr_ob h
  clear h
  obtain ⟨⟨⟩, eu301, h⟩ := h2
  have h2 := kr_ob2 h
  clear h
  obtain ⟨v303, S302, eS302, h⟩ := h2
  refine r_callV (M1 := m_M_isPublished) (κ := 23) (As := [.int v300]) eu301 (s_M_isPublished eS302) mok_M_isPublished rfl (by decide) rfl w1986 w1987 w1988 (by decide) (kr_c8 kr_c0) d_W_law_1567 (kr_k1 ?_) kr_kn
  refine r_istore (i := 6) (lv' := [(6, .int v303), (5, .int v299), (0, va_rf (some 2)), (1, va_rf x1), (2, va_rf x2), (3, va_rf x3), (4, .int x4)]) (by show (6 : Nat) < 7; decide) rfl d_W_law_1570 ?_
  refine r_goto (tgt := 2025) d_W_law_1572 rfl ?_
  exact kr_sub [2, 3, 4, 5, 6] rfl (s_W_law_B2025 hk23 h)
set_option maxRecDepth 20000 in
set_option maxHeartbeats 4000000 in
theorem s_W_law_B1575 {X : Nat → Int32} {L : Nat} {k23 : AS → Option Nat → Option Nat → Option Nat → Int32 → Option (Int32 × AS)} (hk23 : ∀ {S : AS} {x1 : Option Nat} {x2 : Option Nat} {x3 : Option Nat} {x4 : Int32} {r : (Int32 × AS)}, k23 S x1 x2 x3 x4 = some r → kr_AW (m_W_law X L) 15 23 [(0, va_rf (some 2)), (1, va_rf x1), (2, va_rf x2), (3, va_rf x3), (4, .int x4)] [] S (kr_eI r)) {S : AS} {x1 : Option Nat} {x2 : Option Nat} {x3 : Option Nat} {x4 : Int32} {r : (Int32 × AS)} (h : f_W_law_B1575 X L k23 S x1 x2 x3 x4 = some r) : kr_AW (m_W_law X L) 15 1575 [(0, va_rf (some 2)), (1, va_rf x1), (2, va_rf x2), (3, va_rf x3), (4, .int x4)] [] S (kr_eI r) := by
  unfold f_W_law_B1575 at h
  refine r_aload_n (i := 1) (x := x1) 1 rfl d_W_law_1575 ?_
  refine r_aload_n (i := 0) (x := (some 2)) 0 rfl d_W_law_1576 ?_
  refine r_iload (i := 4) (x := x4) 4 rfl d_W_law_1577 ?_
  refine r_iconst (v := (1 : Int32)) (by decide) d_W_law_1579 ?_
  refine r_iadd d_W_law_1580 ?_
  have h2 := kr_ob h
  clear h
  obtain ⟨v304, ev304, h⟩ := h2
  refine r_sload rfl ev304 d_W_law_1581 ?_
  refine r_aload_n (i := 3) (x := x3) 3 rfl d_W_law_1582 ?_
  have h2 := kr_ob2 h
  clear h
  obtain ⟨v306, S305, eS305, h⟩ := h2
  refine r_callSX (M1 := m_W_line) (As := [va_rf x1, .int v304, va_rf x3]) (s_W_line eS305) mok_W_line (by decide) w1267 w1268 (by decide) (kr_c8 kr_c0) d_W_law_1583 (kr_k1 ?_) kr_kn
  refine r_istore (i := 5) (lv' := [(5, .int v306), (0, va_rf (some 2)), (1, va_rf x1), (2, va_rf x2), (3, va_rf x3), (4, .int x4)]) (by show (5 : Nat) < 7; decide) rfl d_W_law_1586 ?_
  refine r_aload_n (i := 2) (x := x2) 3 rfl d_W_law_1588 ?_
  refine r_aload_n (i := 0) (x := (some 2)) 1 rfl d_W_law_1589 ?_
  refine r_iload (i := 4) (x := x4) 5 rfl d_W_law_1590 ?_
  refine r_iconst (v := (1 : Int32)) (by decide) d_W_law_1592 ?_
  refine r_iadd d_W_law_1593 ?_
  have h2 := kr_ob h
  clear h
  obtain ⟨v307, ev307, h⟩ := h2
  refine r_sload rfl ev307 d_W_law_1594 ?_
  have h2 := kr_ob h
  clear h
  obtain ⟨⟨⟩, eu308, h⟩ := h2
  have h2 := kr_ob2 h
  clear h
  obtain ⟨v310, S309, eS309, h⟩ := h2
  refine r_callV (M1 := m_M_line) (κ := 23) (As := [.int v307]) eu308 (s_M_line eS309) mok_M_line rfl (by decide) rfl w1994 w1995 w1996 (by decide) (kr_c8 kr_c0) d_W_law_1595 (kr_k1 ?_) kr_kn
  refine r_istore (i := 6) (lv' := [(6, .int v310), (5, .int v306), (0, va_rf (some 2)), (1, va_rf x1), (2, va_rf x2), (3, va_rf x3), (4, .int x4)]) (by show (6 : Nat) < 7; decide) rfl d_W_law_1598 ?_
  refine r_goto (tgt := 2025) d_W_law_1600 rfl ?_
  exact kr_sub [2, 3, 4, 5, 6] rfl (s_W_law_B2025 hk23 h)
set_option maxRecDepth 20000 in
set_option maxHeartbeats 4000000 in
theorem s_W_law_B1603 {X : Nat → Int32} {L : Nat} {k23 : AS → Option Nat → Option Nat → Option Nat → Int32 → Option (Int32 × AS)} (hk23 : ∀ {S : AS} {x1 : Option Nat} {x2 : Option Nat} {x3 : Option Nat} {x4 : Int32} {r : (Int32 × AS)}, k23 S x1 x2 x3 x4 = some r → kr_AW (m_W_law X L) 15 23 [(0, va_rf (some 2)), (1, va_rf x1), (2, va_rf x2), (3, va_rf x3), (4, .int x4)] [] S (kr_eI r)) {S : AS} {x1 : Option Nat} {x2 : Option Nat} {x3 : Option Nat} {x4 : Int32} {r : (Int32 × AS)} (h : f_W_law_B1603 X L k23 S x1 x2 x3 x4 = some r) : kr_AW (m_W_law X L) 15 1603 [(0, va_rf (some 2)), (1, va_rf x1), (2, va_rf x2), (3, va_rf x3), (4, .int x4)] [] S (kr_eI r) := by
  unfold f_W_law_B1603 at h
  refine r_aload_n (i := 1) (x := x1) 1 rfl d_W_law_1603 ?_
  refine r_aload_n (i := 0) (x := (some 2)) 0 rfl d_W_law_1604 ?_
  refine r_iload (i := 4) (x := x4) 4 rfl d_W_law_1605 ?_
  refine r_iconst (v := (1 : Int32)) (by decide) d_W_law_1607 ?_
  refine r_iadd d_W_law_1608 ?_
  have h2 := kr_ob h
  clear h
  obtain ⟨v311, ev311, h⟩ := h2
  refine r_sload rfl ev311 d_W_law_1609 ?_
  refine r_aload_n (i := 0) (x := (some 2)) 0 rfl d_W_law_1610 ?_
  refine r_iload (i := 4) (x := x4) 4 rfl d_W_law_1611 ?_
  refine r_iconst (v := (2 : Int32)) (by decide) d_W_law_1613 ?_
  refine r_iadd d_W_law_1614 ?_
  have h2 := kr_ob h
  clear h
  obtain ⟨v312, ev312, h⟩ := h2
  refine r_sload rfl ev312 d_W_law_1615 ?_
  refine r_aload_n (i := 0) (x := (some 2)) 0 rfl d_W_law_1616 ?_
  refine r_iload (i := 4) (x := x4) 4 rfl d_W_law_1617 ?_
  refine r_iconst (v := (3 : Int32)) (by decide) d_W_law_1619 ?_
  refine r_iadd d_W_law_1620 ?_
  have h2 := kr_ob h
  clear h
  obtain ⟨v313, ev313, h⟩ := h2
  refine r_sload rfl ev313 d_W_law_1621 ?_
  refine r_aload_n (i := 3) (x := x3) 3 rfl d_W_law_1622 ?_
  have h2 := kr_ob2 h
  clear h
  obtain ⟨v315, S314, eS314, h⟩ := h2
  refine r_callSX (M1 := m_W_check) (As := [va_rf x1, .int v311, .int v312, .int v313, va_rf x3]) (s_W_check eS314) mok_W_check (by decide) w1278 w1279 (by decide) (kr_c8 kr_c0) d_W_law_1623 (kr_k1 ?_) kr_kn
  refine r_istore (i := 5) (lv' := [(5, .int v315), (0, va_rf (some 2)), (1, va_rf x1), (2, va_rf x2), (3, va_rf x3), (4, .int x4)]) (by show (5 : Nat) < 7; decide) rfl d_W_law_1626 ?_
  refine r_aload_n (i := 2) (x := x2) 3 rfl d_W_law_1628 ?_
  refine r_aload_n (i := 0) (x := (some 2)) 1 rfl d_W_law_1629 ?_
  refine r_iload (i := 4) (x := x4) 5 rfl d_W_law_1630 ?_
  refine r_iconst (v := (1 : Int32)) (by decide) d_W_law_1632 ?_
  refine r_iadd d_W_law_1633 ?_
  have h2 := kr_ob h
  clear h
  obtain ⟨v316, ev316, h⟩ := h2
  refine r_sload rfl ev316 d_W_law_1634 ?_
  refine r_aload_n (i := 0) (x := (some 2)) 1 rfl d_W_law_1635 ?_
  refine r_iload (i := 4) (x := x4) 5 rfl d_W_law_1636 ?_
  refine r_iconst (v := (2 : Int32)) (by decide) d_W_law_1638 ?_
  refine r_iadd d_W_law_1639 ?_
  have h2 := kr_ob h
  clear h
  obtain ⟨v317, ev317, h⟩ := h2
  refine r_sload rfl ev317 d_W_law_1640 ?_
  refine r_aload_n (i := 0) (x := (some 2)) 1 rfl d_W_law_1641 ?_
  refine r_iload (i := 4) (x := x4) 5 rfl d_W_law_1642 ?_
  refine r_iconst (v := (3 : Int32)) (by decide) d_W_law_1644 ?_
  refine r_iadd d_W_law_1645 ?_
  have h2 := kr_ob h
  clear h
  obtain ⟨v318, ev318, h⟩ := h2
  refine r_sload rfl ev318 d_W_law_1646 ?_
  have h2 := kr_ob h
  clear h
  obtain ⟨⟨⟩, eu319, h⟩ := h2
  have h2 := kr_ob2 h
  clear h
  obtain ⟨v321, S320, eS320, h⟩ := h2
  refine r_callV (M1 := m_M_check) (κ := 23) (As := [.int v316, .int v317, .int v318]) eu319 (s_M_check eS320) mok_M_check rfl (by decide) rfl w1998 w1999 w2000 (by decide) (kr_c8 kr_c0) d_W_law_1647 (kr_k1 ?_) kr_kn
  refine r_istore (i := 6) (lv' := [(6, .int v321), (5, .int v315), (0, va_rf (some 2)), (1, va_rf x1), (2, va_rf x2), (3, va_rf x3), (4, .int x4)]) (by show (6 : Nat) < 7; decide) rfl d_W_law_1650 ?_
  refine r_goto (tgt := 2025) d_W_law_1652 rfl ?_
  exact kr_sub [2, 3, 4, 5, 6] rfl (s_W_law_B2025 hk23 h)
set_option maxRecDepth 20000 in
set_option maxHeartbeats 4000000 in
theorem s_W_law_B1655 {X : Nat → Int32} {L : Nat} {k23 : AS → Option Nat → Option Nat → Option Nat → Int32 → Option (Int32 × AS)} (hk23 : ∀ {S : AS} {x1 : Option Nat} {x2 : Option Nat} {x3 : Option Nat} {x4 : Int32} {r : (Int32 × AS)}, k23 S x1 x2 x3 x4 = some r → kr_AW (m_W_law X L) 15 23 [(0, va_rf (some 2)), (1, va_rf x1), (2, va_rf x2), (3, va_rf x3), (4, .int x4)] [] S (kr_eI r)) {S : AS} {x1 : Option Nat} {x2 : Option Nat} {x3 : Option Nat} {x4 : Int32} {r : (Int32 × AS)} (h : f_W_law_B1655 X L k23 S x1 x2 x3 x4 = some r) : kr_AW (m_W_law X L) 15 1655 [(0, va_rf (some 2)), (1, va_rf x1), (2, va_rf x2), (3, va_rf x3), (4, .int x4)] [] S (kr_eI r) := by
  unfold f_W_law_B1655 at h
  refine r_aload_n (i := 1) (x := x1) 1 rfl d_W_law_1655 ?_
  refine r_aload_n (i := 0) (x := (some 2)) 0 rfl d_W_law_1656 ?_
  refine r_iload (i := 4) (x := x4) 4 rfl d_W_law_1657 ?_
  refine r_iconst (v := (1 : Int32)) (by decide) d_W_law_1659 ?_
  refine r_iadd d_W_law_1660 ?_
  have h2 := kr_ob h
  clear h
  obtain ⟨v322, ev322, h⟩ := h2
  refine r_sload rfl ev322 d_W_law_1661 ?_
  refine r_aload_n (i := 3) (x := x3) 3 rfl d_W_law_1662 ?_
  have h2 := kr_ob2 h
  clear h
  obtain ⟨v324, S323, eS323, h⟩ := h2
  refine r_callSX (M1 := m_W_lag) (As := [va_rf x1, .int v322, va_rf x3]) (s_W_lag eS323) mok_W_lag (by decide) w1289 w1290 (by decide) (kr_c8 kr_c0) d_W_law_1663 (kr_k1 ?_) kr_kn
  refine r_istore (i := 5) (lv' := [(5, .int v324), (0, va_rf (some 2)), (1, va_rf x1), (2, va_rf x2), (3, va_rf x3), (4, .int x4)]) (by show (5 : Nat) < 7; decide) rfl d_W_law_1666 ?_
  refine r_aload_n (i := 2) (x := x2) 3 rfl d_W_law_1668 ?_
  refine r_aload_n (i := 0) (x := (some 2)) 1 rfl d_W_law_1669 ?_
  refine r_iload (i := 4) (x := x4) 5 rfl d_W_law_1670 ?_
  refine r_iconst (v := (1 : Int32)) (by decide) d_W_law_1672 ?_
  refine r_iadd d_W_law_1673 ?_
  have h2 := kr_ob h
  clear h
  obtain ⟨v325, ev325, h⟩ := h2
  refine r_sload rfl ev325 d_W_law_1674 ?_
  have h2 := kr_ob h
  clear h
  obtain ⟨⟨⟩, eu326, h⟩ := h2
  have h2 := kr_ob2 h
  clear h
  obtain ⟨v328, S327, eS327, h⟩ := h2
  refine r_callV (M1 := m_M_lag) (κ := 23) (As := [.int v325]) eu326 (s_M_lag eS327) mok_M_lag rfl (by decide) rfl w2002 w2003 w2004 (by decide) (kr_c8 kr_c0) d_W_law_1675 (kr_k1 ?_) kr_kn
  refine r_istore (i := 6) (lv' := [(6, .int v328), (5, .int v324), (0, va_rf (some 2)), (1, va_rf x1), (2, va_rf x2), (3, va_rf x3), (4, .int x4)]) (by show (6 : Nat) < 7; decide) rfl d_W_law_1678 ?_
  refine r_goto (tgt := 2025) d_W_law_1680 rfl ?_
  exact kr_sub [2, 3, 4, 5, 6] rfl (s_W_law_B2025 hk23 h)
set_option maxRecDepth 20000 in
set_option maxHeartbeats 4000000 in
theorem s_W_law_B1683 {X : Nat → Int32} {L : Nat} {k23 : AS → Option Nat → Option Nat → Option Nat → Int32 → Option (Int32 × AS)} (hk23 : ∀ {S : AS} {x1 : Option Nat} {x2 : Option Nat} {x3 : Option Nat} {x4 : Int32} {r : (Int32 × AS)}, k23 S x1 x2 x3 x4 = some r → kr_AW (m_W_law X L) 15 23 [(0, va_rf (some 2)), (1, va_rf x1), (2, va_rf x2), (3, va_rf x3), (4, .int x4)] [] S (kr_eI r)) {S : AS} {x1 : Option Nat} {x2 : Option Nat} {x3 : Option Nat} {x4 : Int32} {r : (Int32 × AS)} (h : f_W_law_B1683 X L k23 S x1 x2 x3 x4 = some r) : kr_AW (m_W_law X L) 15 1683 [(0, va_rf (some 2)), (1, va_rf x1), (2, va_rf x2), (3, va_rf x3), (4, .int x4)] [] S (kr_eI r) := by
  unfold f_W_law_B1683 at h
  refine r_aload_n (i := 1) (x := x1) 1 rfl d_W_law_1683 ?_
  refine r_aload_n (i := 0) (x := (some 2)) 0 rfl d_W_law_1684 ?_
  refine r_iload (i := 4) (x := x4) 4 rfl d_W_law_1685 ?_
  refine r_iconst (v := (1 : Int32)) (by decide) d_W_law_1687 ?_
  refine r_iadd d_W_law_1688 ?_
  have h2 := kr_ob h
  clear h
  obtain ⟨v329, ev329, h⟩ := h2
  refine r_sload rfl ev329 d_W_law_1689 ?_
  refine r_aload_n (i := 3) (x := x3) 3 rfl d_W_law_1690 ?_
  have h2 := kr_ob2 h
  clear h
  obtain ⟨v331, S330, eS330, h⟩ := h2
  refine r_callSX (M1 := m_W_recover) (As := [va_rf x1, .int v329, va_rf x3]) (s_W_recover eS330) mok_W_recover (by decide) w1297 w1298 (by decide) (kr_c8 kr_c0) d_W_law_1691 (kr_k1 ?_) kr_kn
  refine r_istore (i := 5) (lv' := [(5, .int v331), (0, va_rf (some 2)), (1, va_rf x1), (2, va_rf x2), (3, va_rf x3), (4, .int x4)]) (by show (5 : Nat) < 7; decide) rfl d_W_law_1694 ?_
  refine r_aload_n (i := 2) (x := x2) 3 rfl d_W_law_1696 ?_
  refine r_aload_n (i := 0) (x := (some 2)) 1 rfl d_W_law_1697 ?_
  refine r_iload (i := 4) (x := x4) 5 rfl d_W_law_1698 ?_
  refine r_iconst (v := (1 : Int32)) (by decide) d_W_law_1700 ?_
  refine r_iadd d_W_law_1701 ?_
  have h2 := kr_ob h
  clear h
  obtain ⟨v332, ev332, h⟩ := h2
  refine r_sload rfl ev332 d_W_law_1702 ?_
  have h2 := kr_ob h
  clear h
  obtain ⟨⟨⟩, eu333, h⟩ := h2
  have h2 := kr_ob2 h
  clear h
  obtain ⟨v335, S334, eS334, h⟩ := h2
  refine r_callV (M1 := m_M_recover) (κ := 23) (As := [.int v332]) eu333 (s_M_recover eS334) mok_M_recover rfl (by decide) rfl w2006 w2007 w2008 (by decide) (kr_c8 kr_c0) d_W_law_1703 (kr_k1 ?_) kr_kn
  refine r_istore (i := 6) (lv' := [(6, .int v335), (5, .int v331), (0, va_rf (some 2)), (1, va_rf x1), (2, va_rf x2), (3, va_rf x3), (4, .int x4)]) (by show (6 : Nat) < 7; decide) rfl d_W_law_1706 ?_
  refine r_goto (tgt := 2025) d_W_law_1708 rfl ?_
  exact kr_sub [2, 3, 4, 5, 6] rfl (s_W_law_B2025 hk23 h)
set_option maxRecDepth 20000 in
set_option maxHeartbeats 4000000 in
theorem s_W_law_B1711 {X : Nat → Int32} {L : Nat} {k23 : AS → Option Nat → Option Nat → Option Nat → Int32 → Option (Int32 × AS)} (hk23 : ∀ {S : AS} {x1 : Option Nat} {x2 : Option Nat} {x3 : Option Nat} {x4 : Int32} {r : (Int32 × AS)}, k23 S x1 x2 x3 x4 = some r → kr_AW (m_W_law X L) 15 23 [(0, va_rf (some 2)), (1, va_rf x1), (2, va_rf x2), (3, va_rf x3), (4, .int x4)] [] S (kr_eI r)) {S : AS} {x1 : Option Nat} {x2 : Option Nat} {x3 : Option Nat} {x4 : Int32} {r : (Int32 × AS)} (h : f_W_law_B1711 X L k23 S x1 x2 x3 x4 = some r) : kr_AW (m_W_law X L) 15 1711 [(0, va_rf (some 2)), (1, va_rf x1), (2, va_rf x2), (3, va_rf x3), (4, .int x4)] [] S (kr_eI r) := by
  unfold f_W_law_B1711 at h
  refine r_aload_n (i := 1) (x := x1) 1 rfl d_W_law_1711 ?_
  refine r_aload_n (i := 0) (x := (some 2)) 0 rfl d_W_law_1712 ?_
  refine r_iload (i := 4) (x := x4) 4 rfl d_W_law_1713 ?_
  refine r_iconst (v := (1 : Int32)) (by decide) d_W_law_1715 ?_
  refine r_iadd d_W_law_1716 ?_
  have h2 := kr_ob h
  clear h
  obtain ⟨v336, ev336, h⟩ := h2
  refine r_sload rfl ev336 d_W_law_1717 ?_
  refine r_aload_n (i := 0) (x := (some 2)) 0 rfl d_W_law_1718 ?_
  refine r_iload (i := 4) (x := x4) 4 rfl d_W_law_1719 ?_
  refine r_iconst (v := (2 : Int32)) (by decide) d_W_law_1721 ?_
  refine r_iadd d_W_law_1722 ?_
  have h2 := kr_ob h
  clear h
  obtain ⟨v337, ev337, h⟩ := h2
  refine r_sload rfl ev337 d_W_law_1723 ?_
  refine r_aload_n (i := 3) (x := x3) 3 rfl d_W_law_1724 ?_
  have h2 := kr_ob2 h
  clear h
  obtain ⟨v339, S338, eS338, h⟩ := h2
  refine r_callSX (M1 := m_W_vouch) (As := [va_rf x1, .int v336, .int v337, va_rf x3]) (s_W_vouch eS338) mok_W_vouch (by decide) w1334 w1335 (by decide) (kr_c8 kr_c0) d_W_law_1725 (kr_k1 ?_) kr_kn
  refine r_istore (i := 5) (lv' := [(5, .int v339), (0, va_rf (some 2)), (1, va_rf x1), (2, va_rf x2), (3, va_rf x3), (4, .int x4)]) (by show (5 : Nat) < 7; decide) rfl d_W_law_1728 ?_
  refine r_aload_n (i := 2) (x := x2) 3 rfl d_W_law_1730 ?_
  refine r_aload_n (i := 0) (x := (some 2)) 1 rfl d_W_law_1731 ?_
  refine r_iload (i := 4) (x := x4) 5 rfl d_W_law_1732 ?_
  refine r_iconst (v := (1 : Int32)) (by decide) d_W_law_1734 ?_
  refine r_iadd d_W_law_1735 ?_
  have h2 := kr_ob h
  clear h
  obtain ⟨v340, ev340, h⟩ := h2
  refine r_sload rfl ev340 d_W_law_1736 ?_
  refine r_aload_n (i := 0) (x := (some 2)) 1 rfl d_W_law_1737 ?_
  refine r_iload (i := 4) (x := x4) 5 rfl d_W_law_1738 ?_
  refine r_iconst (v := (2 : Int32)) (by decide) d_W_law_1740 ?_
  refine r_iadd d_W_law_1741 ?_
  have h2 := kr_ob h
  clear h
  obtain ⟨v341, ev341, h⟩ := h2
  refine r_sload rfl ev341 d_W_law_1742 ?_
  have h2 := kr_ob h
  clear h
  obtain ⟨⟨⟩, eu342, h⟩ := h2
  have h2 := kr_ob2 h
  clear h
  obtain ⟨v344, S343, eS343, h⟩ := h2
  refine r_callV (M1 := m_M_vouch) (κ := 23) (As := [.int v340, .int v341]) eu342 (s_M_vouch eS343) mok_M_vouch rfl (by decide) rfl w2010 w2011 w2012 (by decide) (kr_c8 kr_c0) d_W_law_1743 (kr_k1 ?_) kr_kn
  refine r_istore (i := 6) (lv' := [(6, .int v344), (5, .int v339), (0, va_rf (some 2)), (1, va_rf x1), (2, va_rf x2), (3, va_rf x3), (4, .int x4)]) (by show (6 : Nat) < 7; decide) rfl d_W_law_1746 ?_
  refine r_goto (tgt := 2025) d_W_law_1748 rfl ?_
  exact kr_sub [2, 3, 4, 5, 6] rfl (s_W_law_B2025 hk23 h)
set_option maxRecDepth 20000 in
set_option maxHeartbeats 4000000 in
theorem s_W_law_B1751 {X : Nat → Int32} {L : Nat} {k23 : AS → Option Nat → Option Nat → Option Nat → Int32 → Option (Int32 × AS)} (hk23 : ∀ {S : AS} {x1 : Option Nat} {x2 : Option Nat} {x3 : Option Nat} {x4 : Int32} {r : (Int32 × AS)}, k23 S x1 x2 x3 x4 = some r → kr_AW (m_W_law X L) 15 23 [(0, va_rf (some 2)), (1, va_rf x1), (2, va_rf x2), (3, va_rf x3), (4, .int x4)] [] S (kr_eI r)) {S : AS} {x1 : Option Nat} {x2 : Option Nat} {x3 : Option Nat} {x4 : Int32} {r : (Int32 × AS)} (h : f_W_law_B1751 X L k23 S x1 x2 x3 x4 = some r) : kr_AW (m_W_law X L) 15 1751 [(0, va_rf (some 2)), (1, va_rf x1), (2, va_rf x2), (3, va_rf x3), (4, .int x4)] [] S (kr_eI r) := by
  unfold f_W_law_B1751 at h
  refine r_aload_n (i := 1) (x := x1) 1 rfl d_W_law_1751 ?_
  refine r_aload_n (i := 0) (x := (some 2)) 0 rfl d_W_law_1752 ?_
  refine r_iload (i := 4) (x := x4) 4 rfl d_W_law_1753 ?_
  refine r_iconst (v := (1 : Int32)) (by decide) d_W_law_1755 ?_
  refine r_iadd d_W_law_1756 ?_
  have h2 := kr_ob h
  clear h
  obtain ⟨v345, ev345, h⟩ := h2
  refine r_sload rfl ev345 d_W_law_1757 ?_
  refine r_aload_n (i := 0) (x := (some 2)) 0 rfl d_W_law_1758 ?_
  refine r_iload (i := 4) (x := x4) 4 rfl d_W_law_1759 ?_
  refine r_iconst (v := (2 : Int32)) (by decide) d_W_law_1761 ?_
  refine r_iadd d_W_law_1762 ?_
  have h2 := kr_ob h
  clear h
  obtain ⟨v346, ev346, h⟩ := h2
  refine r_sload rfl ev346 d_W_law_1763 ?_
  refine r_aload_n (i := 3) (x := x3) 3 rfl d_W_law_1764 ?_
  have h2 := kr_ob2 h
  clear h
  obtain ⟨v348, S347, eS347, h⟩ := h2
  refine r_callSX (M1 := m_W_stop) (As := [va_rf x1, .int v345, .int v346, va_rf x3]) (s_W_stop eS347) mok_W_stop (by decide) w1345 w1346 (by decide) (kr_c8 kr_c0) d_W_law_1765 (kr_k1 ?_) kr_kn
  refine r_istore (i := 5) (lv' := [(5, .int v348), (0, va_rf (some 2)), (1, va_rf x1), (2, va_rf x2), (3, va_rf x3), (4, .int x4)]) (by show (5 : Nat) < 7; decide) rfl d_W_law_1768 ?_
  refine r_aload_n (i := 2) (x := x2) 3 rfl d_W_law_1770 ?_
  refine r_aload_n (i := 0) (x := (some 2)) 1 rfl d_W_law_1771 ?_
  refine r_iload (i := 4) (x := x4) 5 rfl d_W_law_1772 ?_
  refine r_iconst (v := (1 : Int32)) (by decide) d_W_law_1774 ?_
  refine r_iadd d_W_law_1775 ?_
  have h2 := kr_ob h
  clear h
  obtain ⟨v349, ev349, h⟩ := h2
  refine r_sload rfl ev349 d_W_law_1776 ?_
  refine r_aload_n (i := 0) (x := (some 2)) 1 rfl d_W_law_1777 ?_
  refine r_iload (i := 4) (x := x4) 5 rfl d_W_law_1778 ?_
  refine r_iconst (v := (2 : Int32)) (by decide) d_W_law_1780 ?_
  refine r_iadd d_W_law_1781 ?_
  have h2 := kr_ob h
  clear h
  obtain ⟨v350, ev350, h⟩ := h2
  refine r_sload rfl ev350 d_W_law_1782 ?_
  have h2 := kr_ob h
  clear h
  obtain ⟨⟨⟩, eu351, h⟩ := h2
  have h2 := kr_ob2 h
  clear h
  obtain ⟨v353, S352, eS352, h⟩ := h2
  refine r_callV (M1 := m_M_stop) (κ := 23) (As := [.int v349, .int v350]) eu351 (s_M_stop eS352) mok_M_stop rfl (by decide) rfl w2022 w2023 w2024 (by decide) (kr_c8 kr_c0) d_W_law_1783 (kr_k1 ?_) kr_kn
  refine r_istore (i := 6) (lv' := [(6, .int v353), (5, .int v348), (0, va_rf (some 2)), (1, va_rf x1), (2, va_rf x2), (3, va_rf x3), (4, .int x4)]) (by show (6 : Nat) < 7; decide) rfl d_W_law_1786 ?_
  refine r_goto (tgt := 2025) d_W_law_1788 rfl ?_
  exact kr_sub [2, 3, 4, 5, 6] rfl (s_W_law_B2025 hk23 h)
set_option maxRecDepth 20000 in
set_option maxHeartbeats 4000000 in
theorem s_W_law_B1791 {X : Nat → Int32} {L : Nat} {k23 : AS → Option Nat → Option Nat → Option Nat → Int32 → Option (Int32 × AS)} (hk23 : ∀ {S : AS} {x1 : Option Nat} {x2 : Option Nat} {x3 : Option Nat} {x4 : Int32} {r : (Int32 × AS)}, k23 S x1 x2 x3 x4 = some r → kr_AW (m_W_law X L) 15 23 [(0, va_rf (some 2)), (1, va_rf x1), (2, va_rf x2), (3, va_rf x3), (4, .int x4)] [] S (kr_eI r)) {S : AS} {x1 : Option Nat} {x2 : Option Nat} {x3 : Option Nat} {x4 : Int32} {r : (Int32 × AS)} (h : f_W_law_B1791 X L k23 S x1 x2 x3 x4 = some r) : kr_AW (m_W_law X L) 15 1791 [(0, va_rf (some 2)), (1, va_rf x1), (2, va_rf x2), (3, va_rf x3), (4, .int x4)] [] S (kr_eI r) := by
  unfold f_W_law_B1791 at h
  refine r_aload_n (i := 1) (x := x1) 1 rfl d_W_law_1791 ?_
  refine r_aload_n (i := 0) (x := (some 2)) 0 rfl d_W_law_1792 ?_
  refine r_iload (i := 4) (x := x4) 4 rfl d_W_law_1793 ?_
  refine r_iconst (v := (1 : Int32)) (by decide) d_W_law_1795 ?_
  refine r_iadd d_W_law_1796 ?_
  have h2 := kr_ob h
  clear h
  obtain ⟨v354, ev354, h⟩ := h2
  refine r_sload rfl ev354 d_W_law_1797 ?_
  refine r_aload_n (i := 3) (x := x3) 3 rfl d_W_law_1798 ?_
  have h2 := kr_ob2 h
  clear h
  obtain ⟨v356, S355, eS355, h⟩ := h2
  refine r_callSX (M1 := m_W_finish) (As := [va_rf x1, .int v354, va_rf x3]) (s_W_finish eS355) mok_W_finish (by decide) w1362 w1363 (by decide) (kr_c8 kr_c0) d_W_law_1799 (kr_k1 ?_) kr_kn
  refine r_istore (i := 5) (lv' := [(5, .int v356), (0, va_rf (some 2)), (1, va_rf x1), (2, va_rf x2), (3, va_rf x3), (4, .int x4)]) (by show (5 : Nat) < 7; decide) rfl d_W_law_1802 ?_
  refine r_aload_n (i := 2) (x := x2) 3 rfl d_W_law_1804 ?_
  refine r_aload_n (i := 0) (x := (some 2)) 1 rfl d_W_law_1805 ?_
  refine r_iload (i := 4) (x := x4) 5 rfl d_W_law_1806 ?_
  refine r_iconst (v := (1 : Int32)) (by decide) d_W_law_1808 ?_
  refine r_iadd d_W_law_1809 ?_
  have h2 := kr_ob h
  clear h
  obtain ⟨v357, ev357, h⟩ := h2
  refine r_sload rfl ev357 d_W_law_1810 ?_
  have h2 := kr_ob h
  clear h
  obtain ⟨⟨⟩, eu358, h⟩ := h2
  have h2 := kr_ob2 h
  clear h
  obtain ⟨v360, S359, eS359, h⟩ := h2
  refine r_callV (M1 := m_M_finish) (κ := 23) (As := [.int v357]) eu358 (s_M_finish eS359) mok_M_finish rfl (by decide) rfl w2029 w2030 w2031 (by decide) (kr_c8 kr_c0) d_W_law_1811 (kr_k1 ?_) kr_kn
  refine r_istore (i := 6) (lv' := [(6, .int v360), (5, .int v356), (0, va_rf (some 2)), (1, va_rf x1), (2, va_rf x2), (3, va_rf x3), (4, .int x4)]) (by show (6 : Nat) < 7; decide) rfl d_W_law_1814 ?_
  refine r_goto (tgt := 2025) d_W_law_1816 rfl ?_
  exact kr_sub [2, 3, 4, 5, 6] rfl (s_W_law_B2025 hk23 h)
set_option maxRecDepth 20000 in
set_option maxHeartbeats 4000000 in
theorem s_W_law_B1819 {X : Nat → Int32} {L : Nat} {k23 : AS → Option Nat → Option Nat → Option Nat → Int32 → Option (Int32 × AS)} (hk23 : ∀ {S : AS} {x1 : Option Nat} {x2 : Option Nat} {x3 : Option Nat} {x4 : Int32} {r : (Int32 × AS)}, k23 S x1 x2 x3 x4 = some r → kr_AW (m_W_law X L) 15 23 [(0, va_rf (some 2)), (1, va_rf x1), (2, va_rf x2), (3, va_rf x3), (4, .int x4)] [] S (kr_eI r)) {S : AS} {x1 : Option Nat} {x2 : Option Nat} {x3 : Option Nat} {x4 : Int32} {r : (Int32 × AS)} (h : f_W_law_B1819 X L k23 S x1 x2 x3 x4 = some r) : kr_AW (m_W_law X L) 15 1819 [(0, va_rf (some 2)), (1, va_rf x1), (2, va_rf x2), (3, va_rf x3), (4, .int x4)] [] S (kr_eI r) := by
  unfold f_W_law_B1819 at h
  refine r_aload_n (i := 1) (x := x1) 1 rfl d_W_law_1819 ?_
  refine r_aload_n (i := 0) (x := (some 2)) 0 rfl d_W_law_1820 ?_
  refine r_iload (i := 4) (x := x4) 4 rfl d_W_law_1821 ?_
  refine r_iconst (v := (1 : Int32)) (by decide) d_W_law_1823 ?_
  refine r_iadd d_W_law_1824 ?_
  have h2 := kr_ob h
  clear h
  obtain ⟨v361, ev361, h⟩ := h2
  refine r_sload rfl ev361 d_W_law_1825 ?_
  refine r_aload_n (i := 0) (x := (some 2)) 0 rfl d_W_law_1826 ?_
  refine r_iload (i := 4) (x := x4) 4 rfl d_W_law_1827 ?_
  refine r_iconst (v := (2 : Int32)) (by decide) d_W_law_1829 ?_
  refine r_iadd d_W_law_1830 ?_
  have h2 := kr_ob h
  clear h
  obtain ⟨v362, ev362, h⟩ := h2
  refine r_sload rfl ev362 d_W_law_1831 ?_
  refine r_aload_n (i := 3) (x := x3) 3 rfl d_W_law_1832 ?_
  have h2 := kr_ob2 h
  clear h
  obtain ⟨v364, S363, eS363, h⟩ := h2
  refine r_callSX (M1 := m_W_link) (As := [va_rf x1, .int v361, .int v362, va_rf x3]) (s_W_link eS363) mok_W_link (by decide) w1382 w1383 (by decide) (kr_c8 kr_c0) d_W_law_1833 (kr_k1 ?_) kr_kn
  refine r_istore (i := 5) (lv' := [(5, .int v364), (0, va_rf (some 2)), (1, va_rf x1), (2, va_rf x2), (3, va_rf x3), (4, .int x4)]) (by show (5 : Nat) < 7; decide) rfl d_W_law_1836 ?_
  refine r_aload_n (i := 2) (x := x2) 3 rfl d_W_law_1838 ?_
  refine r_aload_n (i := 0) (x := (some 2)) 1 rfl d_W_law_1839 ?_
  refine r_iload (i := 4) (x := x4) 5 rfl d_W_law_1840 ?_
  refine r_iconst (v := (1 : Int32)) (by decide) d_W_law_1842 ?_
  refine r_iadd d_W_law_1843 ?_
  have h2 := kr_ob h
  clear h
  obtain ⟨v365, ev365, h⟩ := h2
  refine r_sload rfl ev365 d_W_law_1844 ?_
  refine r_aload_n (i := 0) (x := (some 2)) 1 rfl d_W_law_1845 ?_
  refine r_iload (i := 4) (x := x4) 5 rfl d_W_law_1846 ?_
  refine r_iconst (v := (2 : Int32)) (by decide) d_W_law_1848 ?_
  refine r_iadd d_W_law_1849 ?_
  have h2 := kr_ob h
  clear h
  obtain ⟨v366, ev366, h⟩ := h2
  refine r_sload rfl ev366 d_W_law_1850 ?_
  have h2 := kr_ob h
  clear h
  obtain ⟨⟨⟩, eu367, h⟩ := h2
  have h2 := kr_ob2 h
  clear h
  obtain ⟨v369, S368, eS368, h⟩ := h2
  refine r_callV (M1 := m_M_link) (κ := 23) (As := [.int v365, .int v366]) eu367 (s_M_link eS368) mok_M_link rfl (by decide) rfl w2040 w2041 w2042 (by decide) (kr_c8 kr_c0) d_W_law_1851 (kr_k1 ?_) kr_kn
  refine r_istore (i := 6) (lv' := [(6, .int v369), (5, .int v364), (0, va_rf (some 2)), (1, va_rf x1), (2, va_rf x2), (3, va_rf x3), (4, .int x4)]) (by show (6 : Nat) < 7; decide) rfl d_W_law_1854 ?_
  refine r_aload_n (i := 2) (x := x2) 4 rfl d_W_law_1856 ?_
  have h2 := kr_ob h
  clear h
  obtain ⟨⟨⟩, eu370, h⟩ := h2
  have h2 := kr_ob2 h
  clear h
  obtain ⟨v372, S371, eS371, h⟩ := h2
  refine r_callV (M1 := m_M_thrown) (κ := 23) (As := []) eu370 (s_M_thrown eS371) mok_M_thrown rfl (by decide) rfl w1688 w1689 w1690 (by decide) (kr_c8 kr_c0) d_W_law_1857 (kr_k1 ?_) kr_kn
  refine r_iload (i := 5) (x := v364) 1 rfl d_W_law_1860 ?_
  refine r_icmp_eq (tgt := 1867) d_W_law_1862 rfl (fun c => ?_) (fun c => ?_)
  · replace h := kr_ip c h
    refine r_iload (i := 5) (x := v364) 1 rfl d_W_law_1867 ?_
    refine r_if_ne (tgt := 1884) d_W_law_1869 rfl (fun c => ?_) (fun c => ?_)
    · replace h := kr_ip c h
      refine r_aload_n (i := 3) (x := x3) 5 rfl d_W_law_1872 ?_
      refine r_iconst (v := (0 : Int32)) (by decide) d_W_law_1873 ?_
      have h2 := kr_ob h
      clear h
      obtain ⟨v373, ev373, h⟩ := h2
      refine r_laload ev373 d_W_law_1874 ?_
      refine r_iload (i := 6) (x := v369) 0 rfl d_W_law_1875 ?_
      refine r_i2l d_W_law_1877 ?_
      refine r_lcmp d_W_law_1878 ?_
      refine r_if_eq (tgt := 1884) d_W_law_1879 rfl (fun c => ?_) (fun c => ?_)
      · replace h := kr_ip c h
        refine r_goto (tgt := 2025) d_W_law_1884 rfl ?_
        exact kr_sub [2, 3, 4, 5, 6] rfl (s_W_law_B2025 hk23 h)
      · replace h := kr_in_ c h
        refine r_iconst (v := (0 : Int32)) (by decide) d_W_law_1882 ?_
        cases h
        exact r_zret rfl rfl d_W_law_1883
    · replace h := kr_in_ c h
      refine r_goto (tgt := 2025) d_W_law_1884 rfl ?_
      exact kr_sub [2, 3, 4, 5, 6] rfl (s_W_law_B2025 hk23 h)
  · replace h := kr_in_ c h
    refine r_iconst (v := (0 : Int32)) (by decide) d_W_law_1865 ?_
    cases h
    exact r_zret rfl rfl d_W_law_1866
set_option maxRecDepth 20000 in
set_option maxHeartbeats 4000000 in
theorem s_W_law_B1887 {X : Nat → Int32} {L : Nat} {k23 : AS → Option Nat → Option Nat → Option Nat → Int32 → Option (Int32 × AS)} (hk23 : ∀ {S : AS} {x1 : Option Nat} {x2 : Option Nat} {x3 : Option Nat} {x4 : Int32} {r : (Int32 × AS)}, k23 S x1 x2 x3 x4 = some r → kr_AW (m_W_law X L) 15 23 [(0, va_rf (some 2)), (1, va_rf x1), (2, va_rf x2), (3, va_rf x3), (4, .int x4)] [] S (kr_eI r)) {S : AS} {x1 : Option Nat} {x2 : Option Nat} {x3 : Option Nat} {x4 : Int32} {r : (Int32 × AS)} (h : f_W_law_B1887 X L k23 S x1 x2 x3 x4 = some r) : kr_AW (m_W_law X L) 15 1887 [(0, va_rf (some 2)), (1, va_rf x1), (2, va_rf x2), (3, va_rf x3), (4, .int x4)] [] S (kr_eI r) := by
  unfold f_W_law_B1887 at h
  refine r_aload_n (i := 1) (x := x1) 1 rfl d_W_law_1887 ?_
  refine r_aload_n (i := 0) (x := (some 2)) 0 rfl d_W_law_1888 ?_
  refine r_iload (i := 4) (x := x4) 4 rfl d_W_law_1889 ?_
  refine r_iconst (v := (1 : Int32)) (by decide) d_W_law_1891 ?_
  refine r_iadd d_W_law_1892 ?_
  have h2 := kr_ob h
  clear h
  obtain ⟨v374, ev374, h⟩ := h2
  refine r_sload rfl ev374 d_W_law_1893 ?_
  refine r_aload_n (i := 3) (x := x3) 3 rfl d_W_law_1894 ?_
  have h2 := kr_ob2 h
  clear h
  obtain ⟨v376, S375, eS375, h⟩ := h2
  refine r_callSX (M1 := m_W_foreign) (As := [va_rf x1, .int v374, va_rf x3]) (s_W_foreign eS375) mok_W_foreign (by decide) w1389 w1390 (by decide) (kr_c8 kr_c0) d_W_law_1895 (kr_k1 ?_) kr_kn
  refine r_istore (i := 5) (lv' := [(5, .int v376), (0, va_rf (some 2)), (1, va_rf x1), (2, va_rf x2), (3, va_rf x3), (4, .int x4)]) (by show (5 : Nat) < 7; decide) rfl d_W_law_1898 ?_
  refine r_aload_n (i := 2) (x := x2) 3 rfl d_W_law_1900 ?_
  refine r_aload_n (i := 0) (x := (some 2)) 1 rfl d_W_law_1901 ?_
  refine r_iload (i := 4) (x := x4) 5 rfl d_W_law_1902 ?_
  refine r_iconst (v := (1 : Int32)) (by decide) d_W_law_1904 ?_
  refine r_iadd d_W_law_1905 ?_
  have h2 := kr_ob h
  clear h
  obtain ⟨v377, ev377, h⟩ := h2
  refine r_sload rfl ev377 d_W_law_1906 ?_
  have h2 := kr_ob h
  clear h
  obtain ⟨⟨⟩, eu378, h⟩ := h2
  have h2 := kr_ob2 h
  clear h
  obtain ⟨v380, S379, eS379, h⟩ := h2
  refine r_callV (M1 := m_M_foreign) (κ := 23) (As := [.int v377]) eu378 (s_M_foreign eS379) mok_M_foreign rfl (by decide) rfl w2044 w2045 w2046 (by decide) (kr_c8 kr_c0) d_W_law_1907 (kr_k1 ?_) kr_kn
  refine r_istore (i := 6) (lv' := [(6, .int v380), (5, .int v376), (0, va_rf (some 2)), (1, va_rf x1), (2, va_rf x2), (3, va_rf x3), (4, .int x4)]) (by show (6 : Nat) < 7; decide) rfl d_W_law_1910 ?_
  refine r_goto (tgt := 2025) d_W_law_1912 rfl ?_
  exact kr_sub [2, 3, 4, 5, 6] rfl (s_W_law_B2025 hk23 h)
set_option maxRecDepth 20000 in
set_option maxHeartbeats 4000000 in
theorem s_W_law_B1915 {X : Nat → Int32} {L : Nat} {k23 : AS → Option Nat → Option Nat → Option Nat → Int32 → Option (Int32 × AS)} (hk23 : ∀ {S : AS} {x1 : Option Nat} {x2 : Option Nat} {x3 : Option Nat} {x4 : Int32} {r : (Int32 × AS)}, k23 S x1 x2 x3 x4 = some r → kr_AW (m_W_law X L) 15 23 [(0, va_rf (some 2)), (1, va_rf x1), (2, va_rf x2), (3, va_rf x3), (4, .int x4)] [] S (kr_eI r)) {S : AS} {x1 : Option Nat} {x2 : Option Nat} {x3 : Option Nat} {x4 : Int32} {r : (Int32 × AS)} (h : f_W_law_B1915 X L k23 S x1 x2 x3 x4 = some r) : kr_AW (m_W_law X L) 15 1915 [(0, va_rf (some 2)), (1, va_rf x1), (2, va_rf x2), (3, va_rf x3), (4, .int x4)] [] S (kr_eI r) := by
  unfold f_W_law_B1915 at h
  refine r_aload_n (i := 1) (x := x1) 1 rfl d_W_law_1915 ?_
  refine r_aload_n (i := 0) (x := (some 2)) 0 rfl d_W_law_1916 ?_
  refine r_iload (i := 4) (x := x4) 4 rfl d_W_law_1917 ?_
  refine r_iconst (v := (1 : Int32)) (by decide) d_W_law_1919 ?_
  refine r_iadd d_W_law_1920 ?_
  have h2 := kr_ob h
  clear h
  obtain ⟨v381, ev381, h⟩ := h2
  refine r_sload rfl ev381 d_W_law_1921 ?_
  refine r_aload_n (i := 3) (x := x3) 3 rfl d_W_law_1922 ?_
  have h2 := kr_ob2 h
  clear h
  obtain ⟨v383, S382, eS382, h⟩ := h2
  refine r_callSX (M1 := m_W_leave) (As := [va_rf x1, .int v381, va_rf x3]) (s_W_leave eS382) mok_W_leave (by decide) w1397 w1398 (by decide) (kr_c8 kr_c0) d_W_law_1923 (kr_k1 ?_) kr_kn
  refine r_istore (i := 5) (lv' := [(5, .int v383), (0, va_rf (some 2)), (1, va_rf x1), (2, va_rf x2), (3, va_rf x3), (4, .int x4)]) (by show (5 : Nat) < 7; decide) rfl d_W_law_1926 ?_
  refine r_aload_n (i := 2) (x := x2) 3 rfl d_W_law_1928 ?_
  refine r_aload_n (i := 0) (x := (some 2)) 1 rfl d_W_law_1929 ?_
  refine r_iload (i := 4) (x := x4) 5 rfl d_W_law_1930 ?_
  refine r_iconst (v := (1 : Int32)) (by decide) d_W_law_1932 ?_
  refine r_iadd d_W_law_1933 ?_
  have h2 := kr_ob h
  clear h
  obtain ⟨v384, ev384, h⟩ := h2
  refine r_sload rfl ev384 d_W_law_1934 ?_
  have h2 := kr_ob h
  clear h
  obtain ⟨⟨⟩, eu385, h⟩ := h2
  have h2 := kr_ob2 h
  clear h
  obtain ⟨v387, S386, eS386, h⟩ := h2
  refine r_callV (M1 := m_M_leave) (κ := 23) (As := [.int v384]) eu385 (s_M_leave eS386) mok_M_leave rfl (by decide) rfl w2048 w2049 w2050 (by decide) (kr_c8 kr_c0) d_W_law_1935 (kr_k1 ?_) kr_kn
  refine r_istore (i := 6) (lv' := [(6, .int v387), (5, .int v383), (0, va_rf (some 2)), (1, va_rf x1), (2, va_rf x2), (3, va_rf x3), (4, .int x4)]) (by show (6 : Nat) < 7; decide) rfl d_W_law_1938 ?_
  refine r_goto (tgt := 2025) d_W_law_1940 rfl ?_
  exact kr_sub [2, 3, 4, 5, 6] rfl (s_W_law_B2025 hk23 h)
set_option maxRecDepth 20000 in
set_option maxHeartbeats 4000000 in
theorem s_W_law_B1943 {X : Nat → Int32} {L : Nat} {k23 : AS → Option Nat → Option Nat → Option Nat → Int32 → Option (Int32 × AS)} (hk23 : ∀ {S : AS} {x1 : Option Nat} {x2 : Option Nat} {x3 : Option Nat} {x4 : Int32} {r : (Int32 × AS)}, k23 S x1 x2 x3 x4 = some r → kr_AW (m_W_law X L) 15 23 [(0, va_rf (some 2)), (1, va_rf x1), (2, va_rf x2), (3, va_rf x3), (4, .int x4)] [] S (kr_eI r)) {S : AS} {x1 : Option Nat} {x2 : Option Nat} {x3 : Option Nat} {x4 : Int32} {r : (Int32 × AS)} (h : f_W_law_B1943 X L k23 S x1 x2 x3 x4 = some r) : kr_AW (m_W_law X L) 15 1943 [(0, va_rf (some 2)), (1, va_rf x1), (2, va_rf x2), (3, va_rf x3), (4, .int x4)] [] S (kr_eI r) := by
  unfold f_W_law_B1943 at h
  refine r_aload_n (i := 1) (x := x1) 1 rfl d_W_law_1943 ?_
  have h2 := kr_ob h
  clear h
  obtain ⟨⟨⟩, eu388, h⟩ := h2
  have h2 := kr_ob2 h
  clear h
  obtain ⟨v390, S389, eS389, h⟩ := h2
  refine r_callV (M1 := m_K_audits) (κ := 22) (As := []) eu388 (s_K_audits eS389) mok_K_audits rfl (by decide) rfl w356 w357 w358 (by decide) (kr_c8 kr_c0) d_W_law_1944 (kr_k1 ?_) kr_kn
  refine r_pop rfl d_W_law_1947 ?_
  refine r_aload_n (i := 2) (x := x2) 2 rfl d_W_law_1948 ?_
  have h2 := kr_ob h
  clear h
  obtain ⟨⟨⟩, eu391, h⟩ := h2
  have h2 := kr_ob2 h
  clear h
  obtain ⟨v393, S392, eS392, h⟩ := h2
  refine r_callV (M1 := m_M_audits) (κ := 23) (As := []) eu391 (s_M_audits eS392) mok_M_audits rfl (by decide) rfl w1692 w1693 w1694 (by decide) (kr_c8 kr_c0) d_W_law_1949 (kr_k1 ?_) kr_kn
  refine r_pop rfl d_W_law_1952 ?_
  refine r_goto (tgt := 2025) d_W_law_1953 rfl ?_
  exact kr_sub [0, 1, 2, 3, 4] rfl (s_W_law_B2025 hk23 h)
set_option maxRecDepth 20000 in
set_option maxHeartbeats 4000000 in
theorem s_W_law_B1956 {X : Nat → Int32} {L : Nat} {k23 : AS → Option Nat → Option Nat → Option Nat → Int32 → Option (Int32 × AS)} (hk23 : ∀ {S : AS} {x1 : Option Nat} {x2 : Option Nat} {x3 : Option Nat} {x4 : Int32} {r : (Int32 × AS)}, k23 S x1 x2 x3 x4 = some r → kr_AW (m_W_law X L) 15 23 [(0, va_rf (some 2)), (1, va_rf x1), (2, va_rf x2), (3, va_rf x3), (4, .int x4)] [] S (kr_eI r)) {S : AS} {x1 : Option Nat} {x2 : Option Nat} {x3 : Option Nat} {x4 : Int32} {r : (Int32 × AS)} (h : f_W_law_B1956 X L k23 S x1 x2 x3 x4 = some r) : kr_AW (m_W_law X L) 15 1956 [(0, va_rf (some 2)), (1, va_rf x1), (2, va_rf x2), (3, va_rf x3), (4, .int x4)] [] S (kr_eI r) := by
  unfold f_W_law_B1956 at h
  refine r_aload_n (i := 1) (x := x1) 1 rfl d_W_law_1956 ?_
  refine r_aload_n (i := 0) (x := (some 2)) 0 rfl d_W_law_1957 ?_
  refine r_iload (i := 4) (x := x4) 4 rfl d_W_law_1958 ?_
  refine r_iconst (v := (1 : Int32)) (by decide) d_W_law_1960 ?_
  refine r_iadd d_W_law_1961 ?_
  have h2 := kr_ob h
  clear h
  obtain ⟨v394, ev394, h⟩ := h2
  refine r_sload rfl ev394 d_W_law_1962 ?_
  refine r_aload_n (i := 3) (x := x3) 3 rfl d_W_law_1963 ?_
  have h2 := kr_ob2 h
  clear h
  obtain ⟨v396, S395, eS395, h⟩ := h2
  refine r_callSX (M1 := m_W_audit) (As := [va_rf x1, .int v394, va_rf x3]) (s_W_audit eS395) mok_W_audit (by decide) w1412 w1413 (by decide) (kr_c8 kr_c0) d_W_law_1964 (kr_k1 ?_) kr_kn
  refine r_istore (i := 5) (lv' := [(5, .int v396), (0, va_rf (some 2)), (1, va_rf x1), (2, va_rf x2), (3, va_rf x3), (4, .int x4)]) (by show (5 : Nat) < 7; decide) rfl d_W_law_1967 ?_
  refine r_aload_n (i := 2) (x := x2) 3 rfl d_W_law_1969 ?_
  refine r_aload_n (i := 0) (x := (some 2)) 1 rfl d_W_law_1970 ?_
  refine r_iload (i := 4) (x := x4) 5 rfl d_W_law_1971 ?_
  refine r_iconst (v := (1 : Int32)) (by decide) d_W_law_1973 ?_
  refine r_iadd d_W_law_1974 ?_
  have h2 := kr_ob h
  clear h
  obtain ⟨v397, ev397, h⟩ := h2
  refine r_sload rfl ev397 d_W_law_1975 ?_
  have h2 := kr_ob h
  clear h
  obtain ⟨⟨⟩, eu398, h⟩ := h2
  have h2 := kr_ob2 h
  clear h
  obtain ⟨v400, S399, eS399, h⟩ := h2
  refine r_callV (M1 := m_M_audit) (κ := 23) (As := [.int v397]) eu398 (s_M_audit eS399) mok_M_audit rfl (by decide) rfl w1696 w1697 w1698 (by decide) (kr_c8 kr_c0) d_W_law_1976 (kr_k1 ?_) kr_kn
  refine r_istore (i := 6) (lv' := [(6, .int v400), (5, .int v396), (0, va_rf (some 2)), (1, va_rf x1), (2, va_rf x2), (3, va_rf x3), (4, .int x4)]) (by show (6 : Nat) < 7; decide) rfl d_W_law_1979 ?_
  refine r_goto (tgt := 2025) d_W_law_1981 rfl ?_
  exact kr_sub [2, 3, 4, 5, 6] rfl (s_W_law_B2025 hk23 h)
set_option maxRecDepth 20000 in
set_option maxHeartbeats 4000000 in
theorem s_W_law_B1984 {X : Nat → Int32} {L : Nat} {k23 : AS → Option Nat → Option Nat → Option Nat → Int32 → Option (Int32 × AS)} (hk23 : ∀ {S : AS} {x1 : Option Nat} {x2 : Option Nat} {x3 : Option Nat} {x4 : Int32} {r : (Int32 × AS)}, k23 S x1 x2 x3 x4 = some r → kr_AW (m_W_law X L) 15 23 [(0, va_rf (some 2)), (1, va_rf x1), (2, va_rf x2), (3, va_rf x3), (4, .int x4)] [] S (kr_eI r)) {S : AS} {x1 : Option Nat} {x2 : Option Nat} {x3 : Option Nat} {x4 : Int32} {r : (Int32 × AS)} (h : f_W_law_B1984 X L k23 S x1 x2 x3 x4 = some r) : kr_AW (m_W_law X L) 15 1984 [(0, va_rf (some 2)), (1, va_rf x1), (2, va_rf x2), (3, va_rf x3), (4, .int x4)] [] S (kr_eI r) := by
  unfold f_W_law_B1984 at h
  refine r_aload_n (i := 1) (x := x1) 1 rfl d_W_law_1984 ?_
  have h2 := kr_ob h
  clear h
  obtain ⟨⟨⟩, eu401, h⟩ := h2
  have h2 := kr_ob2 h
  clear h
  obtain ⟨v403, S402, eS402, h⟩ := h2
  refine r_callV (M1 := m_K_sum) (κ := 22) (As := []) eu401 (s_K_sum eS402) mok_K_sum rfl (by decide) rfl w360 w361 w362 (by decide) (kr_c8 kr_c0) d_W_law_1985 (kr_k1 ?_) kr_kn
  refine r_pop rfl d_W_law_1988 ?_
  refine r_aload_n (i := 2) (x := x2) 2 rfl d_W_law_1989 ?_
  have h2 := kr_ob h
  clear h
  obtain ⟨⟨⟩, eu404, h⟩ := h2
  have h2 := kr_ob2 h
  clear h
  obtain ⟨v406, S405, eS405, h⟩ := h2
  refine r_callV (M1 := m_M_sum) (κ := 23) (As := []) eu404 (s_M_sum eS405) mok_M_sum rfl (by decide) rfl w1707 w1708 w1709 (by decide) (kr_c8 kr_c0) d_W_law_1990 (kr_k1 ?_) kr_kn
  refine r_pop rfl d_W_law_1993 ?_
  refine r_goto (tgt := 2025) d_W_law_1994 rfl ?_
  exact kr_sub [0, 1, 2, 3, 4] rfl (s_W_law_B2025 hk23 h)
set_option maxRecDepth 20000 in
set_option maxHeartbeats 4000000 in
theorem s_W_law_B1997 {X : Nat → Int32} {L : Nat} {k23 : AS → Option Nat → Option Nat → Option Nat → Int32 → Option (Int32 × AS)} (hk23 : ∀ {S : AS} {x1 : Option Nat} {x2 : Option Nat} {x3 : Option Nat} {x4 : Int32} {r : (Int32 × AS)}, k23 S x1 x2 x3 x4 = some r → kr_AW (m_W_law X L) 15 23 [(0, va_rf (some 2)), (1, va_rf x1), (2, va_rf x2), (3, va_rf x3), (4, .int x4)] [] S (kr_eI r)) {S : AS} {x1 : Option Nat} {x2 : Option Nat} {x3 : Option Nat} {x4 : Int32} {r : (Int32 × AS)} (h : f_W_law_B1997 X L k23 S x1 x2 x3 x4 = some r) : kr_AW (m_W_law X L) 15 1997 [(0, va_rf (some 2)), (1, va_rf x1), (2, va_rf x2), (3, va_rf x3), (4, .int x4)] [] S (kr_eI r) := by
  unfold f_W_law_B1997 at h
  refine r_aload_n (i := 1) (x := x1) 1 rfl d_W_law_1997 ?_
  refine r_aload_n (i := 0) (x := (some 2)) 0 rfl d_W_law_1998 ?_
  refine r_iload (i := 4) (x := x4) 4 rfl d_W_law_1999 ?_
  refine r_iconst (v := (1 : Int32)) (by decide) d_W_law_2001 ?_
  refine r_iadd d_W_law_2002 ?_
  have h2 := kr_ob h
  clear h
  obtain ⟨v407, ev407, h⟩ := h2
  refine r_sload rfl ev407 d_W_law_2003 ?_
  refine r_aload_n (i := 3) (x := x3) 3 rfl d_W_law_2004 ?_
  have h2 := kr_ob2 h
  clear h
  obtain ⟨v409, S408, eS408, h⟩ := h2
  refine r_callSX (M1 := m_W_sumAnew) (As := [va_rf x1, .int v407, va_rf x3]) (s_W_sumAnew eS408) mok_W_sumAnew (by decide) w1420 w1421 (by decide) (kr_c8 kr_c0) d_W_law_2005 (kr_k1 ?_) kr_kn
  refine r_istore (i := 5) (lv' := [(5, .int v409), (0, va_rf (some 2)), (1, va_rf x1), (2, va_rf x2), (3, va_rf x3), (4, .int x4)]) (by show (5 : Nat) < 7; decide) rfl d_W_law_2008 ?_
  refine r_aload_n (i := 2) (x := x2) 3 rfl d_W_law_2010 ?_
  refine r_aload_n (i := 0) (x := (some 2)) 1 rfl d_W_law_2011 ?_
  refine r_iload (i := 4) (x := x4) 5 rfl d_W_law_2012 ?_
  refine r_iconst (v := (1 : Int32)) (by decide) d_W_law_2014 ?_
  refine r_iadd d_W_law_2015 ?_
  have h2 := kr_ob h
  clear h
  obtain ⟨v410, ev410, h⟩ := h2
  refine r_sload rfl ev410 d_W_law_2016 ?_
  have h2 := kr_ob h
  clear h
  obtain ⟨⟨⟩, eu411, h⟩ := h2
  have h2 := kr_ob2 h
  clear h
  obtain ⟨v413, S412, eS412, h⟩ := h2
  refine r_callV (M1 := m_M_sumAnew) (κ := 23) (As := [.int v410]) eu411 (s_M_sumAnew eS412) mok_M_sumAnew rfl (by decide) rfl w1711 w1712 w1713 (by decide) (kr_c8 kr_c0) d_W_law_2017 (kr_k1 ?_) kr_kn
  refine r_istore (i := 6) (lv' := [(6, .int v413), (5, .int v409), (0, va_rf (some 2)), (1, va_rf x1), (2, va_rf x2), (3, va_rf x3), (4, .int x4)]) (by show (6 : Nat) < 7; decide) rfl d_W_law_2020 ?_
  refine r_goto (tgt := 2025) d_W_law_2022 rfl ?_
  exact kr_sub [2, 3, 4, 5, 6] rfl (s_W_law_B2025 hk23 h)
set_option maxRecDepth 20000 in
set_option maxHeartbeats 4000000 in
theorem s_W_law_C23 {X : Nat → Int32} {L : Nat} {k23 : AS → Option Nat → Option Nat → Option Nat → Int32 → Option (Int32 × AS)} (hk23 : ∀ {S : AS} {x1 : Option Nat} {x2 : Option Nat} {x3 : Option Nat} {x4 : Int32} {r : (Int32 × AS)}, k23 S x1 x2 x3 x4 = some r → kr_AW (m_W_law X L) 15 23 [(0, va_rf (some 2)), (1, va_rf x1), (2, va_rf x2), (3, va_rf x3), (4, .int x4)] [] S (kr_eI r)) {S : AS} {x1 : Option Nat} {x2 : Option Nat} {x3 : Option Nat} {x4 : Int32} {r : (Int32 × AS)} (h : f_W_law_C23 X L k23 S x1 x2 x3 x4 = some r) : kr_AW (m_W_law X L) 15 23 [(0, va_rf (some 2)), (1, va_rf x1), (2, va_rf x2), (3, va_rf x3), (4, .int x4)] [] S (kr_eI r) := by
  unfold f_W_law_C23 at h
  refine r_iload (i := 4) (x := x4) 4 rfl d_W_law_23 ?_
  refine r_aload_n (i := 0) (x := (some 2)) 0 rfl d_W_law_25 ?_
  refine r_slen rfl d_W_law_26 ?_
  refine r_bipush (v := (6 : Int32)) (by decide) d_W_law_27 ?_
  refine r_isub d_W_law_29 ?_
  refine r_icmp_gt (tgt := 2031) d_W_law_30 rfl (fun c => ?_) (fun c => ?_)
  · replace h := kr_ip c h
    refine r_iconst (v := (1 : Int32)) (by decide) d_W_law_2031 ?_
    cases h
    exact r_zret rfl rfl d_W_law_2032
  · replace h := kr_in_ c h
    refine r_aload_n (i := 0) (x := (some 2)) 0 rfl d_W_law_33 ?_
    refine r_iload (i := 4) (x := x4) 4 rfl d_W_law_34 ?_
    have h2 := kr_ob h
    clear h
    obtain ⟨v414, ev414, h⟩ := h2
    refine r_sload rfl ev414 d_W_law_36 ?_
    refine r_bipush (v := (63 : Int32)) (by decide) d_W_law_37 ?_
    refine r_iand d_W_law_39 ?_
    have h2 := kr_ob h
    clear h
    obtain ⟨i415, ei415, h⟩ := h2
    refine kr_nmI ei415 ?_
    by_cases c0 : i415 = (0 : Int32)
    · replace h := kr_ip c0 h
      refine r_tableIn (x := i415) (tgt := 260) d_W_law_40 (by rw [c0]; decide) (by rw [c0]; decide) (by rw [c0]; rfl) rfl ?_
      exact kr_sub [0, 1, 2, 3, 4] rfl (s_W_law_B260 hk23 h)
    replace h := kr_in_ c0 h
    by_cases c1 : i415 = (1 : Int32)
    · replace h := kr_ip c1 h
      refine r_tableIn (x := i415) (tgt := 288) d_W_law_40 (by rw [c1]; decide) (by rw [c1]; decide) (by rw [c1]; rfl) rfl ?_
      exact kr_sub [0, 1, 2, 3, 4] rfl (s_W_law_B288 hk23 h)
    replace h := kr_in_ c1 h
    by_cases c2 : i415 = (2 : Int32)
    · replace h := kr_ip c2 h
      refine r_tableIn (x := i415) (tgt := 328) d_W_law_40 (by rw [c2]; decide) (by rw [c2]; decide) (by rw [c2]; rfl) rfl ?_
      exact kr_sub [0, 1, 2, 3, 4] rfl (s_W_law_B328 hk23 h)
    replace h := kr_in_ c2 h
    by_cases c3 : i415 = (3 : Int32)
    · replace h := kr_ip c3 h
      refine r_tableIn (x := i415) (tgt := 368) d_W_law_40 (by rw [c3]; decide) (by rw [c3]; decide) (by rw [c3]; rfl) rfl ?_
      exact kr_sub [0, 1, 2, 3, 4] rfl (s_W_law_B368 hk23 h)
    replace h := kr_in_ c3 h
    by_cases c4 : i415 = (4 : Int32)
    · replace h := kr_ip c4 h
      refine r_tableIn (x := i415) (tgt := 444) d_W_law_40 (by rw [c4]; decide) (by rw [c4]; decide) (by rw [c4]; rfl) rfl ?_
      exact kr_sub [0, 1, 2, 3, 4] rfl (s_W_law_B444 hk23 h)
    replace h := kr_in_ c4 h
    by_cases c5 : i415 = (5 : Int32)
    · replace h := kr_ip c5 h
      refine r_tableIn (x := i415) (tgt := 457) d_W_law_40 (by rw [c5]; decide) (by rw [c5]; decide) (by rw [c5]; rfl) rfl ?_
      exact kr_sub [0, 1, 2, 3, 4] rfl (s_W_law_B457 hk23 h)
    replace h := kr_in_ c5 h
    by_cases c6 : i415 = (6 : Int32)
    · replace h := kr_ip c6 h
      refine r_tableIn (x := i415) (tgt := 473) d_W_law_40 (by rw [c6]; decide) (by rw [c6]; decide) (by rw [c6]; rfl) rfl ?_
      exact kr_sub [0, 1, 2, 3, 4] rfl (s_W_law_B473 hk23 h)
    replace h := kr_in_ c6 h
    by_cases c7 : i415 = (7 : Int32)
    · replace h := kr_ip c7 h
      refine r_tableIn (x := i415) (tgt := 501) d_W_law_40 (by rw [c7]; decide) (by rw [c7]; decide) (by rw [c7]; rfl) rfl ?_
      exact kr_sub [0, 1, 2, 3, 4] rfl (s_W_law_B501 hk23 h)
    replace h := kr_in_ c7 h
    by_cases c8 : i415 = (8 : Int32)
    · replace h := kr_ip c8 h
      refine r_tableIn (x := i415) (tgt := 569) d_W_law_40 (by rw [c8]; decide) (by rw [c8]; decide) (by rw [c8]; rfl) rfl ?_
      exact kr_sub [0, 1, 2, 3, 4] rfl (s_W_law_B569 hk23 h)
    replace h := kr_in_ c8 h
    by_cases c9 : i415 = (9 : Int32)
    · replace h := kr_ip c9 h
      refine r_tableIn (x := i415) (tgt := 621) d_W_law_40 (by rw [c9]; decide) (by rw [c9]; decide) (by rw [c9]; rfl) rfl ?_
      exact kr_sub [0, 1, 2, 3, 4] rfl (s_W_law_B621 hk23 h)
    replace h := kr_in_ c9 h
    by_cases c10 : i415 = (10 : Int32)
    · replace h := kr_ip c10 h
      refine r_tableIn (x := i415) (tgt := 689) d_W_law_40 (by rw [c10]; decide) (by rw [c10]; decide) (by rw [c10]; rfl) rfl ?_
      exact kr_sub [0, 1, 2, 3, 4] rfl (s_W_law_B689 hk23 h)
    replace h := kr_in_ c10 h
    by_cases c11 : i415 = (11 : Int32)
    · replace h := kr_ip c11 h
      refine r_tableIn (x := i415) (tgt := 717) d_W_law_40 (by rw [c11]; decide) (by rw [c11]; decide) (by rw [c11]; rfl) rfl ?_
      exact kr_sub [0, 1, 2, 3, 4] rfl (s_W_law_B717 hk23 h)
    replace h := kr_in_ c11 h
    by_cases c12 : i415 = (12 : Int32)
    · replace h := kr_ip c12 h
      refine r_tableIn (x := i415) (tgt := 745) d_W_law_40 (by rw [c12]; decide) (by rw [c12]; decide) (by rw [c12]; rfl) rfl ?_
      exact kr_sub [0, 1, 2, 3, 4] rfl (s_W_law_B745 hk23 h)
    replace h := kr_in_ c12 h
    by_cases c13 : i415 = (13 : Int32)
    · replace h := kr_ip c13 h
      refine r_tableIn (x := i415) (tgt := 773) d_W_law_40 (by rw [c13]; decide) (by rw [c13]; decide) (by rw [c13]; rfl) rfl ?_
      exact kr_sub [0, 1, 2, 3, 4] rfl (s_W_law_B773 hk23 h)
    replace h := kr_in_ c13 h
    by_cases c14 : i415 = (14 : Int32)
    · replace h := kr_ip c14 h
      refine r_tableIn (x := i415) (tgt := 801) d_W_law_40 (by rw [c14]; decide) (by rw [c14]; decide) (by rw [c14]; rfl) rfl ?_
      exact kr_sub [0, 1, 2, 3, 4] rfl (s_W_law_B801 hk23 h)
    replace h := kr_in_ c14 h
    by_cases c15 : i415 = (15 : Int32)
    · replace h := kr_ip c15 h
      refine r_tableIn (x := i415) (tgt := 829) d_W_law_40 (by rw [c15]; decide) (by rw [c15]; decide) (by rw [c15]; rfl) rfl ?_
      exact kr_sub [0, 1, 2, 3, 4] rfl (s_W_law_B829 hk23 h)
    replace h := kr_in_ c15 h
    by_cases c16 : i415 = (16 : Int32)
    · replace h := kr_ip c16 h
      refine r_tableIn (x := i415) (tgt := 842) d_W_law_40 (by rw [c16]; decide) (by rw [c16]; decide) (by rw [c16]; rfl) rfl ?_
      exact kr_sub [0, 1, 2, 3, 4] rfl (s_W_law_B842 hk23 h)
    replace h := kr_in_ c16 h
    by_cases c17 : i415 = (17 : Int32)
    · replace h := kr_ip c17 h
      refine r_tableIn (x := i415) (tgt := 870) d_W_law_40 (by rw [c17]; decide) (by rw [c17]; decide) (by rw [c17]; rfl) rfl ?_
      exact kr_sub [0, 1, 2, 3, 4] rfl (s_W_law_B870 hk23 h)
    replace h := kr_in_ c17 h
    by_cases c18 : i415 = (18 : Int32)
    · replace h := kr_ip c18 h
      refine r_tableIn (x := i415) (tgt := 898) d_W_law_40 (by rw [c18]; decide) (by rw [c18]; decide) (by rw [c18]; rfl) rfl ?_
      exact kr_sub [0, 1, 2, 3, 4] rfl (s_W_law_B898 hk23 h)
    replace h := kr_in_ c18 h
    by_cases c19 : i415 = (19 : Int32)
    · replace h := kr_ip c19 h
      refine r_tableIn (x := i415) (tgt := 926) d_W_law_40 (by rw [c19]; decide) (by rw [c19]; decide) (by rw [c19]; rfl) rfl ?_
      exact kr_sub [0, 1, 2, 3, 4] rfl (s_W_law_B926 hk23 h)
    replace h := kr_in_ c19 h
    by_cases c20 : i415 = (20 : Int32)
    · replace h := kr_ip c20 h
      refine r_tableIn (x := i415) (tgt := 1006) d_W_law_40 (by rw [c20]; decide) (by rw [c20]; decide) (by rw [c20]; rfl) rfl ?_
      exact kr_sub [0, 1, 2, 3, 4] rfl (s_W_law_B1006 hk23 h)
    replace h := kr_in_ c20 h
    by_cases c21 : i415 = (21 : Int32)
    · replace h := kr_ip c21 h
      refine r_tableIn (x := i415) (tgt := 1034) d_W_law_40 (by rw [c21]; decide) (by rw [c21]; decide) (by rw [c21]; rfl) rfl ?_
      exact kr_sub [0, 1, 2, 3, 4] rfl (s_W_law_B1034 hk23 h)
    replace h := kr_in_ c21 h
    by_cases c22 : i415 = (22 : Int32)
    · replace h := kr_ip c22 h
      refine r_tableIn (x := i415) (tgt := 1062) d_W_law_40 (by rw [c22]; decide) (by rw [c22]; decide) (by rw [c22]; rfl) rfl ?_
      exact kr_sub [0, 1, 2, 3, 4] rfl (s_W_law_B1062 hk23 h)
    replace h := kr_in_ c22 h
    by_cases c23 : i415 = (23 : Int32)
    · replace h := kr_ip c23 h
      refine r_tableIn (x := i415) (tgt := 1102) d_W_law_40 (by rw [c23]; decide) (by rw [c23]; decide) (by rw [c23]; rfl) rfl ?_
      exact kr_sub [0, 1, 2, 3, 4] rfl (s_W_law_B1102 hk23 h)
    replace h := kr_in_ c23 h
    by_cases c24 : i415 = (24 : Int32)
    · replace h := kr_ip c24 h
      refine r_tableIn (x := i415) (tgt := 1154) d_W_law_40 (by rw [c24]; decide) (by rw [c24]; decide) (by rw [c24]; rfl) rfl ?_
      exact kr_sub [0, 1, 2, 3, 4] rfl (s_W_law_B1154 hk23 h)
    replace h := kr_in_ c24 h
    by_cases c25 : i415 = (25 : Int32)
    · replace h := kr_ip c25 h
      refine r_tableIn (x := i415) (tgt := 1194) d_W_law_40 (by rw [c25]; decide) (by rw [c25]; decide) (by rw [c25]; rfl) rfl ?_
      exact kr_sub [0, 1, 2, 3, 4] rfl (s_W_law_B1194 hk23 h)
    replace h := kr_in_ c25 h
    by_cases c26 : i415 = (26 : Int32)
    · replace h := kr_ip c26 h
      refine r_tableIn (x := i415) (tgt := 1234) d_W_law_40 (by rw [c26]; decide) (by rw [c26]; decide) (by rw [c26]; rfl) rfl ?_
      exact kr_sub [0, 1, 2, 3, 4] rfl (s_W_law_B1234 hk23 h)
    replace h := kr_in_ c26 h
    by_cases c27 : i415 = (27 : Int32)
    · replace h := kr_ip c27 h
      refine r_tableIn (x := i415) (tgt := 1298) d_W_law_40 (by rw [c27]; decide) (by rw [c27]; decide) (by rw [c27]; rfl) rfl ?_
      exact kr_sub [0, 1, 2, 3, 4] rfl (s_W_law_B1298 hk23 h)
    replace h := kr_in_ c27 h
    by_cases c28 : i415 = (28 : Int32)
    · replace h := kr_ip c28 h
      refine r_tableIn (x := i415) (tgt := 1326) d_W_law_40 (by rw [c28]; decide) (by rw [c28]; decide) (by rw [c28]; rfl) rfl ?_
      exact kr_sub [0, 1, 2, 3, 4] rfl (s_W_law_B1326 hk23 h)
    replace h := kr_in_ c28 h
    by_cases c29 : i415 = (29 : Int32)
    · replace h := kr_ip c29 h
      refine r_tableIn (x := i415) (tgt := 1366) d_W_law_40 (by rw [c29]; decide) (by rw [c29]; decide) (by rw [c29]; rfl) rfl ?_
      exact kr_sub [0, 1, 2, 3, 4] rfl (s_W_law_B1366 hk23 h)
    replace h := kr_in_ c29 h
    by_cases c30 : i415 = (30 : Int32)
    · replace h := kr_ip c30 h
      refine r_tableIn (x := i415) (tgt := 1394) d_W_law_40 (by rw [c30]; decide) (by rw [c30]; decide) (by rw [c30]; rfl) rfl ?_
      exact kr_sub [0, 1, 2, 3, 4] rfl (s_W_law_B1394 hk23 h)
    replace h := kr_in_ c30 h
    by_cases c31 : i415 = (31 : Int32)
    · replace h := kr_ip c31 h
      refine r_tableIn (x := i415) (tgt := 1422) d_W_law_40 (by rw [c31]; decide) (by rw [c31]; decide) (by rw [c31]; rfl) rfl ?_
      exact kr_sub [0, 1, 2, 3, 4] rfl (s_W_law_B1422 hk23 h)
    replace h := kr_in_ c31 h
    by_cases c32 : i415 = (32 : Int32)
    · replace h := kr_ip c32 h
      refine r_tableIn (x := i415) (tgt := 1474) d_W_law_40 (by rw [c32]; decide) (by rw [c32]; decide) (by rw [c32]; rfl) rfl ?_
      exact kr_sub [0, 1, 2, 3, 4] rfl (s_W_law_B1474 hk23 h)
    replace h := kr_in_ c32 h
    by_cases c33 : i415 = (33 : Int32)
    · replace h := kr_ip c33 h
      refine r_tableIn (x := i415) (tgt := 1502) d_W_law_40 (by rw [c33]; decide) (by rw [c33]; decide) (by rw [c33]; rfl) rfl ?_
      exact kr_sub [0, 1, 2, 3, 4] rfl (s_W_law_B1502 hk23 h)
    replace h := kr_in_ c33 h
    by_cases c34 : i415 = (34 : Int32)
    · replace h := kr_ip c34 h
      refine r_tableIn (x := i415) (tgt := 1518) d_W_law_40 (by rw [c34]; decide) (by rw [c34]; decide) (by rw [c34]; rfl) rfl ?_
      exact kr_sub [0, 1, 2, 3, 4] rfl (s_W_law_B1518 hk23 h)
    replace h := kr_in_ c34 h
    by_cases c35 : i415 = (35 : Int32)
    · replace h := kr_ip c35 h
      refine r_tableIn (x := i415) (tgt := 1534) d_W_law_40 (by rw [c35]; decide) (by rw [c35]; decide) (by rw [c35]; rfl) rfl ?_
      exact kr_sub [0, 1, 2, 3, 4] rfl (s_W_law_B1534 hk23 h)
    replace h := kr_in_ c35 h
    by_cases c36 : i415 = (36 : Int32)
    · replace h := kr_ip c36 h
      refine r_tableIn (x := i415) (tgt := 1547) d_W_law_40 (by rw [c36]; decide) (by rw [c36]; decide) (by rw [c36]; rfl) rfl ?_
      exact kr_sub [0, 1, 2, 3, 4] rfl (s_W_law_B1547 hk23 h)
    replace h := kr_in_ c36 h
    by_cases c37 : i415 = (37 : Int32)
    · replace h := kr_ip c37 h
      refine r_tableIn (x := i415) (tgt := 1575) d_W_law_40 (by rw [c37]; decide) (by rw [c37]; decide) (by rw [c37]; rfl) rfl ?_
      exact kr_sub [0, 1, 2, 3, 4] rfl (s_W_law_B1575 hk23 h)
    replace h := kr_in_ c37 h
    by_cases c38 : i415 = (38 : Int32)
    · replace h := kr_ip c38 h
      refine r_tableIn (x := i415) (tgt := 1603) d_W_law_40 (by rw [c38]; decide) (by rw [c38]; decide) (by rw [c38]; rfl) rfl ?_
      exact kr_sub [0, 1, 2, 3, 4] rfl (s_W_law_B1603 hk23 h)
    replace h := kr_in_ c38 h
    by_cases c39 : i415 = (39 : Int32)
    · replace h := kr_ip c39 h
      refine r_tableIn (x := i415) (tgt := 1655) d_W_law_40 (by rw [c39]; decide) (by rw [c39]; decide) (by rw [c39]; rfl) rfl ?_
      exact kr_sub [0, 1, 2, 3, 4] rfl (s_W_law_B1655 hk23 h)
    replace h := kr_in_ c39 h
    by_cases c40 : i415 = (40 : Int32)
    · replace h := kr_ip c40 h
      refine r_tableIn (x := i415) (tgt := 1683) d_W_law_40 (by rw [c40]; decide) (by rw [c40]; decide) (by rw [c40]; rfl) rfl ?_
      exact kr_sub [0, 1, 2, 3, 4] rfl (s_W_law_B1683 hk23 h)
    replace h := kr_in_ c40 h
    by_cases c41 : i415 = (41 : Int32)
    · replace h := kr_ip c41 h
      refine r_tableIn (x := i415) (tgt := 1711) d_W_law_40 (by rw [c41]; decide) (by rw [c41]; decide) (by rw [c41]; rfl) rfl ?_
      exact kr_sub [0, 1, 2, 3, 4] rfl (s_W_law_B1711 hk23 h)
    replace h := kr_in_ c41 h
    by_cases c42 : i415 = (42 : Int32)
    · replace h := kr_ip c42 h
      refine r_tableIn (x := i415) (tgt := 1751) d_W_law_40 (by rw [c42]; decide) (by rw [c42]; decide) (by rw [c42]; rfl) rfl ?_
      exact kr_sub [0, 1, 2, 3, 4] rfl (s_W_law_B1751 hk23 h)
    replace h := kr_in_ c42 h
    by_cases c43 : i415 = (43 : Int32)
    · replace h := kr_ip c43 h
      refine r_tableIn (x := i415) (tgt := 1791) d_W_law_40 (by rw [c43]; decide) (by rw [c43]; decide) (by rw [c43]; rfl) rfl ?_
      exact kr_sub [0, 1, 2, 3, 4] rfl (s_W_law_B1791 hk23 h)
    replace h := kr_in_ c43 h
    by_cases c44 : i415 = (44 : Int32)
    · replace h := kr_ip c44 h
      refine r_tableIn (x := i415) (tgt := 1819) d_W_law_40 (by rw [c44]; decide) (by rw [c44]; decide) (by rw [c44]; rfl) rfl ?_
      exact kr_sub [0, 1, 2, 3, 4] rfl (s_W_law_B1819 hk23 h)
    replace h := kr_in_ c44 h
    by_cases c45 : i415 = (45 : Int32)
    · replace h := kr_ip c45 h
      refine r_tableIn (x := i415) (tgt := 1887) d_W_law_40 (by rw [c45]; decide) (by rw [c45]; decide) (by rw [c45]; rfl) rfl ?_
      exact kr_sub [0, 1, 2, 3, 4] rfl (s_W_law_B1887 hk23 h)
    replace h := kr_in_ c45 h
    by_cases c46 : i415 = (46 : Int32)
    · replace h := kr_ip c46 h
      refine r_tableIn (x := i415) (tgt := 1915) d_W_law_40 (by rw [c46]; decide) (by rw [c46]; decide) (by rw [c46]; rfl) rfl ?_
      exact kr_sub [0, 1, 2, 3, 4] rfl (s_W_law_B1915 hk23 h)
    replace h := kr_in_ c46 h
    by_cases c47 : i415 = (47 : Int32)
    · replace h := kr_ip c47 h
      refine r_tableIn (x := i415) (tgt := 1943) d_W_law_40 (by rw [c47]; decide) (by rw [c47]; decide) (by rw [c47]; rfl) rfl ?_
      exact kr_sub [0, 1, 2, 3, 4] rfl (s_W_law_B1943 hk23 h)
    replace h := kr_in_ c47 h
    by_cases c48 : i415 = (48 : Int32)
    · replace h := kr_ip c48 h
      refine r_tableIn (x := i415) (tgt := 1956) d_W_law_40 (by rw [c48]; decide) (by rw [c48]; decide) (by rw [c48]; rfl) rfl ?_
      exact kr_sub [0, 1, 2, 3, 4] rfl (s_W_law_B1956 hk23 h)
    replace h := kr_in_ c48 h
    by_cases c49 : i415 = (49 : Int32)
    · replace h := kr_ip c49 h
      refine r_tableIn (x := i415) (tgt := 1984) d_W_law_40 (by rw [c49]; decide) (by rw [c49]; decide) (by rw [c49]; rfl) rfl ?_
      exact kr_sub [0, 1, 2, 3, 4] rfl (s_W_law_B1984 hk23 h)
    replace h := kr_in_ c49 h
    by_cases c50 : i415 = (50 : Int32)
    · replace h := kr_ip c50 h
      refine r_tableIn (x := i415) (tgt := 1997) d_W_law_40 (by rw [c50]; decide) (by rw [c50]; decide) (by rw [c50]; rfl) rfl ?_
      exact kr_sub [0, 1, 2, 3, 4] rfl (s_W_law_B1997 hk23 h)
    replace h := kr_in_ c50 h
    refine r_tableOut (x := i415) (tgt := 2025) d_W_law_40 (kr_tab (lo := 0) (n := 51) (by decide) (by intro j hj; rcases (show j = 0 ∨ j = 1 ∨ j = 2 ∨ j = 3 ∨ j = 4 ∨ j = 5 ∨ j = 6 ∨ j = 7 ∨ j = 8 ∨ j = 9 ∨ j = 10 ∨ j = 11 ∨ j = 12 ∨ j = 13 ∨ j = 14 ∨ j = 15 ∨ j = 16 ∨ j = 17 ∨ j = 18 ∨ j = 19 ∨ j = 20 ∨ j = 21 ∨ j = 22 ∨ j = 23 ∨ j = 24 ∨ j = 25 ∨ j = 26 ∨ j = 27 ∨ j = 28 ∨ j = 29 ∨ j = 30 ∨ j = 31 ∨ j = 32 ∨ j = 33 ∨ j = 34 ∨ j = 35 ∨ j = 36 ∨ j = 37 ∨ j = 38 ∨ j = 39 ∨ j = 40 ∨ j = 41 ∨ j = 42 ∨ j = 43 ∨ j = 44 ∨ j = 45 ∨ j = 46 ∨ j = 47 ∨ j = 48 ∨ j = 49 ∨ j = 50 by omega) with rfl | rfl | rfl | rfl | rfl | rfl | rfl | rfl | rfl | rfl | rfl | rfl | rfl | rfl | rfl | rfl | rfl | rfl | rfl | rfl | rfl | rfl | rfl | rfl | rfl | rfl | rfl | rfl | rfl | rfl | rfl | rfl | rfl | rfl | rfl | rfl | rfl | rfl | rfl | rfl | rfl | rfl | rfl | rfl | rfl | rfl | rfl | rfl | rfl | rfl | rfl <;> first | exact c0 | exact c1 | exact c2 | exact c3 | exact c4 | exact c5 | exact c6 | exact c7 | exact c8 | exact c9 | exact c10 | exact c11 | exact c12 | exact c13 | exact c14 | exact c15 | exact c16 | exact c17 | exact c18 | exact c19 | exact c20 | exact c21 | exact c22 | exact c23 | exact c24 | exact c25 | exact c26 | exact c27 | exact c28 | exact c29 | exact c30 | exact c31 | exact c32 | exact c33 | exact c34 | exact c35 | exact c36 | exact c37 | exact c38 | exact c39 | exact c40 | exact c41 | exact c42 | exact c43 | exact c44 | exact c45 | exact c46 | exact c47 | exact c48 | exact c49 | exact c50)) rfl ?_
    exact kr_sub [0, 1, 2, 3, 4] rfl (s_W_law_B2025 hk23 h)
theorem s_W_law_L23 {X : Nat → Int32} {L : Nat} (n : Nat) : ∀ {S : AS} {x1 : Option Nat} {x2 : Option Nat} {x3 : Option Nat} {x4 : Int32} {r : (Int32 × AS)}, f_W_law_L23 X L n S x1 x2 x3 x4 = some r → kr_AW (m_W_law X L) 15 23 [(0, va_rf (some 2)), (1, va_rf x1), (2, va_rf x2), (3, va_rf x3), (4, .int x4)] [] S (kr_eI r) := by
  induction n with
  | zero => intro S x1 x2 x3 x4 r h; cases h
  | succ n ih => intro S x1 x2 x3 x4 r h; exact s_W_law_C23 (fun {_} {_} {_} {_} {_} {_} h => ih h) h
set_option maxRecDepth 20000 in
set_option maxHeartbeats 4000000 in
theorem s_W_law {X : Nat → Int32} {L : Nat} {S : AS} {r : (Int32 × AS)} (h : f_W_law X L S = some r) : kr_AW (m_W_law X L) 15 0 [(0, va_rf (some 2))] [] S (kr_eI r) := by
  unfold f_W_law at h
  have h2 := kr_ob h
  clear h
  obtain ⟨S416, eS416, h⟩ := h2
  refine r_newO_ (κ := 22) eS416 (by decide) w104 w105 w75 d_W_law_0 ?_
  refine r_dup (kr_rfcat _) d_W_law_3 ?_
  have h2 := kr_ob h
  clear h
  obtain ⟨S417, eS417, h⟩ := h2
  refine r_callI (M1 := m_K_init) (As := []) (s_K_init eS417) mok_K_init rfl rfl rfl w106 w107 (by decide) (kr_c8 (kr_cR kr_c0)) d_W_law_4 (kr_k0 ?_) kr_kn
  refine r_astore_n (i := 1) (lv' := [(1, va_rf (some (sN S))), (0, va_rf (some 2))]) (by show (1 : Nat) < 7; decide) (by show kr_st _ 1 _ = _; simp [kr_st, kr_rfcat, kr_icat]) d_W_law_7 ?_
  have h2 := kr_ob h
  clear h
  obtain ⟨S418, eS418, h⟩ := h2
  refine r_newO_ (κ := 23) eS418 (by decide) w1431 w1432 w84 d_W_law_8 ?_
  refine r_dup (kr_rfcat _) d_W_law_11 ?_
  have h2 := kr_ob h
  clear h
  obtain ⟨S419, eS419, h⟩ := h2
  refine r_callI (M1 := m_M_init) (As := []) (s_M_init eS419) mok_M_init rfl rfl rfl w1433 w1434 (by decide) (kr_c8 (kr_cR kr_c0)) d_W_law_12 (kr_k0 ?_) kr_kn
  refine r_astore_n (i := 2) (lv' := [(2, va_rf (some (sN S417))), (1, va_rf (some (sN S))), (0, va_rf (some 2))]) (by show (2 : Nat) < 7; decide) (by show kr_st _ 2 _ = _; simp [kr_st, kr_rfcat, kr_icat]) d_W_law_15 ?_
  refine r_iconst (v := (1 : Int32)) (by decide) d_W_law_16 ?_
  have h2 := kr_ob h
  clear h
  obtain ⟨S420, eS420, h⟩ := h2
  refine r_newJ eS420 w2052 d_W_law_17 ?_
  refine r_astore_n (i := 3) (lv' := [(3, va_rf (some (sN S419))), (2, va_rf (some (sN S417))), (1, va_rf (some (sN S))), (0, va_rf (some 2))]) (by show (3 : Nat) < 7; decide) (by show kr_st _ 3 _ = _; simp [kr_st, kr_rfcat, kr_icat]) d_W_law_19 ?_
  refine r_iconst (v := (0 : Int32)) (by decide) d_W_law_20 ?_
  refine r_istore (i := 4) (lv' := [(4, .int (0 : Int32)), (3, va_rf (some (sN S419))), (2, va_rf (some (sN S417))), (1, va_rf (some (sN S))), (0, va_rf (some 2))]) (by show (4 : Nat) < 7; decide) (by show kr_st _ 4 _ = _; simp [kr_st, kr_rfcat, kr_icat]) d_W_law_21 ?_
  exact kr_sub [4, 3, 2, 1, 0] rfl (s_W_law_L23 kr_FU h)
