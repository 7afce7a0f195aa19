/-! KeyringCourtModel.<init>()V -/
def f_M_init_C678 (k678 : AS → Option Nat → Int32 → Option AS) (S : AS) (x0 : Option Nat) (x1 : Int32) : Option AS :=
  if (6 : Int32) ≤ x1 then
  some S
  else
  (gR S 23 76 x0).bind fun v1 =>
  (bI S v1 x1 (-1 : Int32)).bind fun S2 =>
  (some (x1 + (1 : Int32))).bind fun i3 =>
  k678 S2 x0 i3
def f_M_init_L678 : Nat → AS → Option Nat → Int32 → Option AS
  | 0, S, x0, x1 => none
  | n + 1, S, x0, x1 => f_M_init_C678 (f_M_init_L678 n) S x0 x1
def f_M_init_C657 (k657 : AS → Option Nat → Int32 → Option AS) (S : AS) (x0 : Option Nat) (x1 : Int32) : Option AS :=
  if (20 : Int32) ≤ x1 then
  f_M_init_L678 kr_FU S x0 (0 : Int32)
  else
  (gR S 23 65 x0).bind fun v4 =>
  (bI S v4 x1 (-1 : Int32)).bind fun S5 =>
  (some (x1 + (1 : Int32))).bind fun i6 =>
  k657 S5 x0 i6
def f_M_init_L657 : Nat → AS → Option Nat → Int32 → Option AS
  | 0, S, x0, x1 => none
  | n + 1, S, x0, x1 => f_M_init_C657 (f_M_init_L657 n) S x0 x1
def f_M_init_C637 (k637 : AS → Option Nat → Int32 → Option AS) (S : AS) (x0 : Option Nat) (x1 : Int32) : Option AS :=
  if (4 : Int32) ≤ x1 then
  f_M_init_L657 kr_FU S x0 (0 : Int32)
  else
  (gR S 23 67 x0).bind fun v7 =>
  (bI S v7 x1 (1 : Int32)).bind fun S8 =>
  (some (x1 + (1 : Int32))).bind fun i9 =>
  k637 S8 x0 i9
def f_M_init_L637 : Nat → AS → Option Nat → Int32 → Option AS
  | 0, S, x0, x1 => none
  | n + 1, S, x0, x1 => f_M_init_C637 (f_M_init_L637 n) S x0 x1
def f_M_init_C617 (k617 : AS → Option Nat → Int32 → Option AS) (S : AS) (x0 : Option Nat) (x1 : Int32) : Option AS :=
  if (3 : Int32) ≤ x1 then
  f_M_init_L637 kr_FU S x0 (0 : Int32)
  else
  (gR S 23 18 x0).bind fun v10 =>
  (bI S v10 x1 (-1 : Int32)).bind fun S11 =>
  (some (x1 + (1 : Int32))).bind fun i12 =>
  k617 S11 x0 i12
def f_M_init_L617 : Nat → AS → Option Nat → Int32 → Option AS
  | 0, S, x0, x1 => none
  | n + 1, S, x0, x1 => f_M_init_C617 (f_M_init_L617 n) S x0 x1
def f_M_init_C573 (k573 : AS → Option Nat → Int32 → Option AS) (S : AS) (x0 : Option Nat) (x1 : Int32) : Option AS :=
  if (18 : Int32) ≤ x1 then
  (gR S 23 17 x0).bind fun v13 =>
  (bI S v13 (0 : Int32) (2 : Int32)).bind fun S14 =>
  (gR S14 23 17 x0).bind fun v15 =>
  (bI S14 v15 (1 : Int32) (1 : Int32)).bind fun S16 =>
  (gR S16 23 17 x0).bind fun v17 =>
  (bI S16 v17 (2 : Int32) (1 : Int32)).bind fun S18 =>
  f_M_init_L617 kr_FU S18 x0 (0 : Int32)
  else
  (gR S 23 4 x0).bind fun v19 =>
  (bI S v19 x1 (-1000 : Int32)).bind fun S20 =>
  (some (x1 + (1 : Int32))).bind fun i21 =>
  k573 S20 x0 i21
def f_M_init_L573 : Nat → AS → Option Nat → Int32 → Option AS
  | 0, S, x0, x1 => none
  | n + 1, S, x0, x1 => f_M_init_C573 (f_M_init_L573 n) S x0 x1
def f_M_init (S : AS) (a0 : Option Nat) : Option AS :=
  (a0).bind fun k22 =>
  (nA S 40 (18 : Int32)).bind fun S23 =>
  (pR S23 23 1 (some k22) (some (sN S))).bind fun S24 =>
  (nA S24 40 (18 : Int32)).bind fun S25 =>
  (pR S25 23 2 (some k22) (some (sN S24))).bind fun S26 =>
  (nA S26 40 (6 : Int32)).bind fun S27 =>
  (pR S27 23 3 (some k22) (some (sN S26))).bind fun S28 =>
  (nA S28 40 (18 : Int32)).bind fun S29 =>
  (pR S29 23 4 (some k22) (some (sN S28))).bind fun S30 =>
  (nA S30 41 (36 : Int32)).bind fun S31 =>
  (pR S31 23 5 (some k22) (some (sN S30))).bind fun S32 =>
  (nA S32 41 (36 : Int32)).bind fun S33 =>
  (pR S33 23 6 (some k22) (some (sN S32))).bind fun S34 =>
  (nA S34 41 (6 : Int32)).bind fun S35 =>
  (pR S35 23 7 (some k22) (some (sN S34))).bind fun S36 =>
  (nA S36 41 (6 : Int32)).bind fun S37 =>
  (pR S37 23 8 (some k22) (some (sN S36))).bind fun S38 =>
  (nA S38 40 (9 : Int32)).bind fun S39 =>
  (pR S39 23 10 (some k22) (some (sN S38))).bind fun S40 =>
  (nA S40 40 (108 : Int32)).bind fun S41 =>
  (pR S41 23 11 (some k22) (some (sN S40))).bind fun S42 =>
  (nA S42 40 (108 : Int32)).bind fun S43 =>
  (pR S43 23 12 (some k22) (some (sN S42))).bind fun S44 =>
  (nA S44 40 (108 : Int32)).bind fun S45 =>
  (pR S45 23 13 (some k22) (some (sN S44))).bind fun S46 =>
  (nA S46 40 (108 : Int32)).bind fun S47 =>
  (pR S47 23 14 (some k22) (some (sN S46))).bind fun S48 =>
  (nA S48 40 (108 : Int32)).bind fun S49 =>
  (pR S49 23 15 (some k22) (some (sN S48))).bind fun S50 =>
  (nA S50 41 (96 : Int32)).bind fun S51 =>
  (pR S51 23 16 (some k22) (some (sN S50))).bind fun S52 =>
  (nA S52 40 (3 : Int32)).bind fun S53 =>
  (pR S53 23 17 (some k22) (some (sN S52))).bind fun S54 =>
  (nA S54 40 (3 : Int32)).bind fun S55 =>
  (pR S55 23 18 (some k22) (some (sN S54))).bind fun S56 =>
  (nA S56 40 (60 : Int32)).bind fun S57 =>
  (pR S57 23 20 (some k22) (some (sN S56))).bind fun S58 =>
  (nA S58 40 (60 : Int32)).bind fun S59 =>
  (pR S59 23 21 (some k22) (some (sN S58))).bind fun S60 =>
  (nA S60 40 (60 : Int32)).bind fun S61 =>
  (pR S61 23 22 (some k22) (some (sN S60))).bind fun S62 =>
  (nA S62 40 (60 : Int32)).bind fun S63 =>
  (pR S63 23 23 (some k22) (some (sN S62))).bind fun S64 =>
  (nA S64 40 (60 : Int32)).bind fun S65 =>
  (pR S65 23 24 (some k22) (some (sN S64))).bind fun S66 =>
  (nA S66 40 (60 : Int32)).bind fun S67 =>
  (pR S67 23 25 (some k22) (some (sN S66))).bind fun S68 =>
  (nA S68 40 (60 : Int32)).bind fun S69 =>
  (pR S69 23 26 (some k22) (some (sN S68))).bind fun S70 =>
  (nA S70 40 (60 : Int32)).bind fun S71 =>
  (pR S71 23 27 (some k22) (some (sN S70))).bind fun S72 =>
  (nA S72 40 (60 : Int32)).bind fun S73 =>
  (pR S73 23 28 (some k22) (some (sN S72))).bind fun S74 =>
  (nA S74 40 (180 : Int32)).bind fun S75 =>
  (pR S75 23 29 (some k22) (some (sN S74))).bind fun S76 =>
  (nA S76 40 (60 : Int32)).bind fun S77 =>
  (pR S77 23 31 (some k22) (some (sN S76))).bind fun S78 =>
  (nA S78 40 (60 : Int32)).bind fun S79 =>
  (pR S79 23 32 (some k22) (some (sN S78))).bind fun S80 =>
  (nA S80 40 (60 : Int32)).bind fun S81 =>
  (pR S81 23 33 (some k22) (some (sN S80))).bind fun S82 =>
  (nA S82 40 (60 : Int32)).bind fun S83 =>
  (pR S83 23 34 (some k22) (some (sN S82))).bind fun S84 =>
  (nA S84 41 (60 : Int32)).bind fun S85 =>
  (pR S85 23 35 (some k22) (some (sN S84))).bind fun S86 =>
  (nA S86 40 (180 : Int32)).bind fun S87 =>
  (pR S87 23 36 (some k22) (some (sN S86))).bind fun S88 =>
  (nA S88 40 (28 : Int32)).bind fun S89 =>
  (pR S89 23 37 (some k22) (some (sN S88))).bind fun S90 =>
  (nA S90 40 (4 : Int32)).bind fun S91 =>
  (pR S91 23 38 (some k22) (some (sN S90))).bind fun S92 =>
  (nA S92 40 (60 : Int32)).bind fun S93 =>
  (pR S93 23 40 (some k22) (some (sN S92))).bind fun S94 =>
  (nA S94 40 (60 : Int32)).bind fun S95 =>
  (pR S95 23 41 (some k22) (some (sN S94))).bind fun S96 =>
  (nA S96 40 (60 : Int32)).bind fun S97 =>
  (pR S97 23 42 (some k22) (some (sN S96))).bind fun S98 =>
  (nA S98 40 (60 : Int32)).bind fun S99 =>
  (pR S99 23 43 (some k22) (some (sN S98))).bind fun S100 =>
  (nA S100 40 (60 : Int32)).bind fun S101 =>
  (pR S101 23 44 (some k22) (some (sN S100))).bind fun S102 =>
  (nA S102 40 (60 : Int32)).bind fun S103 =>
  (pR S103 23 45 (some k22) (some (sN S102))).bind fun S104 =>
  (nA S104 40 (60 : Int32)).bind fun S105 =>
  (pR S105 23 47 (some k22) (some (sN S104))).bind fun S106 =>
  (nA S106 40 (60 : Int32)).bind fun S107 =>
  (pR S107 23 48 (some k22) (some (sN S106))).bind fun S108 =>
  (nA S108 40 (60 : Int32)).bind fun S109 =>
  (pR S109 23 49 (some k22) (some (sN S108))).bind fun S110 =>
  (nA S110 40 (60 : Int32)).bind fun S111 =>
  (pR S111 23 50 (some k22) (some (sN S110))).bind fun S112 =>
  (nA S112 41 (60 : Int32)).bind fun S113 =>
  (pR S113 23 51 (some k22) (some (sN S112))).bind fun S114 =>
  (nA S114 40 (200 : Int32)).bind fun S115 =>
  (pR S115 23 53 (some k22) (some (sN S114))).bind fun S116 =>
  (nA S116 40 (200 : Int32)).bind fun S117 =>
  (pR S117 23 54 (some k22) (some (sN S116))).bind fun S118 =>
  (nA S118 40 (200 : Int32)).bind fun S119 =>
  (pR S119 23 55 (some k22) (some (sN S118))).bind fun S120 =>
  (nA S120 40 (200 : Int32)).bind fun S121 =>
  (pR S121 23 56 (some k22) (some (sN S120))).bind fun S122 =>
  (nA S122 40 (200 : Int32)).bind fun S123 =>
  (pR S123 23 57 (some k22) (some (sN S122))).bind fun S124 =>
  (nA S124 40 (200 : Int32)).bind fun S125 =>
  (pR S125 23 58 (some k22) (some (sN S124))).bind fun S126 =>
  (nA S126 40 (200 : Int32)).bind fun S127 =>
  (pR S127 23 59 (some k22) (some (sN S126))).bind fun S128 =>
  (pI S128 23 60 (some k22) (1 : Int32)).bind fun S129 =>
  (pI S129 23 62 (some k22) (-1 : Int32)).bind fun S130 =>
  (nA S130 41 (20 : Int32)).bind fun S131 =>
  (pR S131 23 64 (some k22) (some (sN S130))).bind fun S132 =>
  (nA S132 40 (20 : Int32)).bind fun S133 =>
  (pR S133 23 65 (some k22) (some (sN S132))).bind fun S134 =>
  (nA S134 41 (4 : Int32)).bind fun S135 =>
  (pR S135 23 66 (some k22) (some (sN S134))).bind fun S136 =>
  (nA S136 40 (4 : Int32)).bind fun S137 =>
  (pR S137 23 67 (some k22) (some (sN S136))).bind fun S138 =>
  (nA S138 40 (4 : Int32)).bind fun S139 =>
  (pR S139 23 68 (some k22) (some (sN S138))).bind fun S140 =>
  (nA S140 41 (240 : Int32)).bind fun S141 =>
  (pR S141 23 69 (some k22) (some (sN S140))).bind fun S142 =>
  (nA S142 40 (20 : Int32)).bind fun S143 =>
  (pR S143 23 71 (some k22) (some (sN S142))).bind fun S144 =>
  (nA S144 40 (20 : Int32)).bind fun S145 =>
  (pR S145 23 72 (some k22) (some (sN S144))).bind fun S146 =>
  (nA S146 41 (20 : Int32)).bind fun S147 =>
  (pR S147 23 73 (some k22) (some (sN S146))).bind fun S148 =>
  (nA S148 40 (20 : Int32)).bind fun S149 =>
  (pR S149 23 74 (some k22) (some (sN S148))).bind fun S150 =>
  (nA S150 40 (20 : Int32)).bind fun S151 =>
  (pR S151 23 75 (some k22) (some (sN S150))).bind fun S152 =>
  (nA S152 40 (6 : Int32)).bind fun S153 =>
  (pR S153 23 76 (some k22) (some (sN S152))).bind fun S154 =>
  (nA S154 40 (1200 : Int32)).bind fun S155 =>
  (pR S155 23 78 (some k22) (some (sN S154))).bind fun S156 =>
  (nA S156 40 (1200 : Int32)).bind fun S157 =>
  (pR S157 23 79 (some k22) (some (sN S156))).bind fun S158 =>
  (nA S158 40 (1200 : Int32)).bind fun S159 =>
  (pR S159 23 80 (some k22) (some (sN S158))).bind fun S160 =>
  (pI S160 23 81 (some k22) (7 : Int32)).bind fun S161 =>
  f_M_init_L573 kr_FU S161 (some k22) (0 : Int32)
set_option maxRecDepth 20000 in
set_option maxHeartbeats 4000000 in
theorem s_M_init_C678 {k678 : AS → Option Nat → Int32 → Option AS} (hk678 : ∀ {S : AS} {x0 : Option Nat} {x1 : Int32} {r : AS}, k678 S x0 x1 = some r → kr_AW m_M_init 1 678 [(0, va_rf x0), (1, .int x1)] [] S (kr_eV r)) {S : AS} {x0 : Option Nat} {x1 : Int32} {r : AS} (h : f_M_init_C678 k678 S x0 x1 = some r) : kr_AW m_M_init 1 678 [(0, va_rf x0), (1, .int x1)] [] S (kr_eV r) := by
  unfold f_M_init_C678 at h
  refine r_iload_n (i := 1) (x := x1) 1 rfl d_M_init_678 ?_
  refine r_bipush (v := (6 : Int32)) (by decide) d_M_init_679 ?_
  refine r_icmp_ge (tgt := 697) d_M_init_681 rfl (fun c => ?_) (fun c => ?_)
  · replace h := kr_ip c h
    cases h
    exact r_vret rfl d_M_init_697
  · replace h := kr_in_ c h
    refine r_aload_n (i := 0) (x := x0) 0 rfl d_M_init_684 ?_
    have h2 := kr_ob h
    clear h
    obtain ⟨v1, ev1, h⟩ := h2
    refine r_getR ev1 fk39 rfl d_M_init_685 ?_
    refine r_iload_n (i := 1) (x := x1) 1 rfl d_M_init_688 ?_
    refine r_iconst (v := (-1 : Int32)) (by decide) d_M_init_689 ?_
    have h2 := kr_ob h
    clear h
    obtain ⟨S2, eS2, h⟩ := h2
    refine r_iastore eS2 d_M_init_690 ?_
    have h2 := kr_ob h
    clear h
    obtain ⟨i3, ei3, h⟩ := h2
    refine r_iinc (v := i3) (lv' := [(1, .int i3), (0, va_rf x0)]) 1 rfl (kr_inc (by decide) ei3) (by decide) (by simp [kr_st, kr_rfcat, kr_icat]) d_M_init_691 ?_
    refine r_goto (tgt := 678) d_M_init_694 rfl ?_
    exact kr_sub [1, 0] rfl (hk678 h)
theorem s_M_init_L678 (n : Nat) : ∀ {S : AS} {x0 : Option Nat} {x1 : Int32} {r : AS}, f_M_init_L678 n S x0 x1 = some r → kr_AW m_M_init 1 678 [(0, va_rf x0), (1, .int x1)] [] S (kr_eV r) := by
  induction n with
  | zero => intro S x0 x1 r h; cases h
  | succ n ih => intro S x0 x1 r h; exact s_M_init_C678 (fun {_} {_} {_} {_} h => ih h) h
set_option maxRecDepth 20000 in
set_option maxHeartbeats 4000000 in
theorem s_M_init_C657 {k657 : AS → Option Nat → Int32 → Option AS} (hk657 : ∀ {S : AS} {x0 : Option Nat} {x1 : Int32} {r : AS}, k657 S x0 x1 = some r → kr_AW m_M_init 1 657 [(0, va_rf x0), (1, .int x1)] [] S (kr_eV r)) {S : AS} {x0 : Option Nat} {x1 : Int32} {r : AS} (h : f_M_init_C657 k657 S x0 x1 = some r) : kr_AW m_M_init 1 657 [(0, va_rf x0), (1, .int x1)] [] S (kr_eV r) := by
  unfold f_M_init_C657 at h
  refine r_iload_n (i := 1) (x := x1) 1 rfl d_M_init_657 ?_
  refine r_bipush (v := (20 : Int32)) (by decide) d_M_init_658 ?_
  refine r_icmp_ge (tgt := 676) d_M_init_660 rfl (fun c => ?_) (fun c => ?_)
  · replace h := kr_ip c h
    refine r_iconst (v := (0 : Int32)) (by decide) d_M_init_676 ?_
    refine r_istore_n (i := 1) (lv' := [(1, .int (0 : Int32)), (0, va_rf x0)]) (by decide) (by show kr_st _ 1 _ = _; simp [kr_st, kr_rfcat, kr_icat]) d_M_init_677 ?_
    exact kr_sub [1, 0] rfl (s_M_init_L678 kr_FU h)
  · replace h := kr_in_ c h
    refine r_aload_n (i := 0) (x := x0) 0 rfl d_M_init_663 ?_
    have h2 := kr_ob h
    clear h
    obtain ⟨v4, ev4, h⟩ := h2
    refine r_getR ev4 fk40 rfl d_M_init_664 ?_
    refine r_iload_n (i := 1) (x := x1) 1 rfl d_M_init_667 ?_
    refine r_iconst (v := (-1 : Int32)) (by decide) d_M_init_668 ?_
    have h2 := kr_ob h
    clear h
    obtain ⟨S5, eS5, h⟩ := h2
    refine r_iastore eS5 d_M_init_669 ?_
    have h2 := kr_ob h
    clear h
    obtain ⟨i6, ei6, h⟩ := h2
    refine r_iinc (v := i6) (lv' := [(1, .int i6), (0, va_rf x0)]) 1 rfl (kr_inc (by decide) ei6) (by decide) (by simp [kr_st, kr_rfcat, kr_icat]) d_M_init_670 ?_
    refine r_goto (tgt := 657) d_M_init_673 rfl ?_
    exact kr_sub [1, 0] rfl (hk657 h)
theorem s_M_init_L657 (n : Nat) : ∀ {S : AS} {x0 : Option Nat} {x1 : Int32} {r : AS}, f_M_init_L657 n S x0 x1 = some r → kr_AW m_M_init 1 657 [(0, va_rf x0), (1, .int x1)] [] S (kr_eV r) := by
  induction n with
  | zero => intro S x0 x1 r h; cases h
  | succ n ih => intro S x0 x1 r h; exact s_M_init_C657 (fun {_} {_} {_} {_} h => ih h) h
set_option maxRecDepth 20000 in
set_option maxHeartbeats 4000000 in
theorem s_M_init_C637 {k637 : AS → Option Nat → Int32 → Option AS} (hk637 : ∀ {S : AS} {x0 : Option Nat} {x1 : Int32} {r : AS}, k637 S x0 x1 = some r → kr_AW m_M_init 1 637 [(0, va_rf x0), (1, .int x1)] [] S (kr_eV r)) {S : AS} {x0 : Option Nat} {x1 : Int32} {r : AS} (h : f_M_init_C637 k637 S x0 x1 = some r) : kr_AW m_M_init 1 637 [(0, va_rf x0), (1, .int x1)] [] S (kr_eV r) := by
  unfold f_M_init_C637 at h
  refine r_iload_n (i := 1) (x := x1) 1 rfl d_M_init_637 ?_
  refine r_iconst (v := (4 : Int32)) (by decide) d_M_init_638 ?_
  refine r_icmp_ge (tgt := 655) d_M_init_639 rfl (fun c => ?_) (fun c => ?_)
  · replace h := kr_ip c h
    refine r_iconst (v := (0 : Int32)) (by decide) d_M_init_655 ?_
    refine r_istore_n (i := 1) (lv' := [(1, .int (0 : Int32)), (0, va_rf x0)]) (by decide) (by show kr_st _ 1 _ = _; simp [kr_st, kr_rfcat, kr_icat]) d_M_init_656 ?_
    exact kr_sub [1, 0] rfl (s_M_init_L657 kr_FU h)
  · replace h := kr_in_ c h
    refine r_aload_n (i := 0) (x := x0) 0 rfl d_M_init_642 ?_
    have h2 := kr_ob h
    clear h
    obtain ⟨v7, ev7, h⟩ := h2
    refine r_getR ev7 fk41 rfl d_M_init_643 ?_
    refine r_iload_n (i := 1) (x := x1) 1 rfl d_M_init_646 ?_
    refine r_iconst (v := (1 : Int32)) (by decide) d_M_init_647 ?_
    have h2 := kr_ob h
    clear h
    obtain ⟨S8, eS8, h⟩ := h2
    refine r_iastore eS8 d_M_init_648 ?_
    have h2 := kr_ob h
    clear h
    obtain ⟨i9, ei9, h⟩ := h2
    refine r_iinc (v := i9) (lv' := [(1, .int i9), (0, va_rf x0)]) 1 rfl (kr_inc (by decide) ei9) (by decide) (by simp [kr_st, kr_rfcat, kr_icat]) d_M_init_649 ?_
    refine r_goto (tgt := 637) d_M_init_652 rfl ?_
    exact kr_sub [1, 0] rfl (hk637 h)
theorem s_M_init_L637 (n : Nat) : ∀ {S : AS} {x0 : Option Nat} {x1 : Int32} {r : AS}, f_M_init_L637 n S x0 x1 = some r → kr_AW m_M_init 1 637 [(0, va_rf x0), (1, .int x1)] [] S (kr_eV r) := by
  induction n with
  | zero => intro S x0 x1 r h; cases h
  | succ n ih => intro S x0 x1 r h; exact s_M_init_C637 (fun {_} {_} {_} {_} h => ih h) h
set_option maxRecDepth 20000 in
set_option maxHeartbeats 4000000 in
theorem s_M_init_C617 {k617 : AS → Option Nat → Int32 → Option AS} (hk617 : ∀ {S : AS} {x0 : Option Nat} {x1 : Int32} {r : AS}, k617 S x0 x1 = some r → kr_AW m_M_init 1 617 [(0, va_rf x0), (1, .int x1)] [] S (kr_eV r)) {S : AS} {x0 : Option Nat} {x1 : Int32} {r : AS} (h : f_M_init_C617 k617 S x0 x1 = some r) : kr_AW m_M_init 1 617 [(0, va_rf x0), (1, .int x1)] [] S (kr_eV r) := by
  unfold f_M_init_C617 at h
  refine r_iload_n (i := 1) (x := x1) 1 rfl d_M_init_617 ?_
  refine r_iconst (v := (3 : Int32)) (by decide) d_M_init_618 ?_
  refine r_icmp_ge (tgt := 635) d_M_init_619 rfl (fun c => ?_) (fun c => ?_)
  · replace h := kr_ip c h
    refine r_iconst (v := (0 : Int32)) (by decide) d_M_init_635 ?_
    refine r_istore_n (i := 1) (lv' := [(1, .int (0 : Int32)), (0, va_rf x0)]) (by decide) (by show kr_st _ 1 _ = _; simp [kr_st, kr_rfcat, kr_icat]) d_M_init_636 ?_
    exact kr_sub [1, 0] rfl (s_M_init_L637 kr_FU h)
  · replace h := kr_in_ c h
    refine r_aload_n (i := 0) (x := x0) 0 rfl d_M_init_622 ?_
    have h2 := kr_ob h
    clear h
    obtain ⟨v10, ev10, h⟩ := h2
    refine r_getR ev10 fk42 rfl d_M_init_623 ?_
    refine r_iload_n (i := 1) (x := x1) 1 rfl d_M_init_626 ?_
    refine r_iconst (v := (-1 : Int32)) (by decide) d_M_init_627 ?_
    have h2 := kr_ob h
    clear h
    obtain ⟨S11, eS11, h⟩ := h2
    refine r_iastore eS11 d_M_init_628 ?_
    have h2 := kr_ob h
    clear h
    obtain ⟨i12, ei12, h⟩ := h2
    refine r_iinc (v := i12) (lv' := [(1, .int i12), (0, va_rf x0)]) 1 rfl (kr_inc (by decide) ei12) (by decide) (by simp [kr_st, kr_rfcat, kr_icat]) d_M_init_629 ?_
    refine r_goto (tgt := 617) d_M_init_632 rfl ?_
    exact kr_sub [1, 0] rfl (hk617 h)
theorem s_M_init_L617 (n : Nat) : ∀ {S : AS} {x0 : Option Nat} {x1 : Int32} {r : AS}, f_M_init_L617 n S x0 x1 = some r → kr_AW m_M_init 1 617 [(0, va_rf x0), (1, .int x1)] [] S (kr_eV r) := by
  induction n with
  | zero => intro S x0 x1 r h; cases h
  | succ n ih => intro S x0 x1 r h; exact s_M_init_C617 (fun {_} {_} {_} {_} h => ih h) h
set_option maxRecDepth 20000 in
set_option maxHeartbeats 4000000 in
theorem s_M_init_C573 {k573 : AS → Option Nat → Int32 → Option AS} (hk573 : ∀ {S : AS} {x0 : Option Nat} {x1 : Int32} {r : AS}, k573 S x0 x1 = some r → kr_AW m_M_init 1 573 [(0, va_rf x0), (1, .int x1)] [] S (kr_eV r)) {S : AS} {x0 : Option Nat} {x1 : Int32} {r : AS} (h : f_M_init_C573 k573 S x0 x1 = some r) : kr_AW m_M_init 1 573 [(0, va_rf x0), (1, .int x1)] [] S (kr_eV r) := by
  unfold f_M_init_C573 at h
  refine r_iload_n (i := 1) (x := x1) 1 rfl d_M_init_573 ?_
  refine r_bipush (v := (18 : Int32)) (by decide) d_M_init_574 ?_
  refine r_icmp_ge (tgt := 594) d_M_init_576 rfl (fun c => ?_) (fun c => ?_)
  · replace h := kr_ip c h
    refine r_aload_n (i := 0) (x := x0) 0 rfl d_M_init_594 ?_
    have h2 := kr_ob h
    clear h
    obtain ⟨v13, ev13, h⟩ := h2
    refine r_getR ev13 fk43 rfl d_M_init_595 ?_
    refine r_iconst (v := (0 : Int32)) (by decide) d_M_init_598 ?_
    refine r_iconst (v := (2 : Int32)) (by decide) d_M_init_599 ?_
    have h2 := kr_ob h
    clear h
    obtain ⟨S14, eS14, h⟩ := h2
    refine r_iastore eS14 d_M_init_600 ?_
    refine r_aload_n (i := 0) (x := x0) 0 rfl d_M_init_601 ?_
    have h2 := kr_ob h
    clear h
    obtain ⟨v15, ev15, h⟩ := h2
    refine r_getR ev15 fk43 rfl d_M_init_602 ?_
    refine r_iconst (v := (1 : Int32)) (by decide) d_M_init_605 ?_
    refine r_iconst (v := (1 : Int32)) (by decide) d_M_init_606 ?_
    have h2 := kr_ob h
    clear h
    obtain ⟨S16, eS16, h⟩ := h2
    refine r_iastore eS16 d_M_init_607 ?_
    refine r_aload_n (i := 0) (x := x0) 0 rfl d_M_init_608 ?_
    have h2 := kr_ob h
    clear h
    obtain ⟨v17, ev17, h⟩ := h2
    refine r_getR ev17 fk43 rfl d_M_init_609 ?_
    refine r_iconst (v := (2 : Int32)) (by decide) d_M_init_612 ?_
    refine r_iconst (v := (1 : Int32)) (by decide) d_M_init_613 ?_
    have h2 := kr_ob h
    clear h
    obtain ⟨S18, eS18, h⟩ := h2
    refine r_iastore eS18 d_M_init_614 ?_
    refine r_iconst (v := (0 : Int32)) (by decide) d_M_init_615 ?_
    refine r_istore_n (i := 1) (lv' := [(1, .int (0 : Int32)), (0, va_rf x0)]) (by decide) (by show kr_st _ 1 _ = _; simp [kr_st, kr_rfcat, kr_icat]) d_M_init_616 ?_
    exact kr_sub [1, 0] rfl (s_M_init_L617 kr_FU h)
  · replace h := kr_in_ c h
    refine r_aload_n (i := 0) (x := x0) 0 rfl d_M_init_579 ?_
    have h2 := kr_ob h
    clear h
    obtain ⟨v19, ev19, h⟩ := h2
    refine r_getR ev19 fk44 rfl d_M_init_580 ?_
    refine r_iload_n (i := 1) (x := x1) 1 rfl d_M_init_583 ?_
    refine r_sipush (v := (-1000 : Int32)) (by decide) d_M_init_584 ?_
    have h2 := kr_ob h
    clear h
    obtain ⟨S20, eS20, h⟩ := h2
    refine r_iastore eS20 d_M_init_587 ?_
    have h2 := kr_ob h
    clear h
    obtain ⟨i21, ei21, h⟩ := h2
    refine r_iinc (v := i21) (lv' := [(1, .int i21), (0, va_rf x0)]) 1 rfl (kr_inc (by decide) ei21) (by decide) (by simp [kr_st, kr_rfcat, kr_icat]) d_M_init_588 ?_
    refine r_goto (tgt := 573) d_M_init_591 rfl ?_
    exact kr_sub [1, 0] rfl (hk573 h)
theorem s_M_init_L573 (n : Nat) : ∀ {S : AS} {x0 : Option Nat} {x1 : Int32} {r : AS}, f_M_init_L573 n S x0 x1 = some r → kr_AW m_M_init 1 573 [(0, va_rf x0), (1, .int x1)] [] S (kr_eV r) := by
  induction n with
  | zero => intro S x0 x1 r h; cases h
  | succ n ih => intro S x0 x1 r h; exact s_M_init_C573 (fun {_} {_} {_} {_} h => ih h) h
set_option maxRecDepth 20000 in
set_option maxHeartbeats 4000000 in
theorem s_M_init {S : AS} {a0 : Option Nat} {r : AS} (h : f_M_init S a0 = some r) : kr_Con m_M_init 1 [va_rf a0] S (kr_eV r) := by
  refine kr_con rfl rfl (by decide +kernel) (by simp [lg_sl, kr_rfcat, kr_icat, m_M_init, mL]) ?_
  rw [show lv_args 0 [va_rf a0] = [(0, va_rf a0)] from by simp [lv_args, kr_rfcat, kr_icat]]
  unfold f_M_init at h
  refine r_aload_n (i := 0) (x := a0) 0 rfl d_M_init_0 ?_
  have h2 := kr_ob h
  clear h
  obtain ⟨k22, ek22, h⟩ := h2
  subst ek22
  refine r_objInit w1436 w110 w111 (by decide) (kr_c8 kr_c0) d_M_init_1 ?_
  refine r_aload_n (i := 0) (x := (some k22)) 0 rfl d_M_init_4 ?_
  refine r_bipush (v := (18 : Int32)) (by decide) d_M_init_5 ?_
  have h2 := kr_ob h
  clear h
  obtain ⟨S23, eS23, h⟩ := h2
  refine r_newI eS23 w133 d_M_init_7 ?_
  have h2 := kr_ob h
  clear h
  obtain ⟨S24, eS24, h⟩ := h2
  refine r_putR eS24 fk45 (Or.inr ⟨rfl, rfl, rfl, _, w1438, rfl⟩) rfl d_M_init_9 ?_
  refine r_aload_n (i := 0) (x := (some k22)) 0 rfl d_M_init_12 ?_
  refine r_bipush (v := (18 : Int32)) (by decide) d_M_init_13 ?_
  have h2 := kr_ob h
  clear h
  obtain ⟨S25, eS25, h⟩ := h2
  refine r_newI eS25 w133 d_M_init_15 ?_
  have h2 := kr_ob h
  clear h
  obtain ⟨S26, eS26, h⟩ := h2
  refine r_putR eS26 fk46 (Or.inr ⟨rfl, rfl, rfl, _, w1439, rfl⟩) rfl d_M_init_17 ?_
  refine r_aload_n (i := 0) (x := (some k22)) 0 rfl d_M_init_20 ?_
  refine r_bipush (v := (6 : Int32)) (by decide) d_M_init_21 ?_
  have h2 := kr_ob h
  clear h
  obtain ⟨S27, eS27, h⟩ := h2
  refine r_newI eS27 w133 d_M_init_23 ?_
  have h2 := kr_ob h
  clear h
  obtain ⟨S28, eS28, h⟩ := h2
  refine r_putR eS28 fk47 (Or.inr ⟨rfl, rfl, rfl, _, w1440, rfl⟩) rfl d_M_init_25 ?_
  refine r_aload_n (i := 0) (x := (some k22)) 0 rfl d_M_init_28 ?_
  refine r_bipush (v := (18 : Int32)) (by decide) d_M_init_29 ?_
  have h2 := kr_ob h
  clear h
  obtain ⟨S29, eS29, h⟩ := h2
  refine r_newI eS29 w133 d_M_init_31 ?_
  have h2 := kr_ob h
  clear h
  obtain ⟨S30, eS30, h⟩ := h2
  refine r_putR eS30 fk44 (Or.inr ⟨rfl, rfl, rfl, _, w1441, rfl⟩) rfl d_M_init_33 ?_
  refine r_aload_n (i := 0) (x := (some k22)) 0 rfl d_M_init_36 ?_
  refine r_bipush (v := (36 : Int32)) (by decide) d_M_init_37 ?_
  have h2 := kr_ob h
  clear h
  obtain ⟨S31, eS31, h⟩ := h2
  refine r_newZ eS31 w1687 d_M_init_39 ?_
  have h2 := kr_ob h
  clear h
  obtain ⟨S32, eS32, h⟩ := h2
  refine r_putR eS32 fk48 (Or.inr ⟨rfl, rfl, rfl, _, w1442, rfl⟩) rfl d_M_init_41 ?_
  refine r_aload_n (i := 0) (x := (some k22)) 0 rfl d_M_init_44 ?_
  refine r_bipush (v := (36 : Int32)) (by decide) d_M_init_45 ?_
  have h2 := kr_ob h
  clear h
  obtain ⟨S33, eS33, h⟩ := h2
  refine r_newZ eS33 w1687 d_M_init_47 ?_
  have h2 := kr_ob h
  clear h
  obtain ⟨S34, eS34, h⟩ := h2
  refine r_putR eS34 fk49 (Or.inr ⟨rfl, rfl, rfl, _, w1443, rfl⟩) rfl d_M_init_49 ?_
  refine r_aload_n (i := 0) (x := (some k22)) 0 rfl d_M_init_52 ?_
  refine r_bipush (v := (6 : Int32)) (by decide) d_M_init_53 ?_
  have h2 := kr_ob h
  clear h
  obtain ⟨S35, eS35, h⟩ := h2
  refine r_newZ eS35 w1687 d_M_init_55 ?_
  have h2 := kr_ob h
  clear h
  obtain ⟨S36, eS36, h⟩ := h2
  refine r_putR eS36 fk50 (Or.inr ⟨rfl, rfl, rfl, _, w1444, rfl⟩) rfl d_M_init_57 ?_
  refine r_aload_n (i := 0) (x := (some k22)) 0 rfl d_M_init_60 ?_
  refine r_bipush (v := (6 : Int32)) (by decide) d_M_init_61 ?_
  have h2 := kr_ob h
  clear h
  obtain ⟨S37, eS37, h⟩ := h2
  refine r_newZ eS37 w1687 d_M_init_63 ?_
  have h2 := kr_ob h
  clear h
  obtain ⟨S38, eS38, h⟩ := h2
  refine r_putR eS38 fk51 (Or.inr ⟨rfl, rfl, rfl, _, w1445, rfl⟩) rfl d_M_init_65 ?_
  refine r_aload_n (i := 0) (x := (some k22)) 0 rfl d_M_init_68 ?_
  refine r_bipush (v := (9 : Int32)) (by decide) d_M_init_69 ?_
  have h2 := kr_ob h
  clear h
  obtain ⟨S39, eS39, h⟩ := h2
  refine r_newI eS39 w133 d_M_init_71 ?_
  have h2 := kr_ob h
  clear h
  obtain ⟨S40, eS40, h⟩ := h2
  refine r_putR eS40 fk52 (Or.inr ⟨rfl, rfl, rfl, _, w1447, rfl⟩) rfl d_M_init_73 ?_
  refine r_aload_n (i := 0) (x := (some k22)) 0 rfl d_M_init_76 ?_
  refine r_bipush (v := (108 : Int32)) (by decide) d_M_init_77 ?_
  have h2 := kr_ob h
  clear h
  obtain ⟨S41, eS41, h⟩ := h2
  refine r_newI eS41 w133 d_M_init_79 ?_
  have h2 := kr_ob h
  clear h
  obtain ⟨S42, eS42, h⟩ := h2
  refine r_putR eS42 fk53 (Or.inr ⟨rfl, rfl, rfl, _, w1448, rfl⟩) rfl d_M_init_81 ?_
  refine r_aload_n (i := 0) (x := (some k22)) 0 rfl d_M_init_84 ?_
  refine r_bipush (v := (108 : Int32)) (by decide) d_M_init_85 ?_
  have h2 := kr_ob h
  clear h
  obtain ⟨S43, eS43, h⟩ := h2
  refine r_newI eS43 w133 d_M_init_87 ?_
  have h2 := kr_ob h
  clear h
  obtain ⟨S44, eS44, h⟩ := h2
  refine r_putR eS44 fk54 (Or.inr ⟨rfl, rfl, rfl, _, w1449, rfl⟩) rfl d_M_init_89 ?_
  refine r_aload_n (i := 0) (x := (some k22)) 0 rfl d_M_init_92 ?_
  refine r_bipush (v := (108 : Int32)) (by decide) d_M_init_93 ?_
  have h2 := kr_ob h
  clear h
  obtain ⟨S45, eS45, h⟩ := h2
  refine r_newI eS45 w133 d_M_init_95 ?_
  have h2 := kr_ob h
  clear h
  obtain ⟨S46, eS46, h⟩ := h2
  refine r_putR eS46 fk55 (Or.inr ⟨rfl, rfl, rfl, _, w1450, rfl⟩) rfl d_M_init_97 ?_
  refine r_aload_n (i := 0) (x := (some k22)) 0 rfl d_M_init_100 ?_
  refine r_bipush (v := (108 : Int32)) (by decide) d_M_init_101 ?_
  have h2 := kr_ob h
  clear h
  obtain ⟨S47, eS47, h⟩ := h2
  refine r_newI eS47 w133 d_M_init_103 ?_
  have h2 := kr_ob h
  clear h
  obtain ⟨S48, eS48, h⟩ := h2
  refine r_putR eS48 fk56 (Or.inr ⟨rfl, rfl, rfl, _, w1451, rfl⟩) rfl d_M_init_105 ?_
  refine r_aload_n (i := 0) (x := (some k22)) 0 rfl d_M_init_108 ?_
  refine r_bipush (v := (108 : Int32)) (by decide) d_M_init_109 ?_
  have h2 := kr_ob h
  clear h
  obtain ⟨S49, eS49, h⟩ := h2
  refine r_newI eS49 w133 d_M_init_111 ?_
  have h2 := kr_ob h
  clear h
  obtain ⟨S50, eS50, h⟩ := h2
  refine r_putR eS50 fk57 (Or.inr ⟨rfl, rfl, rfl, _, w1452, rfl⟩) rfl d_M_init_113 ?_
  refine r_aload_n (i := 0) (x := (some k22)) 0 rfl d_M_init_116 ?_
  refine r_bipush (v := (96 : Int32)) (by decide) d_M_init_117 ?_
  have h2 := kr_ob h
  clear h
  obtain ⟨S51, eS51, h⟩ := h2
  refine r_newZ eS51 w1687 d_M_init_119 ?_
  have h2 := kr_ob h
  clear h
  obtain ⟨S52, eS52, h⟩ := h2
  refine r_putR eS52 fk58 (Or.inr ⟨rfl, rfl, rfl, _, w1453, rfl⟩) rfl d_M_init_121 ?_
  refine r_aload_n (i := 0) (x := (some k22)) 0 rfl d_M_init_124 ?_
  refine r_iconst (v := (3 : Int32)) (by decide) d_M_init_125 ?_
  have h2 := kr_ob h
  clear h
  obtain ⟨S53, eS53, h⟩ := h2
  refine r_newI eS53 w133 d_M_init_126 ?_
  have h2 := kr_ob h
  clear h
  obtain ⟨S54, eS54, h⟩ := h2
  refine r_putR eS54 fk43 (Or.inr ⟨rfl, rfl, rfl, _, w1454, rfl⟩) rfl d_M_init_128 ?_
  refine r_aload_n (i := 0) (x := (some k22)) 0 rfl d_M_init_131 ?_
  refine r_iconst (v := (3 : Int32)) (by decide) d_M_init_132 ?_
  have h2 := kr_ob h
  clear h
  obtain ⟨S55, eS55, h⟩ := h2
  refine r_newI eS55 w133 d_M_init_133 ?_
  have h2 := kr_ob h
  clear h
  obtain ⟨S56, eS56, h⟩ := h2
  refine r_putR eS56 fk42 (Or.inr ⟨rfl, rfl, rfl, _, w1455, rfl⟩) rfl d_M_init_135 ?_
  refine r_aload_n (i := 0) (x := (some k22)) 0 rfl d_M_init_138 ?_
  refine r_bipush (v := (60 : Int32)) (by decide) d_M_init_139 ?_
  have h2 := kr_ob h
  clear h
  obtain ⟨S57, eS57, h⟩ := h2
  refine r_newI eS57 w133 d_M_init_141 ?_
  have h2 := kr_ob h
  clear h
  obtain ⟨S58, eS58, h⟩ := h2
  refine r_putR eS58 fk59 (Or.inr ⟨rfl, rfl, rfl, _, w1457, rfl⟩) rfl d_M_init_143 ?_
  refine r_aload_n (i := 0) (x := (some k22)) 0 rfl d_M_init_146 ?_
  refine r_bipush (v := (60 : Int32)) (by decide) d_M_init_147 ?_
  have h2 := kr_ob h
  clear h
  obtain ⟨S59, eS59, h⟩ := h2
  refine r_newI eS59 w133 d_M_init_149 ?_
  have h2 := kr_ob h
  clear h
  obtain ⟨S60, eS60, h⟩ := h2
  refine r_putR eS60 fk60 (Or.inr ⟨rfl, rfl, rfl, _, w1458, rfl⟩) rfl d_M_init_151 ?_
  refine r_aload_n (i := 0) (x := (some k22)) 0 rfl d_M_init_154 ?_
  refine r_bipush (v := (60 : Int32)) (by decide) d_M_init_155 ?_
  have h2 := kr_ob h
  clear h
  obtain ⟨S61, eS61, h⟩ := h2
  refine r_newI eS61 w133 d_M_init_157 ?_
  have h2 := kr_ob h
  clear h
  obtain ⟨S62, eS62, h⟩ := h2
  refine r_putR eS62 fk61 (Or.inr ⟨rfl, rfl, rfl, _, w1459, rfl⟩) rfl d_M_init_159 ?_
  refine r_aload_n (i := 0) (x := (some k22)) 0 rfl d_M_init_162 ?_
  refine r_bipush (v := (60 : Int32)) (by decide) d_M_init_163 ?_
  have h2 := kr_ob h
  clear h
  obtain ⟨S63, eS63, h⟩ := h2
  refine r_newI eS63 w133 d_M_init_165 ?_
  have h2 := kr_ob h
  clear h
  obtain ⟨S64, eS64, h⟩ := h2
  refine r_putR eS64 fk62 (Or.inr ⟨rfl, rfl, rfl, _, w1460, rfl⟩) rfl d_M_init_167 ?_
  refine r_aload_n (i := 0) (x := (some k22)) 0 rfl d_M_init_170 ?_
  refine r_bipush (v := (60 : Int32)) (by decide) d_M_init_171 ?_
  have h2 := kr_ob h
  clear h
  obtain ⟨S65, eS65, h⟩ := h2
  refine r_newI eS65 w133 d_M_init_173 ?_
  have h2 := kr_ob h
  clear h
  obtain ⟨S66, eS66, h⟩ := h2
  refine r_putR eS66 fk63 (Or.inr ⟨rfl, rfl, rfl, _, w1461, rfl⟩) rfl d_M_init_175 ?_
  refine r_aload_n (i := 0) (x := (some k22)) 0 rfl d_M_init_178 ?_
  refine r_bipush (v := (60 : Int32)) (by decide) d_M_init_179 ?_
  have h2 := kr_ob h
  clear h
  obtain ⟨S67, eS67, h⟩ := h2
  refine r_newI eS67 w133 d_M_init_181 ?_
  have h2 := kr_ob h
  clear h
  obtain ⟨S68, eS68, h⟩ := h2
  refine r_putR eS68 fk64 (Or.inr ⟨rfl, rfl, rfl, _, w1462, rfl⟩) rfl d_M_init_183 ?_
  refine r_aload_n (i := 0) (x := (some k22)) 0 rfl d_M_init_186 ?_
  refine r_bipush (v := (60 : Int32)) (by decide) d_M_init_187 ?_
  have h2 := kr_ob h
  clear h
  obtain ⟨S69, eS69, h⟩ := h2
  refine r_newI eS69 w133 d_M_init_189 ?_
  have h2 := kr_ob h
  clear h
  obtain ⟨S70, eS70, h⟩ := h2
  refine r_putR eS70 fk65 (Or.inr ⟨rfl, rfl, rfl, _, w1463, rfl⟩) rfl d_M_init_191 ?_
  refine r_aload_n (i := 0) (x := (some k22)) 0 rfl d_M_init_194 ?_
  refine r_bipush (v := (60 : Int32)) (by decide) d_M_init_195 ?_
  have h2 := kr_ob h
  clear h
  obtain ⟨S71, eS71, h⟩ := h2
  refine r_newI eS71 w133 d_M_init_197 ?_
  have h2 := kr_ob h
  clear h
  obtain ⟨S72, eS72, h⟩ := h2
  refine r_putR eS72 fk66 (Or.inr ⟨rfl, rfl, rfl, _, w1464, rfl⟩) rfl d_M_init_199 ?_
  refine r_aload_n (i := 0) (x := (some k22)) 0 rfl d_M_init_202 ?_
  refine r_bipush (v := (60 : Int32)) (by decide) d_M_init_203 ?_
  have h2 := kr_ob h
  clear h
  obtain ⟨S73, eS73, h⟩ := h2
  refine r_newI eS73 w133 d_M_init_205 ?_
  have h2 := kr_ob h
  clear h
  obtain ⟨S74, eS74, h⟩ := h2
  refine r_putR eS74 fk67 (Or.inr ⟨rfl, rfl, rfl, _, w1465, rfl⟩) rfl d_M_init_207 ?_
  refine r_aload_n (i := 0) (x := (some k22)) 0 rfl d_M_init_210 ?_
  refine r_sipush (v := (180 : Int32)) (by decide) d_M_init_211 ?_
  have h2 := kr_ob h
  clear h
  obtain ⟨S75, eS75, h⟩ := h2
  refine r_newI eS75 w133 d_M_init_214 ?_
  have h2 := kr_ob h
  clear h
  obtain ⟨S76, eS76, h⟩ := h2
  refine r_putR eS76 fk68 (Or.inr ⟨rfl, rfl, rfl, _, w1466, rfl⟩) rfl d_M_init_216 ?_
  refine r_aload_n (i := 0) (x := (some k22)) 0 rfl d_M_init_219 ?_
  refine r_bipush (v := (60 : Int32)) (by decide) d_M_init_220 ?_
  have h2 := kr_ob h
  clear h
  obtain ⟨S77, eS77, h⟩ := h2
  refine r_newI eS77 w133 d_M_init_222 ?_
  have h2 := kr_ob h
  clear h
  obtain ⟨S78, eS78, h⟩ := h2
  refine r_putR eS78 fk69 (Or.inr ⟨rfl, rfl, rfl, _, w1468, rfl⟩) rfl d_M_init_224 ?_
  refine r_aload_n (i := 0) (x := (some k22)) 0 rfl d_M_init_227 ?_
  refine r_bipush (v := (60 : Int32)) (by decide) d_M_init_228 ?_
  have h2 := kr_ob h
  clear h
  obtain ⟨S79, eS79, h⟩ := h2
  refine r_newI eS79 w133 d_M_init_230 ?_
  have h2 := kr_ob h
  clear h
  obtain ⟨S80, eS80, h⟩ := h2
  refine r_putR eS80 fk70 (Or.inr ⟨rfl, rfl, rfl, _, w1469, rfl⟩) rfl d_M_init_232 ?_
  refine r_aload_n (i := 0) (x := (some k22)) 0 rfl d_M_init_235 ?_
  refine r_bipush (v := (60 : Int32)) (by decide) d_M_init_236 ?_
  have h2 := kr_ob h
  clear h
  obtain ⟨S81, eS81, h⟩ := h2
  refine r_newI eS81 w133 d_M_init_238 ?_
  have h2 := kr_ob h
  clear h
  obtain ⟨S82, eS82, h⟩ := h2
  refine r_putR eS82 fk71 (Or.inr ⟨rfl, rfl, rfl, _, w1470, rfl⟩) rfl d_M_init_240 ?_
  refine r_aload_n (i := 0) (x := (some k22)) 0 rfl d_M_init_243 ?_
  refine r_bipush (v := (60 : Int32)) (by decide) d_M_init_244 ?_
  have h2 := kr_ob h
  clear h
  obtain ⟨S83, eS83, h⟩ := h2
  refine r_newI eS83 w133 d_M_init_246 ?_
  have h2 := kr_ob h
  clear h
  obtain ⟨S84, eS84, h⟩ := h2
  refine r_putR eS84 fk72 (Or.inr ⟨rfl, rfl, rfl, _, w1471, rfl⟩) rfl d_M_init_248 ?_
  refine r_aload_n (i := 0) (x := (some k22)) 0 rfl d_M_init_251 ?_
  refine r_bipush (v := (60 : Int32)) (by decide) d_M_init_252 ?_
  have h2 := kr_ob h
  clear h
  obtain ⟨S85, eS85, h⟩ := h2
  refine r_newZ eS85 w1687 d_M_init_254 ?_
  have h2 := kr_ob h
  clear h
  obtain ⟨S86, eS86, h⟩ := h2
  refine r_putR eS86 fk73 (Or.inr ⟨rfl, rfl, rfl, _, w1472, rfl⟩) rfl d_M_init_256 ?_
  refine r_aload_n (i := 0) (x := (some k22)) 0 rfl d_M_init_259 ?_
  refine r_sipush (v := (180 : Int32)) (by decide) d_M_init_260 ?_
  have h2 := kr_ob h
  clear h
  obtain ⟨S87, eS87, h⟩ := h2
  refine r_newI eS87 w133 d_M_init_263 ?_
  have h2 := kr_ob h
  clear h
  obtain ⟨S88, eS88, h⟩ := h2
  refine r_putR eS88 fk74 (Or.inr ⟨rfl, rfl, rfl, _, w1473, rfl⟩) rfl d_M_init_265 ?_
  refine r_aload_n (i := 0) (x := (some k22)) 0 rfl d_M_init_268 ?_
  refine r_bipush (v := (28 : Int32)) (by decide) d_M_init_269 ?_
  have h2 := kr_ob h
  clear h
  obtain ⟨S89, eS89, h⟩ := h2
  refine r_newI eS89 w133 d_M_init_271 ?_
  have h2 := kr_ob h
  clear h
  obtain ⟨S90, eS90, h⟩ := h2
  refine r_putR eS90 fk75 (Or.inr ⟨rfl, rfl, rfl, _, w1474, rfl⟩) rfl d_M_init_273 ?_
  refine r_aload_n (i := 0) (x := (some k22)) 0 rfl d_M_init_276 ?_
  refine r_iconst (v := (4 : Int32)) (by decide) d_M_init_277 ?_
  have h2 := kr_ob h
  clear h
  obtain ⟨S91, eS91, h⟩ := h2
  refine r_newI eS91 w133 d_M_init_278 ?_
  have h2 := kr_ob h
  clear h
  obtain ⟨S92, eS92, h⟩ := h2
  refine r_putR eS92 fk76 (Or.inr ⟨rfl, rfl, rfl, _, w1475, rfl⟩) rfl d_M_init_280 ?_
  refine r_aload_n (i := 0) (x := (some k22)) 0 rfl d_M_init_283 ?_
  refine r_bipush (v := (60 : Int32)) (by decide) d_M_init_284 ?_
  have h2 := kr_ob h
  clear h
  obtain ⟨S93, eS93, h⟩ := h2
  refine r_newI eS93 w133 d_M_init_286 ?_
  have h2 := kr_ob h
  clear h
  obtain ⟨S94, eS94, h⟩ := h2
  refine r_putR eS94 fk77 (Or.inr ⟨rfl, rfl, rfl, _, w1477, rfl⟩) rfl d_M_init_288 ?_
  refine r_aload_n (i := 0) (x := (some k22)) 0 rfl d_M_init_291 ?_
  refine r_bipush (v := (60 : Int32)) (by decide) d_M_init_292 ?_
  have h2 := kr_ob h
  clear h
  obtain ⟨S95, eS95, h⟩ := h2
  refine r_newI eS95 w133 d_M_init_294 ?_
  have h2 := kr_ob h
  clear h
  obtain ⟨S96, eS96, h⟩ := h2
  refine r_putR eS96 fk78 (Or.inr ⟨rfl, rfl, rfl, _, w1478, rfl⟩) rfl d_M_init_296 ?_
  refine r_aload_n (i := 0) (x := (some k22)) 0 rfl d_M_init_299 ?_
  refine r_bipush (v := (60 : Int32)) (by decide) d_M_init_300 ?_
  have h2 := kr_ob h
  clear h
  obtain ⟨S97, eS97, h⟩ := h2
  refine r_newI eS97 w133 d_M_init_302 ?_
  have h2 := kr_ob h
  clear h
  obtain ⟨S98, eS98, h⟩ := h2
  refine r_putR eS98 fk79 (Or.inr ⟨rfl, rfl, rfl, _, w1479, rfl⟩) rfl d_M_init_304 ?_
  refine r_aload_n (i := 0) (x := (some k22)) 0 rfl d_M_init_307 ?_
  refine r_bipush (v := (60 : Int32)) (by decide) d_M_init_308 ?_
  have h2 := kr_ob h
  clear h
  obtain ⟨S99, eS99, h⟩ := h2
  refine r_newI eS99 w133 d_M_init_310 ?_
  have h2 := kr_ob h
  clear h
  obtain ⟨S100, eS100, h⟩ := h2
  refine r_putR eS100 fk80 (Or.inr ⟨rfl, rfl, rfl, _, w1480, rfl⟩) rfl d_M_init_312 ?_
  refine r_aload_n (i := 0) (x := (some k22)) 0 rfl d_M_init_315 ?_
  refine r_bipush (v := (60 : Int32)) (by decide) d_M_init_316 ?_
  have h2 := kr_ob h
  clear h
  obtain ⟨S101, eS101, h⟩ := h2
  refine r_newI eS101 w133 d_M_init_318 ?_
  have h2 := kr_ob h
  clear h
  obtain ⟨S102, eS102, h⟩ := h2
  refine r_putR eS102 fk81 (Or.inr ⟨rfl, rfl, rfl, _, w1481, rfl⟩) rfl d_M_init_320 ?_
  refine r_aload_n (i := 0) (x := (some k22)) 0 rfl d_M_init_323 ?_
  refine r_bipush (v := (60 : Int32)) (by decide) d_M_init_324 ?_
  have h2 := kr_ob h
  clear h
  obtain ⟨S103, eS103, h⟩ := h2
  refine r_newI eS103 w133 d_M_init_326 ?_
  have h2 := kr_ob h
  clear h
  obtain ⟨S104, eS104, h⟩ := h2
  refine r_putR eS104 fk82 (Or.inr ⟨rfl, rfl, rfl, _, w1482, rfl⟩) rfl d_M_init_328 ?_
  refine r_aload_n (i := 0) (x := (some k22)) 0 rfl d_M_init_331 ?_
  refine r_bipush (v := (60 : Int32)) (by decide) d_M_init_332 ?_
  have h2 := kr_ob h
  clear h
  obtain ⟨S105, eS105, h⟩ := h2
  refine r_newI eS105 w133 d_M_init_334 ?_
  have h2 := kr_ob h
  clear h
  obtain ⟨S106, eS106, h⟩ := h2
  refine r_putR eS106 fk83 (Or.inr ⟨rfl, rfl, rfl, _, w1484, rfl⟩) rfl d_M_init_336 ?_
  refine r_aload_n (i := 0) (x := (some k22)) 0 rfl d_M_init_339 ?_
  refine r_bipush (v := (60 : Int32)) (by decide) d_M_init_340 ?_
  have h2 := kr_ob h
  clear h
  obtain ⟨S107, eS107, h⟩ := h2
  refine r_newI eS107 w133 d_M_init_342 ?_
  have h2 := kr_ob h
  clear h
  obtain ⟨S108, eS108, h⟩ := h2
  refine r_putR eS108 fk84 (Or.inr ⟨rfl, rfl, rfl, _, w1485, rfl⟩) rfl d_M_init_344 ?_
  refine r_aload_n (i := 0) (x := (some k22)) 0 rfl d_M_init_347 ?_
  refine r_bipush (v := (60 : Int32)) (by decide) d_M_init_348 ?_
  have h2 := kr_ob h
  clear h
  obtain ⟨S109, eS109, h⟩ := h2
  refine r_newI eS109 w133 d_M_init_350 ?_
  have h2 := kr_ob h
  clear h
  obtain ⟨S110, eS110, h⟩ := h2
  refine r_putR eS110 fk85 (Or.inr ⟨rfl, rfl, rfl, _, w1486, rfl⟩) rfl d_M_init_352 ?_
  refine r_aload_n (i := 0) (x := (some k22)) 0 rfl d_M_init_355 ?_
  refine r_bipush (v := (60 : Int32)) (by decide) d_M_init_356 ?_
  have h2 := kr_ob h
  clear h
  obtain ⟨S111, eS111, h⟩ := h2
  refine r_newI eS111 w133 d_M_init_358 ?_
  have h2 := kr_ob h
  clear h
  obtain ⟨S112, eS112, h⟩ := h2
  refine r_putR eS112 fk86 (Or.inr ⟨rfl, rfl, rfl, _, w1487, rfl⟩) rfl d_M_init_360 ?_
  refine r_aload_n (i := 0) (x := (some k22)) 0 rfl d_M_init_363 ?_
  refine r_bipush (v := (60 : Int32)) (by decide) d_M_init_364 ?_
  have h2 := kr_ob h
  clear h
  obtain ⟨S113, eS113, h⟩ := h2
  refine r_newZ eS113 w1687 d_M_init_366 ?_
  have h2 := kr_ob h
  clear h
  obtain ⟨S114, eS114, h⟩ := h2
  refine r_putR eS114 fk87 (Or.inr ⟨rfl, rfl, rfl, _, w1488, rfl⟩) rfl d_M_init_368 ?_
  refine r_aload_n (i := 0) (x := (some k22)) 0 rfl d_M_init_371 ?_
  refine r_sipush (v := (200 : Int32)) (by decide) d_M_init_372 ?_
  have h2 := kr_ob h
  clear h
  obtain ⟨S115, eS115, h⟩ := h2
  refine r_newI eS115 w133 d_M_init_375 ?_
  have h2 := kr_ob h
  clear h
  obtain ⟨S116, eS116, h⟩ := h2
  refine r_putR eS116 fk88 (Or.inr ⟨rfl, rfl, rfl, _, w1490, rfl⟩) rfl d_M_init_377 ?_
  refine r_aload_n (i := 0) (x := (some k22)) 0 rfl d_M_init_380 ?_
  refine r_sipush (v := (200 : Int32)) (by decide) d_M_init_381 ?_
  have h2 := kr_ob h
  clear h
  obtain ⟨S117, eS117, h⟩ := h2
  refine r_newI eS117 w133 d_M_init_384 ?_
  have h2 := kr_ob h
  clear h
  obtain ⟨S118, eS118, h⟩ := h2
  refine r_putR eS118 fk89 (Or.inr ⟨rfl, rfl, rfl, _, w1491, rfl⟩) rfl d_M_init_386 ?_
  refine r_aload_n (i := 0) (x := (some k22)) 0 rfl d_M_init_389 ?_
  refine r_sipush (v := (200 : Int32)) (by decide) d_M_init_390 ?_
  have h2 := kr_ob h
  clear h
  obtain ⟨S119, eS119, h⟩ := h2
  refine r_newI eS119 w133 d_M_init_393 ?_
  have h2 := kr_ob h
  clear h
  obtain ⟨S120, eS120, h⟩ := h2
  refine r_putR eS120 fk90 (Or.inr ⟨rfl, rfl, rfl, _, w1492, rfl⟩) rfl d_M_init_395 ?_
  refine r_aload_n (i := 0) (x := (some k22)) 0 rfl d_M_init_398 ?_
  refine r_sipush (v := (200 : Int32)) (by decide) d_M_init_399 ?_
  have h2 := kr_ob h
  clear h
  obtain ⟨S121, eS121, h⟩ := h2
  refine r_newI eS121 w133 d_M_init_402 ?_
  have h2 := kr_ob h
  clear h
  obtain ⟨S122, eS122, h⟩ := h2
  refine r_putR eS122 fk91 (Or.inr ⟨rfl, rfl, rfl, _, w1493, rfl⟩) rfl d_M_init_404 ?_
  refine r_aload_n (i := 0) (x := (some k22)) 0 rfl d_M_init_407 ?_
  refine r_sipush (v := (200 : Int32)) (by decide) d_M_init_408 ?_
  have h2 := kr_ob h
  clear h
  obtain ⟨S123, eS123, h⟩ := h2
  refine r_newI eS123 w133 d_M_init_411 ?_
  have h2 := kr_ob h
  clear h
  obtain ⟨S124, eS124, h⟩ := h2
  refine r_putR eS124 fk92 (Or.inr ⟨rfl, rfl, rfl, _, w1494, rfl⟩) rfl d_M_init_413 ?_
  refine r_aload_n (i := 0) (x := (some k22)) 0 rfl d_M_init_416 ?_
  refine r_sipush (v := (200 : Int32)) (by decide) d_M_init_417 ?_
  have h2 := kr_ob h
  clear h
  obtain ⟨S125, eS125, h⟩ := h2
  refine r_newI eS125 w133 d_M_init_420 ?_
  have h2 := kr_ob h
  clear h
  obtain ⟨S126, eS126, h⟩ := h2
  refine r_putR eS126 fk93 (Or.inr ⟨rfl, rfl, rfl, _, w1495, rfl⟩) rfl d_M_init_422 ?_
  refine r_aload_n (i := 0) (x := (some k22)) 0 rfl d_M_init_425 ?_
  refine r_sipush (v := (200 : Int32)) (by decide) d_M_init_426 ?_
  have h2 := kr_ob h
  clear h
  obtain ⟨S127, eS127, h⟩ := h2
  refine r_newI eS127 w133 d_M_init_429 ?_
  have h2 := kr_ob h
  clear h
  obtain ⟨S128, eS128, h⟩ := h2
  refine r_putR eS128 fk94 (Or.inr ⟨rfl, rfl, rfl, _, w1496, rfl⟩) rfl d_M_init_431 ?_
  refine r_aload_n (i := 0) (x := (some k22)) 0 rfl d_M_init_434 ?_
  refine r_iconst (v := (1 : Int32)) (by decide) d_M_init_435 ?_
  have h2 := kr_ob h
  clear h
  obtain ⟨S129, eS129, h⟩ := h2
  refine r_putI eS129 fk95 (Or.inl rfl) rfl d_M_init_436 ?_
  refine r_aload_n (i := 0) (x := (some k22)) 0 rfl d_M_init_439 ?_
  refine r_iconst (v := (-1 : Int32)) (by decide) d_M_init_440 ?_
  have h2 := kr_ob h
  clear h
  obtain ⟨S130, eS130, h⟩ := h2
  refine r_putI eS130 fk96 (Or.inl rfl) rfl d_M_init_441 ?_
  refine r_aload_n (i := 0) (x := (some k22)) 0 rfl d_M_init_444 ?_
  refine r_bipush (v := (20 : Int32)) (by decide) d_M_init_445 ?_
  have h2 := kr_ob h
  clear h
  obtain ⟨S131, eS131, h⟩ := h2
  refine r_newZ eS131 w1687 d_M_init_447 ?_
  have h2 := kr_ob h
  clear h
  obtain ⟨S132, eS132, h⟩ := h2
  refine r_putR eS132 fk97 (Or.inr ⟨rfl, rfl, rfl, _, w1501, rfl⟩) rfl d_M_init_449 ?_
  refine r_aload_n (i := 0) (x := (some k22)) 0 rfl d_M_init_452 ?_
  refine r_bipush (v := (20 : Int32)) (by decide) d_M_init_453 ?_
  have h2 := kr_ob h
  clear h
  obtain ⟨S133, eS133, h⟩ := h2
  refine r_newI eS133 w133 d_M_init_455 ?_
  have h2 := kr_ob h
  clear h
  obtain ⟨S134, eS134, h⟩ := h2
  refine r_putR eS134 fk40 (Or.inr ⟨rfl, rfl, rfl, _, w1502, rfl⟩) rfl d_M_init_457 ?_
  refine r_aload_n (i := 0) (x := (some k22)) 0 rfl d_M_init_460 ?_
  refine r_iconst (v := (4 : Int32)) (by decide) d_M_init_461 ?_
  have h2 := kr_ob h
  clear h
  obtain ⟨S135, eS135, h⟩ := h2
  refine r_newZ eS135 w1687 d_M_init_462 ?_
  have h2 := kr_ob h
  clear h
  obtain ⟨S136, eS136, h⟩ := h2
  refine r_putR eS136 fk98 (Or.inr ⟨rfl, rfl, rfl, _, w1503, rfl⟩) rfl d_M_init_464 ?_
  refine r_aload_n (i := 0) (x := (some k22)) 0 rfl d_M_init_467 ?_
  refine r_iconst (v := (4 : Int32)) (by decide) d_M_init_468 ?_
  have h2 := kr_ob h
  clear h
  obtain ⟨S137, eS137, h⟩ := h2
  refine r_newI eS137 w133 d_M_init_469 ?_
  have h2 := kr_ob h
  clear h
  obtain ⟨S138, eS138, h⟩ := h2
  refine r_putR eS138 fk41 (Or.inr ⟨rfl, rfl, rfl, _, w1504, rfl⟩) rfl d_M_init_471 ?_
  refine r_aload_n (i := 0) (x := (some k22)) 0 rfl d_M_init_474 ?_
  refine r_iconst (v := (4 : Int32)) (by decide) d_M_init_475 ?_
  have h2 := kr_ob h
  clear h
  obtain ⟨S139, eS139, h⟩ := h2
  refine r_newI eS139 w133 d_M_init_476 ?_
  have h2 := kr_ob h
  clear h
  obtain ⟨S140, eS140, h⟩ := h2
  refine r_putR eS140 fk99 (Or.inr ⟨rfl, rfl, rfl, _, w1505, rfl⟩) rfl d_M_init_478 ?_
  refine r_aload_n (i := 0) (x := (some k22)) 0 rfl d_M_init_481 ?_
  refine r_sipush (v := (240 : Int32)) (by decide) d_M_init_482 ?_
  have h2 := kr_ob h
  clear h
  obtain ⟨S141, eS141, h⟩ := h2
  refine r_newZ eS141 w1687 d_M_init_485 ?_
  have h2 := kr_ob h
  clear h
  obtain ⟨S142, eS142, h⟩ := h2
  refine r_putR eS142 fk100 (Or.inr ⟨rfl, rfl, rfl, _, w1506, rfl⟩) rfl d_M_init_487 ?_
  refine r_aload_n (i := 0) (x := (some k22)) 0 rfl d_M_init_490 ?_
  refine r_bipush (v := (20 : Int32)) (by decide) d_M_init_491 ?_
  have h2 := kr_ob h
  clear h
  obtain ⟨S143, eS143, h⟩ := h2
  refine r_newI eS143 w133 d_M_init_493 ?_
  have h2 := kr_ob h
  clear h
  obtain ⟨S144, eS144, h⟩ := h2
  refine r_putR eS144 fk101 (Or.inr ⟨rfl, rfl, rfl, _, w1508, rfl⟩) rfl d_M_init_495 ?_
  refine r_aload_n (i := 0) (x := (some k22)) 0 rfl d_M_init_498 ?_
  refine r_bipush (v := (20 : Int32)) (by decide) d_M_init_499 ?_
  have h2 := kr_ob h
  clear h
  obtain ⟨S145, eS145, h⟩ := h2
  refine r_newI eS145 w133 d_M_init_501 ?_
  have h2 := kr_ob h
  clear h
  obtain ⟨S146, eS146, h⟩ := h2
  refine r_putR eS146 fk102 (Or.inr ⟨rfl, rfl, rfl, _, w1509, rfl⟩) rfl d_M_init_503 ?_
  refine r_aload_n (i := 0) (x := (some k22)) 0 rfl d_M_init_506 ?_
  refine r_bipush (v := (20 : Int32)) (by decide) d_M_init_507 ?_
  have h2 := kr_ob h
  clear h
  obtain ⟨S147, eS147, h⟩ := h2
  refine r_newZ eS147 w1687 d_M_init_509 ?_
  have h2 := kr_ob h
  clear h
  obtain ⟨S148, eS148, h⟩ := h2
  refine r_putR eS148 fk103 (Or.inr ⟨rfl, rfl, rfl, _, w1510, rfl⟩) rfl d_M_init_511 ?_
  refine r_aload_n (i := 0) (x := (some k22)) 0 rfl d_M_init_514 ?_
  refine r_bipush (v := (20 : Int32)) (by decide) d_M_init_515 ?_
  have h2 := kr_ob h
  clear h
  obtain ⟨S149, eS149, h⟩ := h2
  refine r_newI eS149 w133 d_M_init_517 ?_
  have h2 := kr_ob h
  clear h
  obtain ⟨S150, eS150, h⟩ := h2
  refine r_putR eS150 fk104 (Or.inr ⟨rfl, rfl, rfl, _, w1511, rfl⟩) rfl d_M_init_519 ?_
  refine r_aload_n (i := 0) (x := (some k22)) 0 rfl d_M_init_522 ?_
  refine r_bipush (v := (20 : Int32)) (by decide) d_M_init_523 ?_
  have h2 := kr_ob h
  clear h
  obtain ⟨S151, eS151, h⟩ := h2
  refine r_newI eS151 w133 d_M_init_525 ?_
  have h2 := kr_ob h
  clear h
  obtain ⟨S152, eS152, h⟩ := h2
  refine r_putR eS152 fk105 (Or.inr ⟨rfl, rfl, rfl, _, w1512, rfl⟩) rfl d_M_init_527 ?_
  refine r_aload_n (i := 0) (x := (some k22)) 0 rfl d_M_init_530 ?_
  refine r_bipush (v := (6 : Int32)) (by decide) d_M_init_531 ?_
  have h2 := kr_ob h
  clear h
  obtain ⟨S153, eS153, h⟩ := h2
  refine r_newI eS153 w133 d_M_init_533 ?_
  have h2 := kr_ob h
  clear h
  obtain ⟨S154, eS154, h⟩ := h2
  refine r_putR eS154 fk39 (Or.inr ⟨rfl, rfl, rfl, _, w1513, rfl⟩) rfl d_M_init_535 ?_
  refine r_aload_n (i := 0) (x := (some k22)) 0 rfl d_M_init_538 ?_
  refine r_sipush (v := (1200 : Int32)) (by decide) d_M_init_539 ?_
  have h2 := kr_ob h
  clear h
  obtain ⟨S155, eS155, h⟩ := h2
  refine r_newI eS155 w133 d_M_init_542 ?_
  have h2 := kr_ob h
  clear h
  obtain ⟨S156, eS156, h⟩ := h2
  refine r_putR eS156 fk106 (Or.inr ⟨rfl, rfl, rfl, _, w1515, rfl⟩) rfl d_M_init_544 ?_
  refine r_aload_n (i := 0) (x := (some k22)) 0 rfl d_M_init_547 ?_
  refine r_sipush (v := (1200 : Int32)) (by decide) d_M_init_548 ?_
  have h2 := kr_ob h
  clear h
  obtain ⟨S157, eS157, h⟩ := h2
  refine r_newI eS157 w133 d_M_init_551 ?_
  have h2 := kr_ob h
  clear h
  obtain ⟨S158, eS158, h⟩ := h2
  refine r_putR eS158 fk107 (Or.inr ⟨rfl, rfl, rfl, _, w1516, rfl⟩) rfl d_M_init_553 ?_
  refine r_aload_n (i := 0) (x := (some k22)) 0 rfl d_M_init_556 ?_
  refine r_sipush (v := (1200 : Int32)) (by decide) d_M_init_557 ?_
  have h2 := kr_ob h
  clear h
  obtain ⟨S159, eS159, h⟩ := h2
  refine r_newI eS159 w133 d_M_init_560 ?_
  have h2 := kr_ob h
  clear h
  obtain ⟨S160, eS160, h⟩ := h2
  refine r_putR eS160 fk108 (Or.inr ⟨rfl, rfl, rfl, _, w1517, rfl⟩) rfl d_M_init_562 ?_
  refine r_aload_n (i := 0) (x := (some k22)) 0 rfl d_M_init_565 ?_
  refine r_bipush (v := (7 : Int32)) (by decide) d_M_init_566 ?_
  have h2 := kr_ob h
  clear h
  obtain ⟨S161, eS161, h⟩ := h2
  refine r_putI eS161 fk109 (Or.inl rfl) rfl d_M_init_568 ?_
  refine r_iconst (v := (0 : Int32)) (by decide) d_M_init_571 ?_
  refine r_istore_n (i := 1) (lv' := [(1, .int (0 : Int32)), (0, va_rf (some k22))]) (by decide) (by show kr_st _ 1 _ = _; simp [kr_st, kr_rfcat, kr_icat]) d_M_init_572 ?_
  exact kr_sub [1, 0] rfl (s_M_init_L573 kr_FU h)
/-! KeyringCourtModel.isIn(III)Z -/
def f_M_isIn (S : AS) (a0 : Int32) (a1 : Int32) (a2 : Int32) : Option (Int32 × AS) :=
  if a0 < a1 then
  some ((0 : Int32), S)
  else
  if a2 < a0 then
  some ((0 : Int32), S)
  else
  some ((1 : Int32), S)
set_option maxRecDepth 20000 in
set_option maxHeartbeats 4000000 in
theorem s_M_isIn {S : AS} {a0 : Int32} {a1 : Int32} {a2 : Int32} {r : (Int32 × AS)} (h : f_M_isIn S a0 a1 a2 = some r) : kr_Con m_M_isIn 0 [.int a0, .int a1, .int a2] S (kr_eI r) := by
  refine kr_con rfl rfl (by decide +kernel) (by simp [lg_sl, kr_rfcat, kr_icat, m_M_isIn, mL]) ?_
  rw [show lv_args 0 [.int a0, .int a1, .int a2] = [(0, .int a0), (1, .int a1), (2, .int a2)] from by simp [lv_args, kr_rfcat, kr_icat]]
  unfold f_M_isIn at h
  refine r_iload_n (i := 0) (x := a0) 0 rfl d_M_isIn_0 ?_
  refine r_iload_n (i := 1) (x := a1) 1 rfl d_M_isIn_1 ?_
  refine r_icmp_lt (tgt := 14) d_M_isIn_2 rfl (fun c => ?_) (fun c => ?_)
  · replace h := kr_ip c h
    refine r_iconst (v := (0 : Int32)) (by decide) d_M_isIn_14 ?_
    cases h
    exact r_zret rfl rfl d_M_isIn_15
  · replace h := kr_in_ c h
    refine r_iload_n (i := 0) (x := a0) 0 rfl d_M_isIn_5 ?_
    refine r_iload_n (i := 2) (x := a2) 2 rfl d_M_isIn_6 ?_
    refine r_icmp_gt (tgt := 14) d_M_isIn_7 rfl (fun c => ?_) (fun c => ?_)
    · replace h := kr_ip c h
      refine r_iconst (v := (0 : Int32)) (by decide) d_M_isIn_14 ?_
      cases h
      exact r_zret rfl rfl d_M_isIn_15
    · replace h := kr_in_ c h
      refine r_iconst (v := (1 : Int32)) (by decide) d_M_isIn_10 ?_
      refine r_goto (tgt := 15) d_M_isIn_11 rfl ?_
      cases h
      exact r_zret rfl rfl d_M_isIn_15
/-! KeyringCourtModel.mayBoth(ZZ)Z -/
def f_M_mayBoth_B18 (S : AS) (x0 : Option Nat) (y0 : Option Nat) (y1 : Int32) : Option (Int32 × AS) :=
  (pI S 23 82 y0 y1).bind fun S1 =>
  (gI S1 23 82 x0).bind fun v2 =>
  if v2 = 0 then
  some ((1 : Int32), S1)
  else
  some ((0 : Int32), S1)
def f_M_mayBoth (S : AS) (a0 : Option Nat) (a1 : Int32) (a2 : Int32) : Option (Int32 × AS) :=
  if a1 = 0 then
  f_M_mayBoth_B18 S a0 a0 (1 : Int32)
  else
  if a2 = 0 then
  f_M_mayBoth_B18 S a0 a0 (2 : Int32)
  else
  f_M_mayBoth_B18 S a0 a0 (0 : Int32)
set_option maxRecDepth 20000 in
set_option maxHeartbeats 4000000 in
theorem s_M_mayBoth_B18 {S : AS} {x0 : Option Nat} {y0 : Option Nat} {y1 : Int32} {r : (Int32 × AS)} (h : f_M_mayBoth_B18 S x0 y0 y1 = some r) : kr_AW m_M_mayBoth 0 18 [(0, va_rf x0)] [.int y1, va_rf y0] S (kr_eI r) := by
  unfold f_M_mayBoth_B18 at h
  have h2 := kr_ob h
  clear h
  obtain ⟨S1, eS1, h⟩ := h2
  refine r_putI eS1 fk128 (Or.inl rfl) rfl d_M_mayBoth_18 ?_
  refine r_aload_n (i := 0) (x := x0) 0 rfl d_M_mayBoth_21 ?_
  have h2 := kr_ob h
  clear h
  obtain ⟨v2, ev2, h⟩ := h2
  refine r_getI ev2 fk128 rfl d_M_mayBoth_22 ?_
  refine r_if_ne (tgt := 32) d_M_mayBoth_25 rfl (fun c => ?_) (fun c => ?_)
  · replace h := kr_ip c h
    refine r_iconst (v := (1 : Int32)) (by decide) d_M_mayBoth_28 ?_
    refine r_goto (tgt := 33) d_M_mayBoth_29 rfl ?_
    cases h
    exact r_zret rfl rfl d_M_mayBoth_33
  · replace h := kr_in_ c h
    refine r_iconst (v := (0 : Int32)) (by decide) d_M_mayBoth_32 ?_
    cases h
    exact r_zret rfl rfl d_M_mayBoth_33
set_option maxRecDepth 20000 in
set_option maxHeartbeats 4000000 in
theorem s_M_mayBoth {S : AS} {a0 : Option Nat} {a1 : Int32} {a2 : Int32} {r : (Int32 × AS)} (h : f_M_mayBoth S a0 a1 a2 = some r) : kr_Con m_M_mayBoth 0 [va_rf a0, .int a1, .int a2] S (kr_eI r) := by
  refine kr_con rfl rfl (by decide +kernel) (by simp [lg_sl, kr_rfcat, kr_icat, m_M_mayBoth, mL]) ?_
  rw [show lv_args 0 [va_rf a0, .int a1, .int a2] = [(0, va_rf a0), (1, .int a1), (2, .int a2)] from by simp [lv_args, kr_rfcat, kr_icat]]
  unfold f_M_mayBoth at h
  refine r_aload_n (i := 0) (x := a0) 0 rfl d_M_mayBoth_0 ?_
  refine r_iload_n (i := 1) (x := a1) 1 rfl d_M_mayBoth_1 ?_
  refine r_if_ne (tgt := 9) d_M_mayBoth_2 rfl (fun c => ?_) (fun c => ?_)
  · replace h := kr_ip c h
    refine r_iconst (v := (1 : Int32)) (by decide) d_M_mayBoth_5 ?_
    refine r_goto (tgt := 18) d_M_mayBoth_6 rfl ?_
    exact kr_sub [0] rfl (s_M_mayBoth_B18 h)
  · replace h := kr_in_ c h
    refine r_iload_n (i := 2) (x := a2) 2 rfl d_M_mayBoth_9 ?_
    refine r_if_ne (tgt := 17) d_M_mayBoth_10 rfl (fun c => ?_) (fun c => ?_)
    · replace h := kr_ip c h
      refine r_iconst (v := (2 : Int32)) (by decide) d_M_mayBoth_13 ?_
      refine r_goto (tgt := 18) d_M_mayBoth_14 rfl ?_
      exact kr_sub [0] rfl (s_M_mayBoth_B18 h)
    · replace h := kr_in_ c h
      refine r_iconst (v := (0 : Int32)) (by decide) d_M_mayBoth_17 ?_
      exact kr_sub [0] rfl (s_M_mayBoth_B18 h)
/-! KeyringCourtModel.write(II)V -/
def f_M_write (S : AS) (a0 : Option Nat) (a1 : Int32) (a2 : Int32) : Option AS :=
  (gR S 23 78 a0).bind fun v1 =>
  (gI S 23 77 a0).bind fun v2 =>
  (bI S v1 v2 a1).bind fun S3 =>
  (gR S3 23 79 a0).bind fun v4 =>
  (gI S3 23 77 a0).bind fun v5 =>
  (bI S3 v4 v5 a2).bind fun S6 =>
  (gR S6 23 80 a0).bind fun v7 =>
  (gI S6 23 77 a0).bind fun v8 =>
  (gI S6 23 0 a0).bind fun v9 =>
  (bI S6 v7 v8 v9).bind fun S10 =>
  (gI S10 23 77 a0).bind fun v11 =>
  (pI S10 23 77 a0 (v11 + (1 : Int32))).bind fun S12 =>
  (gI S12 23 81 a0).bind fun v13 =>
  (gI S12 23 0 a0).bind fun v14 =>
  (some (((((31 : Int32) * v13) + ((100 : Int32) * a1)) + a2) + v14)).bind fun i15 =>
  (pI S12 23 81 a0 (i15 - i15 / (65521 : Int32) * (65521 : Int32))).bind fun S16 =>
  some S16
set_option maxRecDepth 20000 in
set_option maxHeartbeats 4000000 in
theorem s_M_write {S : AS} {a0 : Option Nat} {a1 : Int32} {a2 : Int32} {r : AS} (h : f_M_write S a0 a1 a2 = some r) : kr_Con m_M_write 0 [va_rf a0, .int a1, .int a2] S (kr_eV r) := by
  refine kr_con rfl rfl (by decide +kernel) (by simp [lg_sl, kr_rfcat, kr_icat, m_M_write, mL]) ?_
  rw [show lv_args 0 [va_rf a0, .int a1, .int a2] = [(0, va_rf a0), (1, .int a1), (2, .int a2)] from by simp [lv_args, kr_rfcat, kr_icat]]
  unfold f_M_write at h
  refine r_aload_n (i := 0) (x := a0) 0 rfl d_M_write_0 ?_
  have h2 := kr_ob h
  clear h
  obtain ⟨v1, ev1, h⟩ := h2
  refine r_getR ev1 fk106 rfl d_M_write_1 ?_
  refine r_aload_n (i := 0) (x := a0) 0 rfl d_M_write_4 ?_
  have h2 := kr_ob h
  clear h
  obtain ⟨v2, ev2, h⟩ := h2
  refine r_getI ev2 fk129 rfl d_M_write_5 ?_
  refine r_iload_n (i := 1) (x := a1) 1 rfl d_M_write_8 ?_
  have h2 := kr_ob h
  clear h
  obtain ⟨S3, eS3, h⟩ := h2
  refine r_iastore eS3 d_M_write_9 ?_
  refine r_aload_n (i := 0) (x := a0) 0 rfl d_M_write_10 ?_
  have h2 := kr_ob h
  clear h
  obtain ⟨v4, ev4, h⟩ := h2
  refine r_getR ev4 fk107 rfl d_M_write_11 ?_
  refine r_aload_n (i := 0) (x := a0) 0 rfl d_M_write_14 ?_
  have h2 := kr_ob h
  clear h
  obtain ⟨v5, ev5, h⟩ := h2
  refine r_getI ev5 fk129 rfl d_M_write_15 ?_
  refine r_iload_n (i := 2) (x := a2) 2 rfl d_M_write_18 ?_
  have h2 := kr_ob h
  clear h
  obtain ⟨S6, eS6, h⟩ := h2
  refine r_iastore eS6 d_M_write_19 ?_
  refine r_aload_n (i := 0) (x := a0) 0 rfl d_M_write_20 ?_
  have h2 := kr_ob h
  clear h
  obtain ⟨v7, ev7, h⟩ := h2
  refine r_getR ev7 fk108 rfl d_M_write_21 ?_
  refine r_aload_n (i := 0) (x := a0) 0 rfl d_M_write_24 ?_
  have h2 := kr_ob h
  clear h
  obtain ⟨v8, ev8, h⟩ := h2
  refine r_getI ev8 fk129 rfl d_M_write_25 ?_
  refine r_aload_n (i := 0) (x := a0) 0 rfl d_M_write_28 ?_
  have h2 := kr_ob h
  clear h
  obtain ⟨v9, ev9, h⟩ := h2
  refine r_getI ev9 fk130 rfl d_M_write_29 ?_
  have h2 := kr_ob h
  clear h
  obtain ⟨S10, eS10, h⟩ := h2
  refine r_iastore eS10 d_M_write_32 ?_
  refine r_aload_n (i := 0) (x := a0) 0 rfl d_M_write_33 ?_
  refine r_dup (kr_rfcat _) d_M_write_34 ?_
  have h2 := kr_ob h
  clear h
  obtain ⟨v11, ev11, h⟩ := h2
  refine r_getI ev11 fk129 rfl d_M_write_35 ?_
  refine r_iconst (v := (1 : Int32)) (by decide) d_M_write_38 ?_
  refine r_iadd d_M_write_39 ?_
  have h2 := kr_ob h
  clear h
  obtain ⟨S12, eS12, h⟩ := h2
  refine r_putI eS12 fk129 (Or.inl rfl) rfl d_M_write_40 ?_
  refine r_aload_n (i := 0) (x := a0) 0 rfl d_M_write_43 ?_
  refine r_bipush (v := (31 : Int32)) (by decide) d_M_write_44 ?_
  refine r_aload_n (i := 0) (x := a0) 0 rfl d_M_write_46 ?_
  have h2 := kr_ob h
  clear h
  obtain ⟨v13, ev13, h⟩ := h2
  refine r_getI ev13 fk109 rfl d_M_write_47 ?_
  refine r_imul d_M_write_50 ?_
  refine r_bipush (v := (100 : Int32)) (by decide) d_M_write_51 ?_
  refine r_iload_n (i := 1) (x := a1) 1 rfl d_M_write_53 ?_
  refine r_imul d_M_write_54 ?_
  refine r_iadd d_M_write_55 ?_
  refine r_iload_n (i := 2) (x := a2) 2 rfl d_M_write_56 ?_
  refine r_iadd d_M_write_57 ?_
  refine r_aload_n (i := 0) (x := a0) 0 rfl d_M_write_58 ?_
  have h2 := kr_ob h
  clear h
  obtain ⟨v14, ev14, h⟩ := h2
  refine r_getI ev14 fk130 rfl d_M_write_59 ?_
  refine r_iadd d_M_write_62 ?_
  refine r_ldc (v := (65521 : Int32)) w1715 d_M_write_63 ?_
  have h2 := kr_ob h
  clear h
  obtain ⟨i15, ei15, h⟩ := h2
  refine kr_nmI2 ei15 ?_
  refine r_irem (by decide) d_M_write_65 ?_
  have h2 := kr_ob h
  clear h
  obtain ⟨S16, eS16, h⟩ := h2
  refine r_putI eS16 fk109 (Or.inl rfl) rfl d_M_write_66 ?_
  cases h
  exact r_vret rfl d_M_write_69
/-! KeyringCourtModel.hears(II)Z -/
def f_M_hears_B45 (k5 : AS → Option Nat → Int32 → Int32 → Int32 → Int32 → Option (Int32 × AS)) (S : AS) (x0 : Option Nat) (x1 : Int32) (x2 : Int32) (x4 : Int32) (y0 : Int32) : Option (Int32 × AS) :=
  (some (x4 + (1 : Int32))).bind fun i1 =>
  k5 S x0 x1 x2 y0 i1
def f_M_hears_B40 (k5 : AS → Option Nat → Int32 → Int32 → Int32 → Int32 → Option (Int32 × AS)) (S : AS) (x0 : Option Nat) (x1 : Int32) (x2 : Int32) (x4 : Int32) : Option (Int32 × AS) :=
  f_M_hears_B45 k5 S x0 x1 x2 x4 (1 : Int32)
def f_M_hears_B44 (k5 : AS → Option Nat → Int32 → Int32 → Int32 → Int32 → Option (Int32 × AS)) (S : AS) (x0 : Option Nat) (x1 : Int32) (x2 : Int32) (x4 : Int32) : Option (Int32 × AS) :=
  f_M_hears_B45 k5 S x0 x1 x2 x4 (0 : Int32)
def f_M_hears_C5 (k5 : AS → Option Nat → Int32 → Int32 → Int32 → Int32 → Option (Int32 × AS)) (S : AS) (x0 : Option Nat) (x1 : Int32) (x2 : Int32) (x3 : Int32) (x4 : Int32) : Option (Int32 × AS) :=
  (gI S 23 52 x0).bind fun v2 =>
  if v2 ≤ x4 then
  (kr_z x3).bind fun u3 =>
  some (x3, S)
  else
  if x3 = 0 then
  (gR S 23 57 x0).bind fun v4 =>
  (aI S 40 v4 x4).bind fun v5 =>
  if v5 = x2 then
  (gR S 23 54 x0).bind fun v6 =>
  (aI S 40 v6 x4).bind fun v7 =>
  if v7 = x1 then
  f_M_hears_B40 k5 S x0 x1 x2 x4
  else
  f_M_hears_B44 k5 S x0 x1 x2 x4
  else
  f_M_hears_B44 k5 S x0 x1 x2 x4
  else
  f_M_hears_B40 k5 S x0 x1 x2 x4
def f_M_hears_L5 : Nat → AS → Option Nat → Int32 → Int32 → Int32 → Int32 → Option (Int32 × AS)
  | 0, S, x0, x1, x2, x3, x4 => none
  | n + 1, S, x0, x1, x2, x3, x4 => f_M_hears_C5 (f_M_hears_L5 n) S x0 x1 x2 x3 x4
def f_M_hears (S : AS) (a0 : Option Nat) (a1 : Int32) (a2 : Int32) : Option (Int32 × AS) :=
  f_M_hears_L5 kr_FU S a0 a1 a2 (0 : Int32) (0 : Int32)
set_option maxRecDepth 20000 in
set_option maxHeartbeats 4000000 in
theorem s_M_hears_B45 {k5 : AS → Option Nat → Int32 → Int32 → Int32 → Int32 → Option (Int32 × AS)} (hk5 : ∀ {S : AS} {x0 : Option Nat} {x1 : Int32} {x2 : Int32} {x3 : Int32} {x4 : Int32} {r : (Int32 × AS)}, k5 S x0 x1 x2 x3 x4 = some r → kr_AW m_M_hears 0 5 [(0, va_rf x0), (1, .int x1), (2, .int x2), (3, .int x3), (4, .int x4)] [] S (kr_eI r)) {S : AS} {x0 : Option Nat} {x1 : Int32} {x2 : Int32} {x4 : Int32} {y0 : Int32} {r : (Int32 × AS)} (h : f_M_hears_B45 k5 S x0 x1 x2 x4 y0 = some r) : kr_AW m_M_hears 0 45 [(0, va_rf x0), (1, .int x1), (2, .int x2), (4, .int x4)] [.int y0] S (kr_eI r) := by
  unfold f_M_hears_B45 at h
  refine r_istore_n (i := 3) (lv' := [(3, .int y0), (0, va_rf x0), (1, .int x1), (2, .int x2), (4, .int x4)]) (by decide) rfl d_M_hears_45 ?_
  have h2 := kr_ob h
  clear h
  obtain ⟨i1, ei1, h⟩ := h2
  refine r_iinc (v := i1) (lv' := [(4, .int i1), (3, .int y0), (0, va_rf x0), (1, .int x1), (2, .int x2)]) 4 rfl (kr_inc (by decide) ei1) (by decide) rfl d_M_hears_46 ?_
  refine r_goto (tgt := 5) d_M_hears_49 rfl ?_
  exact kr_sub [2, 3, 4, 1, 0] rfl (hk5 h)
set_option maxRecDepth 20000 in
set_option maxHeartbeats 4000000 in
theorem s_M_hears_B40 {k5 : AS → Option Nat → Int32 → Int32 → Int32 → Int32 → Option (Int32 × AS)} (hk5 : ∀ {S : AS} {x0 : Option Nat} {x1 : Int32} {x2 : Int32} {x3 : Int32} {x4 : Int32} {r : (Int32 × AS)}, k5 S x0 x1 x2 x3 x4 = some r → kr_AW m_M_hears 0 5 [(0, va_rf x0), (1, .int x1), (2, .int x2), (3, .int x3), (4, .int x4)] [] S (kr_eI r)) {S : AS} {x0 : Option Nat} {x1 : Int32} {x2 : Int32} {x4 : Int32} {r : (Int32 × AS)} (h : f_M_hears_B40 k5 S x0 x1 x2 x4 = some r) : kr_AW m_M_hears 0 40 [(0, va_rf x0), (1, .int x1), (2, .int x2), (4, .int x4)] [] S (kr_eI r) := by
  unfold f_M_hears_B40 at h
  refine r_iconst (v := (1 : Int32)) (by decide) d_M_hears_40 ?_
  refine r_goto (tgt := 45) d_M_hears_41 rfl ?_
  exact kr_sub [0, 1, 2, 3] rfl (s_M_hears_B45 hk5 h)
set_option maxRecDepth 20000 in
set_option maxHeartbeats 4000000 in
theorem s_M_hears_B44 {k5 : AS → Option Nat → Int32 → Int32 → Int32 → Int32 → Option (Int32 × AS)} (hk5 : ∀ {S : AS} {x0 : Option Nat} {x1 : Int32} {x2 : Int32} {x3 : Int32} {x4 : Int32} {r : (Int32 × AS)}, k5 S x0 x1 x2 x3 x4 = some r → kr_AW m_M_hears 0 5 [(0, va_rf x0), (1, .int x1), (2, .int x2), (3, .int x3), (4, .int x4)] [] S (kr_eI r)) {S : AS} {x0 : Option Nat} {x1 : Int32} {x2 : Int32} {x4 : Int32} {r : (Int32 × AS)} (h : f_M_hears_B44 k5 S x0 x1 x2 x4 = some r) : kr_AW m_M_hears 0 44 [(0, va_rf x0), (1, .int x1), (2, .int x2), (4, .int x4)] [] S (kr_eI r) := by
  unfold f_M_hears_B44 at h
  refine r_iconst (v := (0 : Int32)) (by decide) d_M_hears_44 ?_
  exact kr_sub [0, 1, 2, 3] rfl (s_M_hears_B45 hk5 h)
set_option maxRecDepth 20000 in
set_option maxHeartbeats 4000000 in
theorem s_M_hears_C5 {k5 : AS → Option Nat → Int32 → Int32 → Int32 → Int32 → Option (Int32 × AS)} (hk5 : ∀ {S : AS} {x0 : Option Nat} {x1 : Int32} {x2 : Int32} {x3 : Int32} {x4 : Int32} {r : (Int32 × AS)}, k5 S x0 x1 x2 x3 x4 = some r → kr_AW m_M_hears 0 5 [(0, va_rf x0), (1, .int x1), (2, .int x2), (3, .int x3), (4, .int x4)] [] S (kr_eI r)) {S : AS} {x0 : Option Nat} {x1 : Int32} {x2 : Int32} {x3 : Int32} {x4 : Int32} {r : (Int32 × AS)} (h : f_M_hears_C5 k5 S x0 x1 x2 x3 x4 = some r) : kr_AW m_M_hears 0 5 [(0, va_rf x0), (1, .int x1), (2, .int x2), (3, .int x3), (4, .int x4)] [] S (kr_eI r) := by
  unfold f_M_hears_C5 at h
  refine r_iload (i := 4) (x := x4) 4 rfl d_M_hears_5 ?_
  refine r_aload_n (i := 0) (x := x0) 0 rfl d_M_hears_7 ?_
  have h2 := kr_ob h
  clear h
  obtain ⟨v2, ev2, h⟩ := h2
  refine r_getI ev2 fk131 rfl d_M_hears_8 ?_
  refine r_icmp_ge (tgt := 52) d_M_hears_11 rfl (fun c => ?_) (fun c => ?_)
  · replace h := kr_ip c h
    refine r_iload_n (i := 3) (x := x3) 3 rfl d_M_hears_52 ?_
    have h2 := kr_ob h
    clear h
    obtain ⟨⟨⟩, eu3, h⟩ := h2
    cases h
    exact r_zret rfl eu3 d_M_hears_53
  · replace h := kr_in_ c h
    refine r_iload_n (i := 3) (x := x3) 3 rfl d_M_hears_14 ?_
    refine r_if_ne (tgt := 40) d_M_hears_15 rfl (fun c => ?_) (fun c => ?_)
    · replace h := kr_ip c h
      refine r_aload_n (i := 0) (x := x0) 0 rfl d_M_hears_18 ?_
      have h2 := kr_ob h
      clear h
      obtain ⟨v4, ev4, h⟩ := h2
      refine r_getR ev4 fk92 rfl d_M_hears_19 ?_
      refine r_iload (i := 4) (x := x4) 4 rfl d_M_hears_22 ?_
      have h2 := kr_ob h
      clear h
      obtain ⟨v5, ev5, h⟩ := h2
      refine r_iaload ev5 d_M_hears_24 ?_
      refine r_iload_n (i := 2) (x := x2) 2 rfl d_M_hears_25 ?_
      refine r_icmp_ne (tgt := 44) d_M_hears_26 rfl (fun c => ?_) (fun c => ?_)
      · replace h := kr_ip c h
        refine r_aload_n (i := 0) (x := x0) 0 rfl d_M_hears_29 ?_
        have h2 := kr_ob h
        clear h
        obtain ⟨v6, ev6, h⟩ := h2
        refine r_getR ev6 fk89 rfl d_M_hears_30 ?_
        refine r_iload (i := 4) (x := x4) 4 rfl d_M_hears_33 ?_
        have h2 := kr_ob h
        clear h
        obtain ⟨v7, ev7, h⟩ := h2
        refine r_iaload ev7 d_M_hears_35 ?_
        refine r_iload_n (i := 1) (x := x1) 1 rfl d_M_hears_36 ?_
        refine r_icmp_ne (tgt := 44) d_M_hears_37 rfl (fun c => ?_) (fun c => ?_)
        · replace h := kr_ip c h
          exact kr_sub [0, 1, 2, 4] rfl (s_M_hears_B40 hk5 h)
        · replace h := kr_in_ c h
          exact kr_sub [0, 1, 2, 4] rfl (s_M_hears_B44 hk5 h)
      · replace h := kr_in_ c h
        exact kr_sub [0, 1, 2, 4] rfl (s_M_hears_B44 hk5 h)
    · replace h := kr_in_ c h
      exact kr_sub [0, 1, 2, 4] rfl (s_M_hears_B40 hk5 h)
theorem s_M_hears_L5 (n : Nat) : ∀ {S : AS} {x0 : Option Nat} {x1 : Int32} {x2 : Int32} {x3 : Int32} {x4 : Int32} {r : (Int32 × AS)}, f_M_hears_L5 n S x0 x1 x2 x3 x4 = some r → kr_AW m_M_hears 0 5 [(0, va_rf x0), (1, .int x1), (2, .int x2), (3, .int x3), (4, .int x4)] [] S (kr_eI r) := by
  induction n with
  | zero => intro S x0 x1 x2 x3 x4 r h; cases h
  | succ n ih => intro S x0 x1 x2 x3 x4 r h; exact s_M_hears_C5 (fun {_} {_} {_} {_} {_} {_} {_} h => ih h) h
set_option maxRecDepth 20000 in
set_option maxHeartbeats 4000000 in
theorem s_M_hears {S : AS} {a0 : Option Nat} {a1 : Int32} {a2 : Int32} {r : (Int32 × AS)} (h : f_M_hears S a0 a1 a2 = some r) : kr_Con m_M_hears 0 [va_rf a0, .int a1, .int a2] S (kr_eI r) := by
  refine kr_con rfl rfl (by decide +kernel) (by simp [lg_sl, kr_rfcat, kr_icat, m_M_hears, mL]) ?_
  rw [show lv_args 0 [va_rf a0, .int a1, .int a2] = [(0, va_rf a0), (1, .int a1), (2, .int a2)] from by simp [lv_args, kr_rfcat, kr_icat]]
  unfold f_M_hears at h
  refine r_iconst (v := (0 : Int32)) (by decide) d_M_hears_0 ?_
  refine r_istore_n (i := 3) (lv' := [(3, .int (0 : Int32)), (0, va_rf a0), (1, .int a1), (2, .int a2)]) (by decide) rfl d_M_hears_1 ?_
  refine r_iconst (v := (0 : Int32)) (by decide) d_M_hears_2 ?_
  refine r_istore (i := 4) (lv' := [(4, .int (0 : Int32)), (3, .int (0 : Int32)), (0, va_rf a0), (1, .int a1), (2, .int a2)]) (by decide) rfl d_M_hears_3 ?_
  exact kr_sub [2, 3, 4, 1, 0] rfl (s_M_hears_L5 kr_FU h)
/-! KeyringCourtModel.endFamily(I)V -/
def f_M_endFamily_B63 (k25 : AS → Option Nat → Int32 → Int32 → Option AS) (S : AS) (x0 : Option Nat) (x1 : Int32) (x2 : Int32) (y0 : Option Nat) (y1 : Int32) (y2 : Int32) : Option AS :=
  (bZ S y0 y1 y2).bind fun S1 =>
  (some (x2 + (1 : Int32))).bind fun i2 =>
  k25 S1 x0 x1 i2
def f_M_endFamily_B62 (k25 : AS → Option Nat → Int32 → Int32 → Option AS) (S : AS) (x0 : Option Nat) (x1 : Int32) (x2 : Int32) (y0 : Option Nat) (y1 : Int32) : Option AS :=
  f_M_endFamily_B63 k25 S x0 x1 x2 y0 y1 (0 : Int32)
def f_M_endFamily_C25 (k25 : AS → Option Nat → Int32 → Int32 → Option AS) (S : AS) (x0 : Option Nat) (x1 : Int32) (x2 : Int32) : Option AS :=
  if (4 : Int32) ≤ x2 then
  some S
  else
  (gR S 23 69 x0).bind fun v3 =>
  (gR S 23 66 x0).bind fun v4 =>
  (aI S 41 v4 x2).bind fun v5 =>
  if v5 = 0 then
  (kr_rv S 23 x0).bind fun u6 =>
  kr_b2 (f_M_hears S x0 x2 x1) fun v8 S7 =>
  if v8 = 0 then
  f_M_endFamily_B62 k25 S7 x0 x1 x2 v3 (((60 : Int32) * x2) + x1)
  else
  f_M_endFamily_B63 k25 S7 x0 x1 x2 v3 (((60 : Int32) * x2) + x1) (1 : Int32)
  else
  f_M_endFamily_B62 k25 S x0 x1 x2 v3 (((60 : Int32) * x2) + x1)
def f_M_endFamily_L25 : Nat → AS → Option Nat → Int32 → Int32 → Option AS
  | 0, S, x0, x1, x2 => none
  | n + 1, S, x0, x1, x2 => f_M_endFamily_C25 (f_M_endFamily_L25 n) S x0 x1 x2
def f_M_endFamily (S : AS) (a0 : Option Nat) (a1 : Int32) : Option AS :=
  (gR S 23 51 a0).bind fun v9 =>
  (aI S 41 v9 a1).bind fun v10 =>
  if v10 = 0 then
  some S
  else
  (gR S 23 51 a0).bind fun v11 =>
  (bZ S v11 a1 (0 : Int32)).bind fun S12 =>
  (kr_rv S12 23 a0).bind fun u13 =>
  (f_M_write S12 a0 (3 : Int32) a1).bind fun S14 =>
  f_M_endFamily_L25 kr_FU S14 a0 a1 (0 : Int32)
set_option maxRecDepth 20000 in
set_option maxHeartbeats 4000000 in
theorem s_M_endFamily_B63 {k25 : AS → Option Nat → Int32 → Int32 → Option AS} (hk25 : ∀ {S : AS} {x0 : Option Nat} {x1 : Int32} {x2 : Int32} {r : AS}, k25 S x0 x1 x2 = some r → kr_AW m_M_endFamily 1 25 [(0, va_rf x0), (1, .int x1), (2, .int x2)] [] S (kr_eV r)) {S : AS} {x0 : Option Nat} {x1 : Int32} {x2 : Int32} {y0 : Option Nat} {y1 : Int32} {y2 : Int32} {r : AS} (h : f_M_endFamily_B63 k25 S x0 x1 x2 y0 y1 y2 = some r) : kr_AW m_M_endFamily 1 63 [(0, va_rf x0), (1, .int x1), (2, .int x2)] [.int y2, .int y1, va_rf y0] S (kr_eV r) := by
  unfold f_M_endFamily_B63 at h
  have h2 := kr_ob h
  clear h
  obtain ⟨S1, eS1, h⟩ := h2
  refine r_bastore eS1 d_M_endFamily_63 ?_
  have h2 := kr_ob h
  clear h
  obtain ⟨i2, ei2, h⟩ := h2
  refine r_iinc (v := i2) (lv' := [(2, .int i2), (0, va_rf x0), (1, .int x1)]) 2 rfl (kr_inc (by decide) ei2) (by decide) rfl d_M_endFamily_64 ?_
  refine r_goto (tgt := 25) d_M_endFamily_67 rfl ?_
  exact kr_sub [1, 2, 0] rfl (hk25 h)
set_option maxRecDepth 20000 in
set_option maxHeartbeats 4000000 in
theorem s_M_endFamily_B62 {k25 : AS → Option Nat → Int32 → Int32 → Option AS} (hk25 : ∀ {S : AS} {x0 : Option Nat} {x1 : Int32} {x2 : Int32} {r : AS}, k25 S x0 x1 x2 = some r → kr_AW m_M_endFamily 1 25 [(0, va_rf x0), (1, .int x1), (2, .int x2)] [] S (kr_eV r)) {S : AS} {x0 : Option Nat} {x1 : Int32} {x2 : Int32} {y0 : Option Nat} {y1 : Int32} {r : AS} (h : f_M_endFamily_B62 k25 S x0 x1 x2 y0 y1 = some r) : kr_AW m_M_endFamily 1 62 [(0, va_rf x0), (1, .int x1), (2, .int x2)] [.int y1, va_rf y0] S (kr_eV r) := by
  unfold f_M_endFamily_B62 at h
  refine r_iconst (v := (0 : Int32)) (by decide) d_M_endFamily_62 ?_
  exact kr_sub [0, 1, 2] rfl (s_M_endFamily_B63 hk25 h)
set_option maxRecDepth 20000 in
set_option maxHeartbeats 4000000 in
theorem s_M_endFamily_C25 {k25 : AS → Option Nat → Int32 → Int32 → Option AS} (hk25 : ∀ {S : AS} {x0 : Option Nat} {x1 : Int32} {x2 : Int32} {r : AS}, k25 S x0 x1 x2 = some r → kr_AW m_M_endFamily 1 25 [(0, va_rf x0), (1, .int x1), (2, .int x2)] [] S (kr_eV r)) {S : AS} {x0 : Option Nat} {x1 : Int32} {x2 : Int32} {r : AS} (h : f_M_endFamily_C25 k25 S x0 x1 x2 = some r) : kr_AW m_M_endFamily 1 25 [(0, va_rf x0), (1, .int x1), (2, .int x2)] [] S (kr_eV r) := by
  unfold f_M_endFamily_C25 at h
  refine r_iload_n (i := 2) (x := x2) 2 rfl d_M_endFamily_25 ?_
  refine r_iconst (v := (4 : Int32)) (by decide) d_M_endFamily_26 ?_
  refine r_icmp_ge (tgt := 70) d_M_endFamily_27 rfl (fun c => ?_) (fun c => ?_)
  · replace h := kr_ip c h
    cases h
    exact r_vret rfl d_M_endFamily_70
  · replace h := kr_in_ c h
    refine r_aload_n (i := 0) (x := x0) 0 rfl d_M_endFamily_30 ?_
    have h2 := kr_ob h
    clear h
    obtain ⟨v3, ev3, h⟩ := h2
    refine r_getR ev3 fk100 rfl d_M_endFamily_31 ?_
    refine r_bipush (v := (60 : Int32)) (by decide) d_M_endFamily_34 ?_
    refine r_iload_n (i := 2) (x := x2) 2 rfl d_M_endFamily_36 ?_
    refine r_imul d_M_endFamily_37 ?_
    refine r_iload_n (i := 1) (x := x1) 1 rfl d_M_endFamily_38 ?_
    refine r_iadd d_M_endFamily_39 ?_
    refine r_aload_n (i := 0) (x := x0) 0 rfl d_M_endFamily_40 ?_
    have h2 := kr_ob h
    clear h
    obtain ⟨v4, ev4, h⟩ := h2
    refine r_getR ev4 fk98 rfl d_M_endFamily_41 ?_
    refine r_iload_n (i := 2) (x := x2) 2 rfl d_M_endFamily_44 ?_
    have h2 := kr_ob h
    clear h
    obtain ⟨v5, ev5, h⟩ := h2
    refine r_baload ev5 d_M_endFamily_45 ?_
    refine r_if_ne (tgt := 62) d_M_endFamily_46 rfl (fun c => ?_) (fun c => ?_)
    · replace h := kr_ip c h
      refine r_aload_n (i := 0) (x := x0) 0 rfl d_M_endFamily_49 ?_
      refine r_iload_n (i := 2) (x := x2) 2 rfl d_M_endFamily_50 ?_
      refine r_iload_n (i := 1) (x := x1) 1 rfl d_M_endFamily_51 ?_
      have h2 := kr_ob h
      clear h
      obtain ⟨⟨⟩, eu6, h⟩ := h2
      have h2 := kr_ob2 h
      clear h
      obtain ⟨v8, S7, eS7, h⟩ := h2
      refine r_callV (M1 := m_M_hears) (κ := 23) (As := [.int x2, .int x1]) eu6 (s_M_hears eS7) mok_M_hears rfl (by decide) rfl w1740 w1742 w48 (by decide) (kr_c8 (kr_cI (kr_cR kr_c0))) d_M_endFamily_52 (kr_k1 ?_) kr_kn
      refine r_if_eq (tgt := 62) d_M_endFamily_55 rfl (fun c => ?_) (fun c => ?_)
      · replace h := kr_ip c h
        exact kr_sub [0, 1, 2] rfl (s_M_endFamily_B62 hk25 h)
      · replace h := kr_in_ c h
        refine r_iconst (v := (1 : Int32)) (by decide) d_M_endFamily_58 ?_
        refine r_goto (tgt := 63) d_M_endFamily_59 rfl ?_
        exact kr_sub [0, 1, 2] rfl (s_M_endFamily_B63 hk25 h)
    · replace h := kr_in_ c h
      exact kr_sub [0, 1, 2] rfl (s_M_endFamily_B62 hk25 h)
theorem s_M_endFamily_L25 (n : Nat) : ∀ {S : AS} {x0 : Option Nat} {x1 : Int32} {x2 : Int32} {r : AS}, f_M_endFamily_L25 n S x0 x1 x2 = some r → kr_AW m_M_endFamily 1 25 [(0, va_rf x0), (1, .int x1), (2, .int x2)] [] S (kr_eV r) := by
  induction n with
  | zero => intro S x0 x1 x2 r h; cases h
  | succ n ih => intro S x0 x1 x2 r h; exact s_M_endFamily_C25 (fun {_} {_} {_} {_} {_} h => ih h) h
set_option maxRecDepth 20000 in
set_option maxHeartbeats 4000000 in
theorem s_M_endFamily {S : AS} {a0 : Option Nat} {a1 : Int32} {r : AS} (h : f_M_endFamily S a0 a1 = some r) : kr_Con m_M_endFamily 1 [va_rf a0, .int a1] S (kr_eV r) := by
  refine kr_con rfl rfl (by decide +kernel) (by simp [lg_sl, kr_rfcat, kr_icat, m_M_endFamily, mL]) ?_
  rw [show lv_args 0 [va_rf a0, .int a1] = [(0, va_rf a0), (1, .int a1)] from by simp [lv_args, kr_rfcat, kr_icat]]
  unfold f_M_endFamily at h
  refine r_aload_n (i := 0) (x := a0) 0 rfl d_M_endFamily_0 ?_
  have h2 := kr_ob h
  clear h
  obtain ⟨v9, ev9, h⟩ := h2
  refine r_getR ev9 fk87 rfl d_M_endFamily_1 ?_
  refine r_iload_n (i := 1) (x := a1) 1 rfl d_M_endFamily_4 ?_
  have h2 := kr_ob h
  clear h
  obtain ⟨v10, ev10, h⟩ := h2
  refine r_baload ev10 d_M_endFamily_5 ?_
  refine r_if_ne (tgt := 10) d_M_endFamily_6 rfl (fun c => ?_) (fun c => ?_)
  · replace h := kr_ip c h
    cases h
    exact r_vret rfl d_M_endFamily_9
  · replace h := kr_in_ c h
    refine r_aload_n (i := 0) (x := a0) 0 rfl d_M_endFamily_10 ?_
    have h2 := kr_ob h
    clear h
    obtain ⟨v11, ev11, h⟩ := h2
    refine r_getR ev11 fk87 rfl d_M_endFamily_11 ?_
    refine r_iload_n (i := 1) (x := a1) 1 rfl d_M_endFamily_14 ?_
    refine r_iconst (v := (0 : Int32)) (by decide) d_M_endFamily_15 ?_
    have h2 := kr_ob h
    clear h
    obtain ⟨S12, eS12, h⟩ := h2
    refine r_bastore eS12 d_M_endFamily_16 ?_
    refine r_aload_n (i := 0) (x := a0) 0 rfl d_M_endFamily_17 ?_
    refine r_iconst (v := (3 : Int32)) (by decide) d_M_endFamily_18 ?_
    refine r_iload_n (i := 1) (x := a1) 1 rfl d_M_endFamily_19 ?_
    have h2 := kr_ob h
    clear h
    obtain ⟨⟨⟩, eu13, h⟩ := h2
    have h2 := kr_ob h
    clear h
    obtain ⟨S14, eS14, h⟩ := h2
    refine r_callV (M1 := m_M_write) (κ := 23) (As := [.int (3 : Int32), .int a1]) eu13 (s_M_write eS14) mok_M_write rfl (by decide) rfl w1724 w1726 w44 (by decide) (kr_c8 kr_c0) d_M_endFamily_20 (kr_k0 ?_) kr_kn
    refine r_iconst (v := (0 : Int32)) (by decide) d_M_endFamily_23 ?_
    refine r_istore_n (i := 2) (lv' := [(2, .int (0 : Int32)), (0, va_rf a0), (1, .int a1)]) (by decide) rfl d_M_endFamily_24 ?_
    exact kr_sub [1, 2, 0] rfl (s_M_endFamily_L25 kr_FU h)
/-! KeyringCourtModel.endFamiliesOf(I)V -/
def f_M_endFamiliesOf_B30 (k2 : AS → Option Nat → Int32 → Int32 → Option AS) (S : AS) (x0 : Option Nat) (x1 : Int32) (x2 : Int32) : Option AS :=
  (some (x2 + (1 : Int32))).bind fun i1 =>
  k2 S x0 x1 i1
def f_M_endFamiliesOf_C2 (k2 : AS → Option Nat → Int32 → Int32 → Option AS) (S : AS) (x0 : Option Nat) (x1 : Int32) (x2 : Int32) : Option AS :=
  (gI S 23 46 x0).bind fun v2 =>
  if v2 ≤ x2 then
  some S
  else
  (gR S 23 40 x0).bind fun v3 =>
  (gR S 23 47 x0).bind fun v4 =>
  (aI S 40 v4 x2).bind fun v5 =>
  (aI S 40 v3 v5).bind fun v6 =>
  if v6 = x1 then
  (kr_rv S 23 x0).bind fun u7 =>
  (f_M_endFamily S x0 x2).bind fun S8 =>
  f_M_endFamiliesOf_B30 k2 S8 x0 x1 x2
  else
  f_M_endFamiliesOf_B30 k2 S x0 x1 x2
def f_M_endFamiliesOf_L2 : Nat → AS → Option Nat → Int32 → Int32 → Option AS
  | 0, S, x0, x1, x2 => none
  | n + 1, S, x0, x1, x2 => f_M_endFamiliesOf_C2 (f_M_endFamiliesOf_L2 n) S x0 x1 x2
def f_M_endFamiliesOf (S : AS) (a0 : Option Nat) (a1 : Int32) : Option AS :=
  f_M_endFamiliesOf_L2 kr_FU S a0 a1 (0 : Int32)
set_option maxRecDepth 20000 in
set_option maxHeartbeats 4000000 in
theorem s_M_endFamiliesOf_B30 {k2 : AS → Option Nat → Int32 → Int32 → Option AS} (hk2 : ∀ {S : AS} {x0 : Option Nat} {x1 : Int32} {x2 : Int32} {r : AS}, k2 S x0 x1 x2 = some r → kr_AW m_M_endFamiliesOf 2 2 [(0, va_rf x0), (1, .int x1), (2, .int x2)] [] S (kr_eV r)) {S : AS} {x0 : Option Nat} {x1 : Int32} {x2 : Int32} {r : AS} (h : f_M_endFamiliesOf_B30 k2 S x0 x1 x2 = some r) : kr_AW m_M_endFamiliesOf 2 30 [(0, va_rf x0), (1, .int x1), (2, .int x2)] [] S (kr_eV r) := by
  unfold f_M_endFamiliesOf_B30 at h
  have h2 := kr_ob h
  clear h
  obtain ⟨i1, ei1, h⟩ := h2
  refine r_iinc (v := i1) (lv' := [(2, .int i1), (0, va_rf x0), (1, .int x1)]) 2 rfl (kr_inc (by decide) ei1) (by decide) rfl d_M_endFamiliesOf_30 ?_
  refine r_goto (tgt := 2) d_M_endFamiliesOf_33 rfl ?_
  exact kr_sub [1, 2, 0] rfl (hk2 h)
set_option maxRecDepth 20000 in
set_option maxHeartbeats 4000000 in
theorem s_M_endFamiliesOf_C2 {k2 : AS → Option Nat → Int32 → Int32 → Option AS} (hk2 : ∀ {S : AS} {x0 : Option Nat} {x1 : Int32} {x2 : Int32} {r : AS}, k2 S x0 x1 x2 = some r → kr_AW m_M_endFamiliesOf 2 2 [(0, va_rf x0), (1, .int x1), (2, .int x2)] [] S (kr_eV r)) {S : AS} {x0 : Option Nat} {x1 : Int32} {x2 : Int32} {r : AS} (h : f_M_endFamiliesOf_C2 k2 S x0 x1 x2 = some r) : kr_AW m_M_endFamiliesOf 2 2 [(0, va_rf x0), (1, .int x1), (2, .int x2)] [] S (kr_eV r) := by
  unfold f_M_endFamiliesOf_C2 at h
  refine r_iload_n (i := 2) (x := x2) 2 rfl d_M_endFamiliesOf_2 ?_
  refine r_aload_n (i := 0) (x := x0) 0 rfl d_M_endFamiliesOf_3 ?_
  have h2 := kr_ob h
  clear h
  obtain ⟨v2, ev2, h⟩ := h2
  refine r_getI ev2 fk132 rfl d_M_endFamiliesOf_4 ?_
  refine r_icmp_ge (tgt := 36) d_M_endFamiliesOf_7 rfl (fun c => ?_) (fun c => ?_)
  · replace h := kr_ip c h
    cases h
    exact r_vret rfl d_M_endFamiliesOf_36
  · replace h := kr_in_ c h
    refine r_aload_n (i := 0) (x := x0) 0 rfl d_M_endFamiliesOf_10 ?_
    have h2 := kr_ob h
    clear h
    obtain ⟨v3, ev3, h⟩ := h2
    refine r_getR ev3 fk77 rfl d_M_endFamiliesOf_11 ?_
    refine r_aload_n (i := 0) (x := x0) 0 rfl d_M_endFamiliesOf_14 ?_
    have h2 := kr_ob h
    clear h
    obtain ⟨v4, ev4, h⟩ := h2
    refine r_getR ev4 fk83 rfl d_M_endFamiliesOf_15 ?_
    refine r_iload_n (i := 2) (x := x2) 2 rfl d_M_endFamiliesOf_18 ?_
    have h2 := kr_ob h
    clear h
    obtain ⟨v5, ev5, h⟩ := h2
    refine r_iaload ev5 d_M_endFamiliesOf_19 ?_
    have h2 := kr_ob h
    clear h
    obtain ⟨v6, ev6, h⟩ := h2
    refine r_iaload ev6 d_M_endFamiliesOf_20 ?_
    refine r_iload_n (i := 1) (x := x1) 1 rfl d_M_endFamiliesOf_21 ?_
    refine r_icmp_ne (tgt := 30) d_M_endFamiliesOf_22 rfl (fun c => ?_) (fun c => ?_)
    · replace h := kr_ip c h
      refine r_aload_n (i := 0) (x := x0) 0 rfl d_M_endFamiliesOf_25 ?_
      refine r_iload_n (i := 2) (x := x2) 2 rfl d_M_endFamiliesOf_26 ?_
      have h2 := kr_ob h
      clear h
      obtain ⟨⟨⟩, eu7, h⟩ := h2
      have h2 := kr_ob h
      clear h
      obtain ⟨S8, eS8, h⟩ := h2
      refine r_callV (M1 := m_M_endFamily) (κ := 23) (As := [.int x2]) eu7 (s_M_endFamily eS8) mok_M_endFamily rfl (by decide) rfl w1736 w1738 w47 (by decide) (kr_c8 kr_c0) d_M_endFamiliesOf_27 (kr_k0 ?_) kr_kn
      exact kr_sub [0, 1, 2] rfl (s_M_endFamiliesOf_B30 hk2 h)
    · replace h := kr_in_ c h
      exact kr_sub [0, 1, 2] rfl (s_M_endFamiliesOf_B30 hk2 h)
theorem s_M_endFamiliesOf_L2 (n : Nat) : ∀ {S : AS} {x0 : Option Nat} {x1 : Int32} {x2 : Int32} {r : AS}, f_M_endFamiliesOf_L2 n S x0 x1 x2 = some r → kr_AW m_M_endFamiliesOf 2 2 [(0, va_rf x0), (1, .int x1), (2, .int x2)] [] S (kr_eV r) := by
  induction n with
  | zero => intro S x0 x1 x2 r h; cases h
  | succ n ih => intro S x0 x1 x2 r h; exact s_M_endFamiliesOf_C2 (fun {_} {_} {_} {_} {_} h => ih h) h
set_option maxRecDepth 20000 in
set_option maxHeartbeats 4000000 in
theorem s_M_endFamiliesOf {S : AS} {a0 : Option Nat} {a1 : Int32} {r : AS} (h : f_M_endFamiliesOf S a0 a1 = some r) : kr_Con m_M_endFamiliesOf 2 [va_rf a0, .int a1] S (kr_eV r) := by
  refine kr_con rfl rfl (by decide +kernel) (by simp [lg_sl, kr_rfcat, kr_icat, m_M_endFamiliesOf, mL]) ?_
  rw [show lv_args 0 [va_rf a0, .int a1] = [(0, va_rf a0), (1, .int a1)] from by simp [lv_args, kr_rfcat, kr_icat]]
  unfold f_M_endFamiliesOf at h
  refine r_iconst (v := (0 : Int32)) (by decide) d_M_endFamiliesOf_0 ?_
  refine r_istore_n (i := 2) (lv' := [(2, .int (0 : Int32)), (0, va_rf a0), (1, .int a1)]) (by decide) rfl d_M_endFamiliesOf_1 ?_
  exact kr_sub [1, 2, 0] rfl (s_M_endFamiliesOf_L2 kr_FU h)
/-! KeyringCourtModel.endSession(I)I -/
def f_M_endSession_B65 (k17 : AS → Option Nat → Int32 → Int32 → Int32 → Option (Int32 × AS)) (S : AS) (x0 : Option Nat) (x1 : Int32) (x2 : Int32) (x3 : Int32) : Option (Int32 × AS) :=
  (some (x3 + (1 : Int32))).bind fun i1 =>
  k17 S x0 x1 x2 i1
def f_M_endSession_C17 (k17 : AS → Option Nat → Int32 → Int32 → Int32 → Option (Int32 × AS)) (S : AS) (x0 : Option Nat) (x1 : Int32) (x2 : Int32) (x3 : Int32) : Option (Int32 × AS) :=
  (gI S 23 30 x0).bind fun v2 =>
  if v2 ≤ x3 then
  (kr_rv S 23 x0).bind fun u3 =>
  (f_M_endFamiliesOf S x0 x1).bind fun S4 =>
  some (x2, S4)
  else
  (gR S 23 35 x0).bind fun v5 =>
  (aI S 41 v5 x3).bind fun v6 =>
  if v6 = 0 then
  f_M_endSession_B65 k17 S x0 x1 x2 x3
  else
  (gR S 23 34 x0).bind fun v7 =>
  (aI S 40 v7 x3).bind fun v8 =>
  if v8 = x1 then
  (gR S 23 35 x0).bind fun v9 =>
  (bZ S v9 x3 (0 : Int32)).bind fun S10 =>
  (kr_rv S10 23 x0).bind fun u11 =>
  (f_M_write S10 x0 (1 : Int32) x3).bind fun S12 =>
  (kr_rv S12 23 x0).bind fun u13 =>
  (f_M_endFamiliesOf S12 x0 x3).bind fun S14 =>
  (some (x2 + (1 : Int32))).bind fun i15 =>
  f_M_endSession_B65 k17 S14 x0 x1 i15 x3
  else
  f_M_endSession_B65 k17 S x0 x1 x2 x3
def f_M_endSession_L17 : Nat → AS → Option Nat → Int32 → Int32 → Int32 → Option (Int32 × AS)
  | 0, S, x0, x1, x2, x3 => none
  | n + 1, S, x0, x1, x2, x3 => f_M_endSession_C17 (f_M_endSession_L17 n) S x0 x1 x2 x3
def f_M_endSession (S : AS) (a0 : Option Nat) (a1 : Int32) : Option (Int32 × AS) :=
  (gR S 23 35 a0).bind fun v16 =>
  (bZ S v16 a1 (0 : Int32)).bind fun S17 =>
  (kr_rv S17 23 a0).bind fun u18 =>
  (f_M_write S17 a0 (1 : Int32) a1).bind fun S19 =>
  f_M_endSession_L17 kr_FU S19 a0 a1 (1 : Int32) (0 : Int32)
set_option maxRecDepth 20000 in
set_option maxHeartbeats 4000000 in
theorem s_M_endSession_B65 {k17 : AS → Option Nat → Int32 → Int32 → Int32 → Option (Int32 × AS)} (hk17 : ∀ {S : AS} {x0 : Option Nat} {x1 : Int32} {x2 : Int32} {x3 : Int32} {r : (Int32 × AS)}, k17 S x0 x1 x2 x3 = some r → kr_AW m_M_endSession 3 17 [(0, va_rf x0), (1, .int x1), (2, .int x2), (3, .int x3)] [] S (kr_eI r)) {S : AS} {x0 : Option Nat} {x1 : Int32} {x2 : Int32} {x3 : Int32} {r : (Int32 × AS)} (h : f_M_endSession_B65 k17 S x0 x1 x2 x3 = some r) : kr_AW m_M_endSession 3 65 [(0, va_rf x0), (1, .int x1), (2, .int x2), (3, .int x3)] [] S (kr_eI r) := by
  unfold f_M_endSession_B65 at h
  have h2 := kr_ob h
  clear h
  obtain ⟨i1, ei1, h⟩ := h2
  refine r_iinc (v := i1) (lv' := [(3, .int i1), (0, va_rf x0), (1, .int x1), (2, .int x2)]) 3 rfl (kr_inc (by decide) ei1) (by decide) rfl d_M_endSession_65 ?_
  refine r_goto (tgt := 17) d_M_endSession_68 rfl ?_
  exact kr_sub [1, 2, 3, 0] rfl (hk17 h)
set_option maxRecDepth 20000 in
set_option maxHeartbeats 4000000 in
theorem s_M_endSession_C17 {k17 : AS → Option Nat → Int32 → Int32 → Int32 → Option (Int32 × AS)} (hk17 : ∀ {S : AS} {x0 : Option Nat} {x1 : Int32} {x2 : Int32} {x3 : Int32} {r : (Int32 × AS)}, k17 S x0 x1 x2 x3 = some r → kr_AW m_M_endSession 3 17 [(0, va_rf x0), (1, .int x1), (2, .int x2), (3, .int x3)] [] S (kr_eI r)) {S : AS} {x0 : Option Nat} {x1 : Int32} {x2 : Int32} {x3 : Int32} {r : (Int32 × AS)} (h : f_M_endSession_C17 k17 S x0 x1 x2 x3 = some r) : kr_AW m_M_endSession 3 17 [(0, va_rf x0), (1, .int x1), (2, .int x2), (3, .int x3)] [] S (kr_eI r) := by
  unfold f_M_endSession_C17 at h
  refine r_iload_n (i := 3) (x := x3) 3 rfl d_M_endSession_17 ?_
  refine r_aload_n (i := 0) (x := x0) 0 rfl d_M_endSession_18 ?_
  have h2 := kr_ob h
  clear h
  obtain ⟨v2, ev2, h⟩ := h2
  refine r_getI ev2 fk133 rfl d_M_endSession_19 ?_
  refine r_icmp_ge (tgt := 71) d_M_endSession_22 rfl (fun c => ?_) (fun c => ?_)
  · replace h := kr_ip c h
    refine r_aload_n (i := 0) (x := x0) 0 rfl d_M_endSession_71 ?_
    refine r_iload_n (i := 1) (x := x1) 1 rfl d_M_endSession_72 ?_
    have h2 := kr_ob h
    clear h
    obtain ⟨⟨⟩, eu3, h⟩ := h2
    have h2 := kr_ob h
    clear h
    obtain ⟨S4, eS4, h⟩ := h2
    refine r_callV (M1 := m_M_endFamiliesOf) (κ := 23) (As := [.int x1]) eu3 (s_M_endFamiliesOf eS4) mok_M_endFamiliesOf rfl (by decide) rfl w1732 w1734 w46 (by decide) (kr_c8 kr_c0) d_M_endSession_73 (kr_k0 ?_) kr_kn
    refine r_iload_n (i := 2) (x := x2) 2 rfl d_M_endSession_76 ?_
    cases h
    exact r_iret rfl d_M_endSession_77
  · replace h := kr_in_ c h
    refine r_aload_n (i := 0) (x := x0) 0 rfl d_M_endSession_25 ?_
    have h2 := kr_ob h
    clear h
    obtain ⟨v5, ev5, h⟩ := h2
    refine r_getR ev5 fk73 rfl d_M_endSession_26 ?_
    refine r_iload_n (i := 3) (x := x3) 3 rfl d_M_endSession_29 ?_
    have h2 := kr_ob h
    clear h
    obtain ⟨v6, ev6, h⟩ := h2
    refine r_baload ev6 d_M_endSession_30 ?_
    refine r_if_eq (tgt := 65) d_M_endSession_31 rfl (fun c => ?_) (fun c => ?_)
    · replace h := kr_ip c h
      exact kr_sub [0, 1, 2, 3] rfl (s_M_endSession_B65 hk17 h)
    · replace h := kr_in_ c h
      refine r_aload_n (i := 0) (x := x0) 0 rfl d_M_endSession_34 ?_
      have h2 := kr_ob h
      clear h
      obtain ⟨v7, ev7, h⟩ := h2
      refine r_getR ev7 fk72 rfl d_M_endSession_35 ?_
      refine r_iload_n (i := 3) (x := x3) 3 rfl d_M_endSession_38 ?_
      have h2 := kr_ob h
      clear h
      obtain ⟨v8, ev8, h⟩ := h2
      refine r_iaload ev8 d_M_endSession_39 ?_
      refine r_iload_n (i := 1) (x := x1) 1 rfl d_M_endSession_40 ?_
      refine r_icmp_ne (tgt := 65) d_M_endSession_41 rfl (fun c => ?_) (fun c => ?_)
      · replace h := kr_ip c h
        refine r_aload_n (i := 0) (x := x0) 0 rfl d_M_endSession_44 ?_
        have h2 := kr_ob h
        clear h
        obtain ⟨v9, ev9, h⟩ := h2
        refine r_getR ev9 fk73 rfl d_M_endSession_45 ?_
        refine r_iload_n (i := 3) (x := x3) 3 rfl d_M_endSession_48 ?_
        refine r_iconst (v := (0 : Int32)) (by decide) d_M_endSession_49 ?_
        have h2 := kr_ob h
        clear h
        obtain ⟨S10, eS10, h⟩ := h2
        refine r_bastore eS10 d_M_endSession_50 ?_
        refine r_aload_n (i := 0) (x := x0) 0 rfl d_M_endSession_51 ?_
        refine r_iconst (v := (1 : Int32)) (by decide) d_M_endSession_52 ?_
        refine r_iload_n (i := 3) (x := x3) 3 rfl d_M_endSession_53 ?_
        have h2 := kr_ob h
        clear h
        obtain ⟨⟨⟩, eu11, h⟩ := h2
        have h2 := kr_ob h
        clear h
        obtain ⟨S12, eS12, h⟩ := h2
        refine r_callV (M1 := m_M_write) (κ := 23) (As := [.int (1 : Int32), .int x3]) eu11 (s_M_write eS12) mok_M_write rfl (by decide) rfl w1724 w1726 w44 (by decide) (kr_c8 kr_c0) d_M_endSession_54 (kr_k0 ?_) kr_kn
        refine r_aload_n (i := 0) (x := x0) 0 rfl d_M_endSession_57 ?_
        refine r_iload_n (i := 3) (x := x3) 3 rfl d_M_endSession_58 ?_
        have h2 := kr_ob h
        clear h
        obtain ⟨⟨⟩, eu13, h⟩ := h2
        have h2 := kr_ob h
        clear h
        obtain ⟨S14, eS14, h⟩ := h2
        refine r_callV (M1 := m_M_endFamiliesOf) (κ := 23) (As := [.int x3]) eu13 (s_M_endFamiliesOf eS14) mok_M_endFamiliesOf rfl (by decide) rfl w1732 w1734 w46 (by decide) (kr_c8 kr_c0) d_M_endSession_59 (kr_k0 ?_) kr_kn
        have h2 := kr_ob h
        clear h
        obtain ⟨i15, ei15, h⟩ := h2
        refine r_iinc (v := i15) (lv' := [(2, .int i15), (0, va_rf x0), (1, .int x1), (3, .int x3)]) 2 rfl (kr_inc (by decide) ei15) (by decide) rfl d_M_endSession_62 ?_
        exact kr_sub [1, 2, 0, 3] rfl (s_M_endSession_B65 hk17 h)
      · replace h := kr_in_ c h
        exact kr_sub [0, 1, 2, 3] rfl (s_M_endSession_B65 hk17 h)
theorem s_M_endSession_L17 (n : Nat) : ∀ {S : AS} {x0 : Option Nat} {x1 : Int32} {x2 : Int32} {x3 : Int32} {r : (Int32 × AS)}, f_M_endSession_L17 n S x0 x1 x2 x3 = some r → kr_AW m_M_endSession 3 17 [(0, va_rf x0), (1, .int x1), (2, .int x2), (3, .int x3)] [] S (kr_eI r) := by
  induction n with
  | zero => intro S x0 x1 x2 x3 r h; cases h
  | succ n ih => intro S x0 x1 x2 x3 r h; exact s_M_endSession_C17 (fun {_} {_} {_} {_} {_} {_} h => ih h) h
set_option maxRecDepth 20000 in
set_option maxHeartbeats 4000000 in
theorem s_M_endSession {S : AS} {a0 : Option Nat} {a1 : Int32} {r : (Int32 × AS)} (h : f_M_endSession S a0 a1 = some r) : kr_Con m_M_endSession 3 [va_rf a0, .int a1] S (kr_eI r) := by
  refine kr_con rfl rfl (by decide +kernel) (by simp [lg_sl, kr_rfcat, kr_icat, m_M_endSession, mL]) ?_
  rw [show lv_args 0 [va_rf a0, .int a1] = [(0, va_rf a0), (1, .int a1)] from by simp [lv_args, kr_rfcat, kr_icat]]
  unfold f_M_endSession at h
  refine r_aload_n (i := 0) (x := a0) 0 rfl d_M_endSession_0 ?_
  have h2 := kr_ob h
  clear h
  obtain ⟨v16, ev16, h⟩ := h2
  refine r_getR ev16 fk73 rfl d_M_endSession_1 ?_
  refine r_iload_n (i := 1) (x := a1) 1 rfl d_M_endSession_4 ?_
  refine r_iconst (v := (0 : Int32)) (by decide) d_M_endSession_5 ?_
  have h2 := kr_ob h
  clear h
  obtain ⟨S17, eS17, h⟩ := h2
  refine r_bastore eS17 d_M_endSession_6 ?_
  refine r_aload_n (i := 0) (x := a0) 0 rfl d_M_endSession_7 ?_
  refine r_iconst (v := (1 : Int32)) (by decide) d_M_endSession_8 ?_
  refine r_iload_n (i := 1) (x := a1) 1 rfl d_M_endSession_9 ?_
  have h2 := kr_ob h
  clear h
  obtain ⟨⟨⟩, eu18, h⟩ := h2
  have h2 := kr_ob h
  clear h
  obtain ⟨S19, eS19, h⟩ := h2
  refine r_callV (M1 := m_M_write) (κ := 23) (As := [.int (1 : Int32), .int a1]) eu18 (s_M_write eS19) mok_M_write rfl (by decide) rfl w1724 w1726 w44 (by decide) (kr_c8 kr_c0) d_M_endSession_10 (kr_k0 ?_) kr_kn
  refine r_iconst (v := (1 : Int32)) (by decide) d_M_endSession_13 ?_
  refine r_istore_n (i := 2) (lv' := [(2, .int (1 : Int32)), (0, va_rf a0), (1, .int a1)]) (by decide) rfl d_M_endSession_14 ?_
  refine r_iconst (v := (0 : Int32)) (by decide) d_M_endSession_15 ?_
  refine r_istore_n (i := 3) (lv' := [(3, .int (0 : Int32)), (2, .int (1 : Int32)), (0, va_rf a0), (1, .int a1)]) (by decide) rfl d_M_endSession_16 ?_
  exact kr_sub [2, 3, 1, 0] rfl (s_M_endSession_L17 kr_FU h)
/-! KeyringCourtModel.pass(I)I -/
def f_M_pass_B198 (k45 : AS → Option Nat → Int32 → Int32 → Int32 → Option (Int32 × AS)) (k121 : AS → Option Nat → Int32 → Int32 → Int32 → Int32 → Option (Int32 × AS)) (S : AS) (x0 : Option Nat) (x1 : Int32) (x4 : Int32) (x5 : Int32) (y0 : Int32) (y1 : Int32) : Option (Int32 × AS) :=
  (some (y0 + y1)).bind fun i1 =>
  (some (x5 + (1 : Int32))).bind fun i2 =>
  k121 S x0 x1 i1 x4 i2
def f_M_pass_B180 (k45 : AS → Option Nat → Int32 → Int32 → Int32 → Option (Int32 × AS)) (k121 : AS → Option Nat → Int32 → Int32 → Int32 → Int32 → Option (Int32 × AS)) (S : AS) (x0 : Option Nat) (x1 : Int32) (x3 : Int32) (x4 : Int32) (x5 : Int32) (y0 : Int32) : Option (Int32 × AS) :=
  if y0 = 0 then
  f_M_pass_B198 k45 k121 S x0 x1 x4 x5 x3 (0 : Int32)
  else
  (kr_rv S 23 x0).bind fun u3 =>
  kr_b2 (f_M_endSession S x0 x5) fun v5 S4 =>
  f_M_pass_B198 k45 k121 S4 x0 x1 x4 x5 x3 v5
def f_M_pass_B175 (k45 : AS → Option Nat → Int32 → Int32 → Int32 → Option (Int32 × AS)) (k121 : AS → Option Nat → Int32 → Int32 → Int32 → Int32 → Option (Int32 × AS)) (S : AS) (x0 : Option Nat) (x1 : Int32) (x3 : Int32) (x4 : Int32) (x5 : Int32) : Option (Int32 × AS) :=
  f_M_pass_B180 k45 k121 S x0 x1 x3 x4 x5 (1 : Int32)
def f_M_pass_B179 (k45 : AS → Option Nat → Int32 → Int32 → Int32 → Option (Int32 × AS)) (k121 : AS → Option Nat → Int32 → Int32 → Int32 → Int32 → Option (Int32 × AS)) (S : AS) (x0 : Option Nat) (x1 : Int32) (x3 : Int32) (x4 : Int32) (x5 : Int32) : Option (Int32 × AS) :=
  f_M_pass_B180 k45 k121 S x0 x1 x3 x4 x5 (0 : Int32)
def f_M_pass_C121 (k45 : AS → Option Nat → Int32 → Int32 → Int32 → Option (Int32 × AS)) (k121 : AS → Option Nat → Int32 → Int32 → Int32 → Int32 → Option (Int32 × AS)) (S : AS) (x0 : Option Nat) (x1 : Int32) (x3 : Int32) (x4 : Int32) (x5 : Int32) : Option (Int32 × AS) :=
  (gI S 23 30 x0).bind fun v6 =>
  if v6 ≤ x5 then
  (some (x4 + (1 : Int32))).bind fun i7 =>
  k45 S x0 x1 x3 i7
  else
  (gR S 23 35 x0).bind fun v8 =>
  (aI S 41 v8 x5).bind fun v9 =>
  if v9 = 0 then
  f_M_pass_B179 k45 k121 S x0 x1 x3 x4 x5
  else
  (gI S 23 0 x0).bind fun v10 =>
  (gR S 23 33 x0).bind fun v11 =>
  (aI S 40 v11 x5).bind fun v12 =>
  if (30 : Int32) < (v10 - v12) then
  f_M_pass_B175 k45 k121 S x0 x1 x3 x4 x5
  else
  (gI S 23 0 x0).bind fun v13 =>
  (gR S 23 32 x0).bind fun v14 =>
  (aI S 40 v14 x5).bind fun v15 =>
  if (v13 - v15) ≤ (480 : Int32) then
  f_M_pass_B179 k45 k121 S x0 x1 x3 x4 x5
  else
  f_M_pass_B175 k45 k121 S x0 x1 x3 x4 x5
def f_M_pass_L121 (k45 : AS → Option Nat → Int32 → Int32 → Int32 → Option (Int32 × AS)) : Nat → AS → Option Nat → Int32 → Int32 → Int32 → Int32 → Option (Int32 × AS)
  | 0, S, x0, x1, x3, x4, x5 => none
  | n + 1, S, x0, x1, x3, x4, x5 => f_M_pass_C121 k45 (f_M_pass_L121 k45 n) S x0 x1 x3 x4 x5
def f_M_pass_B118 (k45 : AS → Option Nat → Int32 → Int32 → Int32 → Option (Int32 × AS)) (S : AS) (x0 : Option Nat) (x1 : Int32) (x3 : Int32) (x4 : Int32) : Option (Int32 × AS) :=
  f_M_pass_L121 k45 kr_FU S x0 x1 x3 x4 (0 : Int32)
def f_M_pass_C45 (k45 : AS → Option Nat → Int32 → Int32 → Int32 → Option (Int32 × AS)) (S : AS) (x0 : Option Nat) (x1 : Int32) (x3 : Int32) (x4 : Int32) : Option (Int32 × AS) :=
  if x1 ≤ x4 then
  some (x3, S)
  else
  (gI S 23 0 x0).bind fun v16 =>
  (pI S 23 0 x0 (v16 + (1 : Int32))).bind fun S17 =>
  (gI S17 23 62 x0).bind fun v18 =>
  if v18 = (-1 : Int32) then
  f_M_pass_B118 k45 S17 x0 x1 x3 x4
  else
  (gI S17 23 0 x0).bind fun v19 =>
  (gI S17 23 63 x0).bind fun v20 =>
  if v19 < v20 then
  f_M_pass_B118 k45 S17 x0 x1 x3 x4
  else
  (gR S17 23 65 x0).bind fun v21 =>
  (gI S17 23 61 x0).bind fun v22 =>
  (gI S17 23 0 x0).bind fun v23 =>
  (bI S17 v21 v22 (v23 + (20 : Int32))).bind fun S24 =>
  (gI S24 23 62 x0).bind fun v25 =>
  (pI S24 23 61 x0 v25).bind fun S26 =>
  (pI S26 23 62 x0 (-1 : Int32)).bind fun S27 =>
  (gI S27 23 61 x0).bind fun v28 =>
  (kr_rv S27 23 x0).bind fun u29 =>
  (f_M_write S27 x0 (5 : Int32) v28).bind fun S30 =>
  f_M_pass_B118 k45 S30 x0 x1 x3 x4
def f_M_pass_L45 : Nat → AS → Option Nat → Int32 → Int32 → Int32 → Option (Int32 × AS)
  | 0, S, x0, x1, x3, x4 => none
  | n + 1, S, x0, x1, x3, x4 => f_M_pass_C45 (f_M_pass_L45 n) S x0 x1 x3 x4
def f_M_pass_B32 (S : AS) (x0 : Option Nat) (x1 : Int32) (y0 : Option Nat) (y1 : Int32) (y2 : Int32) : Option (Int32 × AS) :=
  (kr_rv S 23 y0).bind fun u31 =>
  kr_b2 (f_M_mayBoth S y0 y1 y2) fun v33 S32 =>
  if v33 = 0 then
  some ((0 : Int32), S32)
  else
  f_M_pass_L45 kr_FU S32 x0 x1 (0 : Int32) (0 : Int32)
def f_M_pass_B31 (S : AS) (x0 : Option Nat) (x1 : Int32) (y0 : Option Nat) (y1 : Int32) : Option (Int32 × AS) :=
  f_M_pass_B32 S x0 x1 y0 y1 (0 : Int32)
def f_M_pass (S : AS) (a0 : Option Nat) (a1 : Int32) : Option (Int32 × AS) :=
  kr_b2 (f_M_isIn S a1 (1 : Int32) (600 : Int32)) fun v35 S34 =>
  if v35 = 0 then
  f_M_pass_B31 S34 a0 a1 a0 v35
  else
  (gI S34 23 0 a0).bind fun v36 =>
  if (30000 : Int32) < (v36 + a1) then
  f_M_pass_B31 S34 a0 a1 a0 v35
  else
  f_M_pass_B32 S34 a0 a1 a0 v35 (1 : Int32)
set_option maxRecDepth 20000 in
set_option maxHeartbeats 4000000 in
theorem s_M_pass_B198 {k45 : AS → Option Nat → Int32 → Int32 → Int32 → Option (Int32 × AS)} (hk45 : ∀ {S : AS} {x0 : Option Nat} {x1 : Int32} {x3 : Int32} {x4 : Int32} {r : (Int32 × AS)}, k45 S x0 x1 x3 x4 = some r → kr_AW m_M_pass 4 45 [(0, va_rf x0), (1, .int x1), (3, .int x3), (4, .int x4)] [] S (kr_eI r)) {k121 : AS → Option Nat → Int32 → Int32 → Int32 → Int32 → Option (Int32 × AS)} (hk121 : ∀ {S : AS} {x0 : Option Nat} {x1 : Int32} {x3 : Int32} {x4 : Int32} {x5 : Int32} {r : (Int32 × AS)}, k121 S x0 x1 x3 x4 x5 = some r → kr_AW m_M_pass 4 121 [(0, va_rf x0), (1, .int x1), (3, .int x3), (4, .int x4), (5, .int x5)] [] S (kr_eI r)) {S : AS} {x0 : Option Nat} {x1 : Int32} {x4 : Int32} {x5 : Int32} {y0 : Int32} {y1 : Int32} {r : (Int32 × AS)} (h : f_M_pass_B198 k45 k121 S x0 x1 x4 x5 y0 y1 = some r) : kr_AW m_M_pass 4 198 [(0, va_rf x0), (1, .int x1), (4, .int x4), (5, .int x5)] [.int y1, .int y0] S (kr_eI r) := by
  unfold f_M_pass_B198 at h
  refine r_iadd d_M_pass_198 ?_
  have h2 := kr_ob h
  clear h
  obtain ⟨i1, ei1, h⟩ := h2
  refine kr_nmI ei1 ?_
  refine r_istore_n (i := 3) (lv' := [(3, .int i1), (0, va_rf x0), (1, .int x1), (4, .int x4), (5, .int x5)]) (by decide) rfl d_M_pass_199 ?_
  have h2 := kr_ob h
  clear h
  obtain ⟨i2, ei2, h⟩ := h2
  refine r_iinc (v := i2) (lv' := [(5, .int i2), (3, .int i1), (0, va_rf x0), (1, .int x1), (4, .int x4)]) 4 rfl (kr_inc (by decide) ei2) (by decide) rfl d_M_pass_200 ?_
  refine r_goto (tgt := 121) d_M_pass_203 rfl ?_
  exact kr_sub [2, 3, 1, 4, 0] rfl (hk121 h)
set_option maxRecDepth 20000 in
set_option maxHeartbeats 4000000 in
theorem s_M_pass_B180 {k45 : AS → Option Nat → Int32 → Int32 → Int32 → Option (Int32 × AS)} (hk45 : ∀ {S : AS} {x0 : Option Nat} {x1 : Int32} {x3 : Int32} {x4 : Int32} {r : (Int32 × AS)}, k45 S x0 x1 x3 x4 = some r → kr_AW m_M_pass 4 45 [(0, va_rf x0), (1, .int x1), (3, .int x3), (4, .int x4)] [] S (kr_eI r)) {k121 : AS → Option Nat → Int32 → Int32 → Int32 → Int32 → Option (Int32 × AS)} (hk121 : ∀ {S : AS} {x0 : Option Nat} {x1 : Int32} {x3 : Int32} {x4 : Int32} {x5 : Int32} {r : (Int32 × AS)}, k121 S x0 x1 x3 x4 x5 = some r → kr_AW m_M_pass 4 121 [(0, va_rf x0), (1, .int x1), (3, .int x3), (4, .int x4), (5, .int x5)] [] S (kr_eI r)) {S : AS} {x0 : Option Nat} {x1 : Int32} {x3 : Int32} {x4 : Int32} {x5 : Int32} {y0 : Int32} {r : (Int32 × AS)} (h : f_M_pass_B180 k45 k121 S x0 x1 x3 x4 x5 y0 = some r) : kr_AW m_M_pass 4 180 [(0, va_rf x0), (1, .int x1), (3, .int x3), (4, .int x4), (5, .int x5)] [.int y0] S (kr_eI r) := by
  unfold f_M_pass_B180 at h
  refine r_istore (i := 6) (lv' := [(6, .int y0), (0, va_rf x0), (1, .int x1), (3, .int x3), (4, .int x4), (5, .int x5)]) (by decide) rfl d_M_pass_180 ?_
  refine r_iload_n (i := 3) (x := x3) 3 rfl d_M_pass_182 ?_
  refine r_iload (i := 6) (x := y0) 0 rfl d_M_pass_183 ?_
  refine r_if_eq (tgt := 197) d_M_pass_185 rfl (fun c => ?_) (fun c => ?_)
  · replace h := kr_ip c h
    refine r_iconst (v := (0 : Int32)) (by decide) d_M_pass_197 ?_
    exact kr_sub [1, 2, 4, 5] rfl (s_M_pass_B198 hk45 hk121 h)
  · replace h := kr_in_ c h
    refine r_aload_n (i := 0) (x := x0) 1 rfl d_M_pass_188 ?_
    refine r_iload (i := 5) (x := x5) 5 rfl d_M_pass_189 ?_
    have h2 := kr_ob h
    clear h
    obtain ⟨⟨⟩, eu3, h⟩ := h2
    have h2 := kr_ob2 h
    clear h
    obtain ⟨v5, S4, eS4, h⟩ := h2
    refine r_callV (M1 := m_M_endSession) (κ := 23) (As := [.int x5]) eu3 (s_M_endSession eS4) mok_M_endSession rfl (by decide) rfl w1728 w1730 w45 (by decide) (kr_c8 (kr_cI kr_c0)) d_M_pass_191 (kr_k1 ?_) kr_kn
    refine r_goto (tgt := 198) d_M_pass_194 rfl ?_
    exact kr_sub [1, 2, 4, 5] rfl (s_M_pass_B198 hk45 hk121 h)
set_option maxRecDepth 20000 in
set_option maxHeartbeats 4000000 in
theorem s_M_pass_B175 {k45 : AS → Option Nat → Int32 → Int32 → Int32 → Option (Int32 × AS)} (hk45 : ∀ {S : AS} {x0 : Option Nat} {x1 : Int32} {x3 : Int32} {x4 : Int32} {r : (Int32 × AS)}, k45 S x0 x1 x3 x4 = some r → kr_AW m_M_pass 4 45 [(0, va_rf x0), (1, .int x1), (3, .int x3), (4, .int x4)] [] S (kr_eI r)) {k121 : AS → Option Nat → Int32 → Int32 → Int32 → Int32 → Option (Int32 × AS)} (hk121 : ∀ {S : AS} {x0 : Option Nat} {x1 : Int32} {x3 : Int32} {x4 : Int32} {x5 : Int32} {r : (Int32 × AS)}, k121 S x0 x1 x3 x4 x5 = some r → kr_AW m_M_pass 4 121 [(0, va_rf x0), (1, .int x1), (3, .int x3), (4, .int x4), (5, .int x5)] [] S (kr_eI r)) {S : AS} {x0 : Option Nat} {x1 : Int32} {x3 : Int32} {x4 : Int32} {x5 : Int32} {r : (Int32 × AS)} (h : f_M_pass_B175 k45 k121 S x0 x1 x3 x4 x5 = some r) : kr_AW m_M_pass 4 175 [(0, va_rf x0), (1, .int x1), (3, .int x3), (4, .int x4), (5, .int x5)] [] S (kr_eI r) := by
  unfold f_M_pass_B175 at h
  refine r_iconst (v := (1 : Int32)) (by decide) d_M_pass_175 ?_
  refine r_goto (tgt := 180) d_M_pass_176 rfl ?_
  exact kr_sub [0, 1, 2, 3, 4] rfl (s_M_pass_B180 hk45 hk121 h)
set_option maxRecDepth 20000 in
set_option maxHeartbeats 4000000 in
theorem s_M_pass_B179 {k45 : AS → Option Nat → Int32 → Int32 → Int32 → Option (Int32 × AS)} (hk45 : ∀ {S : AS} {x0 : Option Nat} {x1 : Int32} {x3 : Int32} {x4 : Int32} {r : (Int32 × AS)}, k45 S x0 x1 x3 x4 = some r → kr_AW m_M_pass 4 45 [(0, va_rf x0), (1, .int x1), (3, .int x3), (4, .int x4)] [] S (kr_eI r)) {k121 : AS → Option Nat → Int32 → Int32 → Int32 → Int32 → Option (Int32 × AS)} (hk121 : ∀ {S : AS} {x0 : Option Nat} {x1 : Int32} {x3 : Int32} {x4 : Int32} {x5 : Int32} {r : (Int32 × AS)}, k121 S x0 x1 x3 x4 x5 = some r → kr_AW m_M_pass 4 121 [(0, va_rf x0), (1, .int x1), (3, .int x3), (4, .int x4), (5, .int x5)] [] S (kr_eI r)) {S : AS} {x0 : Option Nat} {x1 : Int32} {x3 : Int32} {x4 : Int32} {x5 : Int32} {r : (Int32 × AS)} (h : f_M_pass_B179 k45 k121 S x0 x1 x3 x4 x5 = some r) : kr_AW m_M_pass 4 179 [(0, va_rf x0), (1, .int x1), (3, .int x3), (4, .int x4), (5, .int x5)] [] S (kr_eI r) := by
  unfold f_M_pass_B179 at h
  refine r_iconst (v := (0 : Int32)) (by decide) d_M_pass_179 ?_
  exact kr_sub [0, 1, 2, 3, 4] rfl (s_M_pass_B180 hk45 hk121 h)
set_option maxRecDepth 20000 in
set_option maxHeartbeats 4000000 in
theorem s_M_pass_C121 {k45 : AS → Option Nat → Int32 → Int32 → Int32 → Option (Int32 × AS)} (hk45 : ∀ {S : AS} {x0 : Option Nat} {x1 : Int32} {x3 : Int32} {x4 : Int32} {r : (Int32 × AS)}, k45 S x0 x1 x3 x4 = some r → kr_AW m_M_pass 4 45 [(0, va_rf x0), (1, .int x1), (3, .int x3), (4, .int x4)] [] S (kr_eI r)) {k121 : AS → Option Nat → Int32 → Int32 → Int32 → Int32 → Option (Int32 × AS)} (hk121 : ∀ {S : AS} {x0 : Option Nat} {x1 : Int32} {x3 : Int32} {x4 : Int32} {x5 : Int32} {r : (Int32 × AS)}, k121 S x0 x1 x3 x4 x5 = some r → kr_AW m_M_pass 4 121 [(0, va_rf x0), (1, .int x1), (3, .int x3), (4, .int x4), (5, .int x5)] [] S (kr_eI r)) {S : AS} {x0 : Option Nat} {x1 : Int32} {x3 : Int32} {x4 : Int32} {x5 : Int32} {r : (Int32 × AS)} (h : f_M_pass_C121 k45 k121 S x0 x1 x3 x4 x5 = some r) : kr_AW m_M_pass 4 121 [(0, va_rf x0), (1, .int x1), (3, .int x3), (4, .int x4), (5, .int x5)] [] S (kr_eI r) := by
  unfold f_M_pass_C121 at h
  refine r_iload (i := 5) (x := x5) 4 rfl d_M_pass_121 ?_
  refine r_aload_n (i := 0) (x := x0) 0 rfl d_M_pass_123 ?_
  have h2 := kr_ob h
  clear h
  obtain ⟨v6, ev6, h⟩ := h2
  refine r_getI ev6 fk133 rfl d_M_pass_124 ?_
  refine r_icmp_ge (tgt := 206) d_M_pass_127 rfl (fun c => ?_) (fun c => ?_)
  · replace h := kr_ip c h
    have h2 := kr_ob h
    clear h
    obtain ⟨i7, ei7, h⟩ := h2
    refine r_iinc (v := i7) (lv' := [(4, .int i7), (0, va_rf x0), (1, .int x1), (3, .int x3), (5, .int x5)]) 3 rfl (kr_inc (by decide) ei7) (by decide) rfl d_M_pass_206 ?_
    refine r_goto (tgt := 45) d_M_pass_209 rfl ?_
    exact kr_sub [1, 2, 3, 0] rfl (hk45 h)
  · replace h := kr_in_ c h
    refine r_aload_n (i := 0) (x := x0) 0 rfl d_M_pass_130 ?_
    have h2 := kr_ob h
    clear h
    obtain ⟨v8, ev8, h⟩ := h2
    refine r_getR ev8 fk73 rfl d_M_pass_131 ?_
    refine r_iload (i := 5) (x := x5) 4 rfl d_M_pass_134 ?_
    have h2 := kr_ob h
    clear h
    obtain ⟨v9, ev9, h⟩ := h2
    refine r_baload ev9 d_M_pass_136 ?_
    refine r_if_eq (tgt := 179) d_M_pass_137 rfl (fun c => ?_) (fun c => ?_)
    · replace h := kr_ip c h
      exact kr_sub [0, 1, 2, 3, 4] rfl (s_M_pass_B179 hk45 hk121 h)
    · replace h := kr_in_ c h
      refine r_aload_n (i := 0) (x := x0) 0 rfl d_M_pass_140 ?_
      have h2 := kr_ob h
      clear h
      obtain ⟨v10, ev10, h⟩ := h2
      refine r_getI ev10 fk130 rfl d_M_pass_141 ?_
      refine r_aload_n (i := 0) (x := x0) 0 rfl d_M_pass_144 ?_
      have h2 := kr_ob h
      clear h
      obtain ⟨v11, ev11, h⟩ := h2
      refine r_getR ev11 fk71 rfl d_M_pass_145 ?_
      refine r_iload (i := 5) (x := x5) 4 rfl d_M_pass_148 ?_
      have h2 := kr_ob h
      clear h
      obtain ⟨v12, ev12, h⟩ := h2
      refine r_iaload ev12 d_M_pass_150 ?_
      refine r_isub d_M_pass_151 ?_
      refine r_bipush (v := (30 : Int32)) (by decide) d_M_pass_152 ?_
      refine r_icmp_gt (tgt := 175) d_M_pass_154 rfl (fun c => ?_) (fun c => ?_)
      · replace h := kr_ip c h
        exact kr_sub [0, 1, 2, 3, 4] rfl (s_M_pass_B175 hk45 hk121 h)
      · replace h := kr_in_ c h
        refine r_aload_n (i := 0) (x := x0) 0 rfl d_M_pass_157 ?_
        have h2 := kr_ob h
        clear h
        obtain ⟨v13, ev13, h⟩ := h2
        refine r_getI ev13 fk130 rfl d_M_pass_158 ?_
        refine r_aload_n (i := 0) (x := x0) 0 rfl d_M_pass_161 ?_
        have h2 := kr_ob h
        clear h
        obtain ⟨v14, ev14, h⟩ := h2
        refine r_getR ev14 fk70 rfl d_M_pass_162 ?_
        refine r_iload (i := 5) (x := x5) 4 rfl d_M_pass_165 ?_
        have h2 := kr_ob h
        clear h
        obtain ⟨v15, ev15, h⟩ := h2
        refine r_iaload ev15 d_M_pass_167 ?_
        refine r_isub d_M_pass_168 ?_
        refine r_sipush (v := (480 : Int32)) (by decide) d_M_pass_169 ?_
        refine r_icmp_le (tgt := 179) d_M_pass_172 rfl (fun c => ?_) (fun c => ?_)
        · replace h := kr_ip c h
          exact kr_sub [0, 1, 2, 3, 4] rfl (s_M_pass_B179 hk45 hk121 h)
        · replace h := kr_in_ c h
          exact kr_sub [0, 1, 2, 3, 4] rfl (s_M_pass_B175 hk45 hk121 h)
theorem s_M_pass_L121 {k45 : AS → Option Nat → Int32 → Int32 → Int32 → Option (Int32 × AS)} (hk45 : ∀ {S : AS} {x0 : Option Nat} {x1 : Int32} {x3 : Int32} {x4 : Int32} {r : (Int32 × AS)}, k45 S x0 x1 x3 x4 = some r → kr_AW m_M_pass 4 45 [(0, va_rf x0), (1, .int x1), (3, .int x3), (4, .int x4)] [] S (kr_eI r)) (n : Nat) : ∀ {S : AS} {x0 : Option Nat} {x1 : Int32} {x3 : Int32} {x4 : Int32} {x5 : Int32} {r : (Int32 × AS)}, f_M_pass_L121 k45 n S x0 x1 x3 x4 x5 = some r → kr_AW m_M_pass 4 121 [(0, va_rf x0), (1, .int x1), (3, .int x3), (4, .int x4), (5, .int x5)] [] S (kr_eI r) := by
  induction n with
  | zero => intro S x0 x1 x3 x4 x5 r h; cases h
  | succ n ih => intro S x0 x1 x3 x4 x5 r h; exact s_M_pass_C121 hk45 (fun {_} {_} {_} {_} {_} {_} {_} h => ih h) h
set_option maxRecDepth 20000 in
set_option maxHeartbeats 4000000 in
theorem s_M_pass_B118 {k45 : AS → Option Nat → Int32 → Int32 → Int32 → Option (Int32 × AS)} (hk45 : ∀ {S : AS} {x0 : Option Nat} {x1 : Int32} {x3 : Int32} {x4 : Int32} {r : (Int32 × AS)}, k45 S x0 x1 x3 x4 = some r → kr_AW m_M_pass 4 45 [(0, va_rf x0), (1, .int x1), (3, .int x3), (4, .int x4)] [] S (kr_eI r)) {S : AS} {x0 : Option Nat} {x1 : Int32} {x3 : Int32} {x4 : Int32} {r : (Int32 × AS)} (h : f_M_pass_B118 k45 S x0 x1 x3 x4 = some r) : kr_AW m_M_pass 4 118 [(0, va_rf x0), (1, .int x1), (3, .int x3), (4, .int x4)] [] S (kr_eI r) := by
  unfold f_M_pass_B118 at h
  refine r_iconst (v := (0 : Int32)) (by decide) d_M_pass_118 ?_
  refine r_istore (i := 5) (lv' := [(5, .int (0 : Int32)), (0, va_rf x0), (1, .int x1), (3, .int x3), (4, .int x4)]) (by decide) rfl d_M_pass_119 ?_
  exact kr_sub [1, 2, 3, 4, 0] rfl (s_M_pass_L121 hk45 kr_FU h)
set_option maxRecDepth 20000 in
set_option maxHeartbeats 4000000 in
theorem s_M_pass_C45 {k45 : AS → Option Nat → Int32 → Int32 → Int32 → Option (Int32 × AS)} (hk45 : ∀ {S : AS} {x0 : Option Nat} {x1 : Int32} {x3 : Int32} {x4 : Int32} {r : (Int32 × AS)}, k45 S x0 x1 x3 x4 = some r → kr_AW m_M_pass 4 45 [(0, va_rf x0), (1, .int x1), (3, .int x3), (4, .int x4)] [] S (kr_eI r)) {S : AS} {x0 : Option Nat} {x1 : Int32} {x3 : Int32} {x4 : Int32} {r : (Int32 × AS)} (h : f_M_pass_C45 k45 S x0 x1 x3 x4 = some r) : kr_AW m_M_pass 4 45 [(0, va_rf x0), (1, .int x1), (3, .int x3), (4, .int x4)] [] S (kr_eI r) := by
  unfold f_M_pass_C45 at h
  refine r_iload (i := 4) (x := x4) 3 rfl d_M_pass_45 ?_
  refine r_iload_n (i := 1) (x := x1) 1 rfl d_M_pass_47 ?_
  refine r_icmp_ge (tgt := 212) d_M_pass_48 rfl (fun c => ?_) (fun c => ?_)
  · replace h := kr_ip c h
    refine r_iload_n (i := 3) (x := x3) 2 rfl d_M_pass_212 ?_
    cases h
    exact r_iret rfl d_M_pass_213
  · replace h := kr_in_ c h
    refine r_aload_n (i := 0) (x := x0) 0 rfl d_M_pass_51 ?_
    refine r_dup (kr_rfcat _) d_M_pass_52 ?_
    have h2 := kr_ob h
    clear h
    obtain ⟨v16, ev16, h⟩ := h2
    refine r_getI ev16 fk130 rfl d_M_pass_53 ?_
    refine r_iconst (v := (1 : Int32)) (by decide) d_M_pass_56 ?_
    refine r_iadd d_M_pass_57 ?_
    have h2 := kr_ob h
    clear h
    obtain ⟨S17, eS17, h⟩ := h2
    refine r_putI eS17 fk130 (Or.inl rfl) rfl d_M_pass_58 ?_
    refine r_aload_n (i := 0) (x := x0) 0 rfl d_M_pass_61 ?_
    have h2 := kr_ob h
    clear h
    obtain ⟨v18, ev18, h⟩ := h2
    refine r_getI ev18 fk96 rfl d_M_pass_62 ?_
    refine r_iconst (v := (-1 : Int32)) (by decide) d_M_pass_65 ?_
    refine r_icmp_eq (tgt := 118) d_M_pass_66 rfl (fun c => ?_) (fun c => ?_)
    · replace h := kr_ip c h
      exact kr_sub [0, 1, 2, 3] rfl (s_M_pass_B118 hk45 h)
    · replace h := kr_in_ c h
      refine r_aload_n (i := 0) (x := x0) 0 rfl d_M_pass_69 ?_
      have h2 := kr_ob h
      clear h
      obtain ⟨v19, ev19, h⟩ := h2
      refine r_getI ev19 fk130 rfl d_M_pass_70 ?_
      refine r_aload_n (i := 0) (x := x0) 0 rfl d_M_pass_73 ?_
      have h2 := kr_ob h
      clear h
      obtain ⟨v20, ev20, h⟩ := h2
      refine r_getI ev20 fk134 rfl d_M_pass_74 ?_
      refine r_icmp_lt (tgt := 118) d_M_pass_77 rfl (fun c => ?_) (fun c => ?_)
      · replace h := kr_ip c h
        exact kr_sub [0, 1, 2, 3] rfl (s_M_pass_B118 hk45 h)
      · replace h := kr_in_ c h
        refine r_aload_n (i := 0) (x := x0) 0 rfl d_M_pass_80 ?_
        have h2 := kr_ob h
        clear h
        obtain ⟨v21, ev21, h⟩ := h2
        refine r_getR ev21 fk40 rfl d_M_pass_81 ?_
        refine r_aload_n (i := 0) (x := x0) 0 rfl d_M_pass_84 ?_
        have h2 := kr_ob h
        clear h
        obtain ⟨v22, ev22, h⟩ := h2
        refine r_getI ev22 fk135 rfl d_M_pass_85 ?_
        refine r_aload_n (i := 0) (x := x0) 0 rfl d_M_pass_88 ?_
        have h2 := kr_ob h
        clear h
        obtain ⟨v23, ev23, h⟩ := h2
        refine r_getI ev23 fk130 rfl d_M_pass_89 ?_
        refine r_bipush (v := (20 : Int32)) (by decide) d_M_pass_92 ?_
        refine r_iadd d_M_pass_94 ?_
        have h2 := kr_ob h
        clear h
        obtain ⟨S24, eS24, h⟩ := h2
        refine r_iastore eS24 d_M_pass_95 ?_
        refine r_aload_n (i := 0) (x := x0) 0 rfl d_M_pass_96 ?_
        refine r_aload_n (i := 0) (x := x0) 0 rfl d_M_pass_97 ?_
        have h2 := kr_ob h
        clear h
        obtain ⟨v25, ev25, h⟩ := h2
        refine r_getI ev25 fk96 rfl d_M_pass_98 ?_
        have h2 := kr_ob h
        clear h
        obtain ⟨S26, eS26, h⟩ := h2
        refine r_putI eS26 fk135 (Or.inl rfl) rfl d_M_pass_101 ?_
        refine r_aload_n (i := 0) (x := x0) 0 rfl d_M_pass_104 ?_
        refine r_iconst (v := (-1 : Int32)) (by decide) d_M_pass_105 ?_
        have h2 := kr_ob h
        clear h
        obtain ⟨S27, eS27, h⟩ := h2
        refine r_putI eS27 fk96 (Or.inl rfl) rfl d_M_pass_106 ?_
        refine r_aload_n (i := 0) (x := x0) 0 rfl d_M_pass_109 ?_
        refine r_iconst (v := (5 : Int32)) (by decide) d_M_pass_110 ?_
        refine r_aload_n (i := 0) (x := x0) 0 rfl d_M_pass_111 ?_
        have h2 := kr_ob h
        clear h
        obtain ⟨v28, ev28, h⟩ := h2
        refine r_getI ev28 fk135 rfl d_M_pass_112 ?_
        have h2 := kr_ob h
        clear h
        obtain ⟨⟨⟩, eu29, h⟩ := h2
        have h2 := kr_ob h
        clear h
        obtain ⟨S30, eS30, h⟩ := h2
        refine r_callV (M1 := m_M_write) (κ := 23) (As := [.int (5 : Int32), .int v28]) eu29 (s_M_write eS30) mok_M_write rfl (by decide) rfl w1724 w1726 w44 (by decide) (kr_c8 kr_c0) d_M_pass_115 (kr_k0 ?_) kr_kn
        exact kr_sub [0, 1, 2, 3] rfl (s_M_pass_B118 hk45 h)
theorem s_M_pass_L45 (n : Nat) : ∀ {S : AS} {x0 : Option Nat} {x1 : Int32} {x3 : Int32} {x4 : Int32} {r : (Int32 × AS)}, f_M_pass_L45 n S x0 x1 x3 x4 = some r → kr_AW m_M_pass 4 45 [(0, va_rf x0), (1, .int x1), (3, .int x3), (4, .int x4)] [] S (kr_eI r) := by
  induction n with
  | zero => intro S x0 x1 x3 x4 r h; cases h
  | succ n ih => intro S x0 x1 x3 x4 r h; exact s_M_pass_C45 (fun {_} {_} {_} {_} {_} {_} h => ih h) h
set_option maxRecDepth 20000 in
set_option maxHeartbeats 4000000 in
theorem s_M_pass_B32 {S : AS} {x0 : Option Nat} {x1 : Int32} {y0 : Option Nat} {y1 : Int32} {y2 : Int32} {r : (Int32 × AS)} (h : f_M_pass_B32 S x0 x1 y0 y1 y2 = some r) : kr_AW m_M_pass 4 32 [(0, va_rf x0), (1, .int x1)] [.int y2, .int y1, va_rf y0] S (kr_eI r) := by
  unfold f_M_pass_B32 at h
  have h2 := kr_ob h
  clear h
  obtain ⟨⟨⟩, eu31, h⟩ := h2
  have h2 := kr_ob2 h
  clear h
  obtain ⟨v33, S32, eS32, h⟩ := h2
  refine r_callV (M1 := m_M_mayBoth) (κ := 23) (As := [.int y1, .int y2]) eu31 (s_M_mayBoth eS32) mok_M_mayBoth rfl (by decide) rfl w1720 w1722 w43 (by decide) (kr_c8 kr_c0) d_M_pass_32 (kr_k1 ?_) kr_kn
  refine r_if_ne (tgt := 40) d_M_pass_35 rfl (fun c => ?_) (fun c => ?_)
  · replace h := kr_ip c h
    refine r_iconst (v := (0 : Int32)) (by decide) d_M_pass_38 ?_
    cases h
    exact r_iret rfl d_M_pass_39
  · replace h := kr_in_ c h
    refine r_iconst (v := (0 : Int32)) (by decide) d_M_pass_40 ?_
    refine r_istore_n (i := 3) (lv' := [(3, .int (0 : Int32)), (0, va_rf x0), (1, .int x1)]) (by decide) rfl d_M_pass_41 ?_
    refine r_iconst (v := (0 : Int32)) (by decide) d_M_pass_42 ?_
    refine r_istore (i := 4) (lv' := [(4, .int (0 : Int32)), (3, .int (0 : Int32)), (0, va_rf x0), (1, .int x1)]) (by decide) rfl d_M_pass_43 ?_
    exact kr_sub [2, 3, 1, 0] rfl (s_M_pass_L45 kr_FU h)
set_option maxRecDepth 20000 in
set_option maxHeartbeats 4000000 in
theorem s_M_pass_B31 {S : AS} {x0 : Option Nat} {x1 : Int32} {y0 : Option Nat} {y1 : Int32} {r : (Int32 × AS)} (h : f_M_pass_B31 S x0 x1 y0 y1 = some r) : kr_AW m_M_pass 4 31 [(0, va_rf x0), (1, .int x1)] [.int y1, va_rf y0] S (kr_eI r) := by
  unfold f_M_pass_B31 at h
  refine r_iconst (v := (0 : Int32)) (by decide) d_M_pass_31 ?_
  exact kr_sub [0, 1] rfl (s_M_pass_B32 h)
set_option maxRecDepth 20000 in
set_option maxHeartbeats 4000000 in
theorem s_M_pass {S : AS} {a0 : Option Nat} {a1 : Int32} {r : (Int32 × AS)} (h : f_M_pass S a0 a1 = some r) : kr_Con m_M_pass 4 [va_rf a0, .int a1] S (kr_eI r) := by
  refine kr_con rfl rfl (by decide +kernel) (by simp [lg_sl, kr_rfcat, kr_icat, m_M_pass, mL]) ?_
  rw [show lv_args 0 [va_rf a0, .int a1] = [(0, va_rf a0), (1, .int a1)] from by simp [lv_args, kr_rfcat, kr_icat]]
  unfold f_M_pass at h
  refine r_iload_n (i := 1) (x := a1) 1 rfl d_M_pass_0 ?_
  refine r_iconst (v := (1 : Int32)) (by decide) d_M_pass_1 ?_
  refine r_sipush (v := (600 : Int32)) (by decide) d_M_pass_2 ?_
  have h2 := kr_ob2 h
  clear h
  obtain ⟨v35, S34, eS34, h⟩ := h2
  refine r_callS (M1 := m_M_isIn) (As := [.int a1, .int (1 : Int32), .int (600 : Int32)]) (s_M_isIn eS34) mok_M_isIn rfl w1700 w1701 (by decide) (kr_c8 kr_c0) d_M_pass_5 (kr_k1 ?_) kr_kn
  refine r_istore_n (i := 2) (lv' := [(2, .int v35), (0, va_rf a0), (1, .int a1)]) (by decide) rfl d_M_pass_8 ?_
  refine r_aload_n (i := 0) (x := a0) 1 rfl d_M_pass_9 ?_
  refine r_iload_n (i := 2) (x := v35) 0 rfl d_M_pass_10 ?_
  refine r_iload_n (i := 2) (x := v35) 0 rfl d_M_pass_11 ?_
  refine r_if_eq (tgt := 31) d_M_pass_12 rfl (fun c => ?_) (fun c => ?_)
  · replace h := kr_ip c h
    exact kr_sub [1, 2] rfl (s_M_pass_B31 h)
  · replace h := kr_in_ c h
    refine r_aload_n (i := 0) (x := a0) 1 rfl d_M_pass_15 ?_
    have h2 := kr_ob h
    clear h
    obtain ⟨v36, ev36, h⟩ := h2
    refine r_getI ev36 fk130 rfl d_M_pass_16 ?_
    refine r_iload_n (i := 1) (x := a1) 2 rfl d_M_pass_19 ?_
    refine r_iadd d_M_pass_20 ?_
    refine r_sipush (v := (30000 : Int32)) (by decide) d_M_pass_21 ?_
    refine r_icmp_gt (tgt := 31) d_M_pass_24 rfl (fun c => ?_) (fun c => ?_)
    · replace h := kr_ip c h
      exact kr_sub [1, 2] rfl (s_M_pass_B31 h)
    · replace h := kr_in_ c h
      refine r_iconst (v := (1 : Int32)) (by decide) d_M_pass_27 ?_
      refine r_goto (tgt := 32) d_M_pass_28 rfl ?_
      exact kr_sub [1, 2] rfl (s_M_pass_B32 h)
/-! KeyringCourtModel.isSix(I)Z -/
def f_M_isSix (S : AS) (a0 : Int32) : Option (Int32 × AS) :=
  kr_b2 (f_M_isIn S a0 (0 : Int32) (5 : Int32)) fun v2 S1 =>
  (kr_z v2).bind fun u3 =>
  some (v2, S1)
set_option maxRecDepth 20000 in
set_option maxHeartbeats 4000000 in
theorem s_M_isSix {S : AS} {a0 : Int32} {r : (Int32 × AS)} (h : f_M_isSix S a0 = some r) : kr_Con m_M_isSix 1 [.int a0] S (kr_eI r) := by
  refine kr_con rfl rfl (by decide +kernel) (by simp [lg_sl, kr_rfcat, kr_icat, m_M_isSix, mL]) ?_
  rw [show lv_args 0 [.int a0] = [(0, .int a0)] from by simp [lv_args, kr_rfcat, kr_icat]]
  unfold f_M_isSix at h
  refine r_iload_n (i := 0) (x := a0) 0 rfl d_M_isSix_0 ?_
  refine r_iconst (v := (0 : Int32)) (by decide) d_M_isSix_1 ?_
  refine r_iconst (v := (5 : Int32)) (by decide) d_M_isSix_2 ?_
  have h2 := kr_ob2 h
  clear h
  obtain ⟨v2, S1, eS1, h⟩ := h2
  refine r_callS (M1 := m_M_isIn) (As := [.int a0, .int (0 : Int32), .int (5 : Int32)]) (s_M_isIn eS1) mok_M_isIn rfl w1700 w1701 (by decide) (kr_c8 kr_c0) d_M_isSix_3 (kr_k1 ?_) kr_kn
  have h2 := kr_ob h
  clear h
  obtain ⟨⟨⟩, eu3, h⟩ := h2
  cases h
  exact r_zret rfl eu3 d_M_isSix_6
/-! KeyringCourtModel.isFactor(I)Z -/
def f_M_isFactor (S : AS) (a0 : Int32) : Option (Int32 × AS) :=
  kr_b2 (f_M_isIn S a0 (0 : Int32) (2 : Int32)) fun v2 S1 =>
  (kr_z v2).bind fun u3 =>
  some (v2, S1)
set_option maxRecDepth 20000 in
set_option maxHeartbeats 4000000 in
theorem s_M_isFactor {S : AS} {a0 : Int32} {r : (Int32 × AS)} (h : f_M_isFactor S a0 = some r) : kr_Con m_M_isFactor 1 [.int a0] S (kr_eI r) := by
  refine kr_con rfl rfl (by decide +kernel) (by simp [lg_sl, kr_rfcat, kr_icat, m_M_isFactor, mL]) ?_
  rw [show lv_args 0 [.int a0] = [(0, .int a0)] from by simp [lv_args, kr_rfcat, kr_icat]]
  unfold f_M_isFactor at h
  refine r_iload_n (i := 0) (x := a0) 0 rfl d_M_isFactor_0 ?_
  refine r_iconst (v := (0 : Int32)) (by decide) d_M_isFactor_1 ?_
  refine r_iconst (v := (2 : Int32)) (by decide) d_M_isFactor_2 ?_
  have h2 := kr_ob2 h
  clear h
  obtain ⟨v2, S1, eS1, h⟩ := h2
  refine r_callS (M1 := m_M_isIn) (As := [.int a0, .int (0 : Int32), .int (2 : Int32)]) (s_M_isIn eS1) mok_M_isIn rfl w1700 w1701 (by decide) (kr_c8 kr_c0) d_M_isFactor_3 (kr_k1 ?_) kr_kn
  have h2 := kr_ob h
  clear h
  obtain ⟨⟨⟩, eu3, h⟩ := h2
  cases h
  exact r_zret rfl eu3 d_M_isFactor_6
/-! KeyringCourtModel.ready(II)V -/
def f_M_ready (S : AS) (a0 : Option Nat) (a1 : Int32) (a2 : Int32) : Option AS :=
  (gR S 23 1 a0).bind fun v1 =>
  (bI S v1 (((3 : Int32) * a1) + a2) (1 : Int32)).bind fun S2 =>
  (gR S2 23 2 a0).bind fun v3 =>
  (bI S2 v3 (((3 : Int32) * a1) + a2) (0 : Int32)).bind fun S4 =>
  if a2 = (2 : Int32) then
  (gR S4 23 3 a0).bind fun v5 =>
  (bI S4 v5 a1 (0 : Int32)).bind fun S6 =>
  some S6
  else
  some S4
set_option maxRecDepth 20000 in
set_option maxHeartbeats 4000000 in
theorem s_M_ready {S : AS} {a0 : Option Nat} {a1 : Int32} {a2 : Int32} {r : AS} (h : f_M_ready S a0 a1 a2 = some r) : kr_Con m_M_ready 0 [va_rf a0, .int a1, .int a2] S (kr_eV r) := by
  refine kr_con rfl rfl (by decide +kernel) (by simp [lg_sl, kr_rfcat, kr_icat, m_M_ready, mL]) ?_
  rw [show lv_args 0 [va_rf a0, .int a1, .int a2] = [(0, va_rf a0), (1, .int a1), (2, .int a2)] from by simp [lv_args, kr_rfcat, kr_icat]]
  unfold f_M_ready at h
  refine r_aload_n (i := 0) (x := a0) 0 rfl d_M_ready_0 ?_
  have h2 := kr_ob h
  clear h
  obtain ⟨v1, ev1, h⟩ := h2
  refine r_getR ev1 fk45 rfl d_M_ready_1 ?_
  refine r_iconst (v := (3 : Int32)) (by decide) d_M_ready_4 ?_
  refine r_iload_n (i := 1) (x := a1) 1 rfl d_M_ready_5 ?_
  refine r_imul d_M_ready_6 ?_
  refine r_iload_n (i := 2) (x := a2) 2 rfl d_M_ready_7 ?_
  refine r_iadd d_M_ready_8 ?_
  refine r_iconst (v := (1 : Int32)) (by decide) d_M_ready_9 ?_
  have h2 := kr_ob h
  clear h
  obtain ⟨S2, eS2, h⟩ := h2
  refine r_iastore eS2 d_M_ready_10 ?_
  refine r_aload_n (i := 0) (x := a0) 0 rfl d_M_ready_11 ?_
  have h2 := kr_ob h
  clear h
  obtain ⟨v3, ev3, h⟩ := h2
  refine r_getR ev3 fk46 rfl d_M_ready_12 ?_
  refine r_iconst (v := (3 : Int32)) (by decide) d_M_ready_15 ?_
  refine r_iload_n (i := 1) (x := a1) 1 rfl d_M_ready_16 ?_
  refine r_imul d_M_ready_17 ?_
  refine r_iload_n (i := 2) (x := a2) 2 rfl d_M_ready_18 ?_
  refine r_iadd d_M_ready_19 ?_
  refine r_iconst (v := (0 : Int32)) (by decide) d_M_ready_20 ?_
  have h2 := kr_ob h
  clear h
  obtain ⟨S4, eS4, h⟩ := h2
  refine r_iastore eS4 d_M_ready_21 ?_
  refine r_iload_n (i := 2) (x := a2) 2 rfl d_M_ready_22 ?_
  refine r_iconst (v := (2 : Int32)) (by decide) d_M_ready_23 ?_
  refine r_icmp_ne (tgt := 34) d_M_ready_24 rfl (fun c => ?_) (fun c => ?_)
  · replace h := kr_ip c h
    refine r_aload_n (i := 0) (x := a0) 0 rfl d_M_ready_27 ?_
    have h2 := kr_ob h
    clear h
    obtain ⟨v5, ev5, h⟩ := h2
    refine r_getR ev5 fk47 rfl d_M_ready_28 ?_
    refine r_iload_n (i := 1) (x := a1) 1 rfl d_M_ready_31 ?_
    refine r_iconst (v := (0 : Int32)) (by decide) d_M_ready_32 ?_
    have h2 := kr_ob h
    clear h
    obtain ⟨S6, eS6, h⟩ := h2
    refine r_iastore eS6 d_M_ready_33 ?_
    cases h
    exact r_vret rfl d_M_ready_34
  · replace h := kr_in_ c h
    cases h
    exact r_vret rfl d_M_ready_34
/-! KeyringCourtModel.enroll(II)I -/
def f_M_enroll (S : AS) (a0 : Option Nat) (a1 : Int32) (a2 : Int32) : Option (Int32 × AS) :=
  kr_b2 (f_M_isSix S a1) fun v2 S1 =>
  kr_b2 (f_M_isFactor S1 a2) fun v4 S3 =>
  (kr_rv S3 23 a0).bind fun u5 =>
  kr_b2 (f_M_mayBoth S3 a0 v2 v4) fun v7 S6 =>
  if v7 = 0 then
  some ((0 : Int32), S6)
  else
  (gR S6 23 1 a0).bind fun v8 =>
  (aI S6 40 v8 (((3 : Int32) * a1) + a2)).bind fun v9 =>
  (kr_rv S6 23 a0).bind fun u10 =>
  (f_M_ready S6 a0 a1 a2).bind fun S11 =>
  some (v9, S11)
set_option maxRecDepth 20000 in
set_option maxHeartbeats 4000000 in
theorem s_M_enroll {S : AS} {a0 : Option Nat} {a1 : Int32} {a2 : Int32} {r : (Int32 × AS)} (h : f_M_enroll S a0 a1 a2 = some r) : kr_Con m_M_enroll 2 [va_rf a0, .int a1, .int a2] S (kr_eI r) := by
  refine kr_con rfl rfl (by decide +kernel) (by simp [lg_sl, kr_rfcat, kr_icat, m_M_enroll, mL]) ?_
  rw [show lv_args 0 [va_rf a0, .int a1, .int a2] = [(0, va_rf a0), (1, .int a1), (2, .int a2)] from by simp [lv_args, kr_rfcat, kr_icat]]
  unfold f_M_enroll at h
  refine r_aload_n (i := 0) (x := a0) 0 rfl d_M_enroll_0 ?_
  refine r_iload_n (i := 1) (x := a1) 1 rfl d_M_enroll_1 ?_
  have h2 := kr_ob2 h
  clear h
  obtain ⟨v2, S1, eS1, h⟩ := h2
  refine r_callS (M1 := m_M_isSix) (As := [.int a1]) (s_M_isSix eS1) mok_M_isSix rfl w1748 w1749 (by decide) (kr_c8 (kr_cR kr_c0)) d_M_enroll_2 (kr_k1 ?_) kr_kn
  refine r_iload_n (i := 2) (x := a2) 2 rfl d_M_enroll_5 ?_
  have h2 := kr_ob2 h
  clear h
  obtain ⟨v4, S3, eS3, h⟩ := h2
  refine r_callS (M1 := m_M_isFactor) (As := [.int a2]) (s_M_isFactor eS3) mok_M_isFactor rfl w1751 w1752 (by decide) (kr_c8 (kr_cI (kr_cR kr_c0))) d_M_enroll_6 (kr_k1 ?_) kr_kn
  have h2 := kr_ob h
  clear h
  obtain ⟨⟨⟩, eu5, h⟩ := h2
  have h2 := kr_ob2 h
  clear h
  obtain ⟨v7, S6, eS6, h⟩ := h2
  refine r_callV (M1 := m_M_mayBoth) (κ := 23) (As := [.int v2, .int v4]) eu5 (s_M_mayBoth eS6) mok_M_mayBoth rfl (by decide) rfl w1720 w1722 w43 (by decide) (kr_c8 kr_c0) d_M_enroll_9 (kr_k1 ?_) kr_kn
  refine r_if_ne (tgt := 17) d_M_enroll_12 rfl (fun c => ?_) (fun c => ?_)
  · replace h := kr_ip c h
    refine r_iconst (v := (0 : Int32)) (by decide) d_M_enroll_15 ?_
    cases h
    exact r_iret rfl d_M_enroll_16
  · replace h := kr_in_ c h
    refine r_aload_n (i := 0) (x := a0) 0 rfl d_M_enroll_17 ?_
    have h2 := kr_ob h
    clear h
    obtain ⟨v8, ev8, h⟩ := h2
    refine r_getR ev8 fk45 rfl d_M_enroll_18 ?_
    refine r_iconst (v := (3 : Int32)) (by decide) d_M_enroll_21 ?_
    refine r_iload_n (i := 1) (x := a1) 1 rfl d_M_enroll_22 ?_
    refine r_imul d_M_enroll_23 ?_
    refine r_iload_n (i := 2) (x := a2) 2 rfl d_M_enroll_24 ?_
    refine r_iadd d_M_enroll_25 ?_
    have h2 := kr_ob h
    clear h
    obtain ⟨v9, ev9, h⟩ := h2
    refine r_iaload ev9 d_M_enroll_26 ?_
    refine r_istore_n (i := 3) (lv' := [(3, .int v9), (0, va_rf a0), (1, .int a1), (2, .int a2)]) (by decide) rfl d_M_enroll_27 ?_
    refine r_aload_n (i := 0) (x := a0) 1 rfl d_M_enroll_28 ?_
    refine r_iload_n (i := 1) (x := a1) 2 rfl d_M_enroll_29 ?_
    refine r_iload_n (i := 2) (x := a2) 3 rfl d_M_enroll_30 ?_
    have h2 := kr_ob h
    clear h
    obtain ⟨⟨⟩, eu10, h⟩ := h2
    have h2 := kr_ob h
    clear h
    obtain ⟨S11, eS11, h⟩ := h2
    refine r_callV (M1 := m_M_ready) (κ := 23) (As := [.int a1, .int a2]) eu10 (s_M_ready eS11) mok_M_ready rfl (by decide) rfl w1754 w1756 w49 (by decide) (kr_c8 kr_c0) d_M_enroll_31 (kr_k0 ?_) kr_kn
    refine r_iload_n (i := 3) (x := v9) 0 rfl d_M_enroll_34 ?_
    cases h
    exact r_iret rfl d_M_enroll_35
/-! KeyringCourtModel.factor(II)I -/
def f_M_factor (S : AS) (a0 : Option Nat) (a1 : Int32) (a2 : Int32) : Option (Int32 × AS) :=
  kr_b2 (f_M_isSix S a1) fun v2 S1 =>
  kr_b2 (f_M_isFactor S1 a2) fun v4 S3 =>
  (kr_rv S3 23 a0).bind fun u5 =>
  kr_b2 (f_M_mayBoth S3 a0 v2 v4) fun v7 S6 =>
  if v7 = 0 then
  some ((0 : Int32), S6)
  else
  (gR S6 23 1 a0).bind fun v8 =>
  (aI S6 40 v8 (((3 : Int32) * a1) + a2)).bind fun v9 =>
  some (v9, S6)
set_option maxRecDepth 20000 in
set_option maxHeartbeats 4000000 in
theorem s_M_factor {S : AS} {a0 : Option Nat} {a1 : Int32} {a2 : Int32} {r : (Int32 × AS)} (h : f_M_factor S a0 a1 a2 = some r) : kr_Con m_M_factor 2 [va_rf a0, .int a1, .int a2] S (kr_eI r) := by
  refine kr_con rfl rfl (by decide +kernel) (by simp [lg_sl, kr_rfcat, kr_icat, m_M_factor, mL]) ?_
  rw [show lv_args 0 [va_rf a0, .int a1, .int a2] = [(0, va_rf a0), (1, .int a1), (2, .int a2)] from by simp [lv_args, kr_rfcat, kr_icat]]
  unfold f_M_factor at h
  refine r_aload_n (i := 0) (x := a0) 0 rfl d_M_factor_0 ?_
  refine r_iload_n (i := 1) (x := a1) 1 rfl d_M_factor_1 ?_
  have h2 := kr_ob2 h
  clear h
  obtain ⟨v2, S1, eS1, h⟩ := h2
  refine r_callS (M1 := m_M_isSix) (As := [.int a1]) (s_M_isSix eS1) mok_M_isSix rfl w1748 w1749 (by decide) (kr_c8 (kr_cR kr_c0)) d_M_factor_2 (kr_k1 ?_) kr_kn
  refine r_iload_n (i := 2) (x := a2) 2 rfl d_M_factor_5 ?_
  have h2 := kr_ob2 h
  clear h
  obtain ⟨v4, S3, eS3, h⟩ := h2
  refine r_callS (M1 := m_M_isFactor) (As := [.int a2]) (s_M_isFactor eS3) mok_M_isFactor rfl w1751 w1752 (by decide) (kr_c8 (kr_cI (kr_cR kr_c0))) d_M_factor_6 (kr_k1 ?_) kr_kn
  have h2 := kr_ob h
  clear h
  obtain ⟨⟨⟩, eu5, h⟩ := h2
  have h2 := kr_ob2 h
  clear h
  obtain ⟨v7, S6, eS6, h⟩ := h2
  refine r_callV (M1 := m_M_mayBoth) (κ := 23) (As := [.int v2, .int v4]) eu5 (s_M_mayBoth eS6) mok_M_mayBoth rfl (by decide) rfl w1720 w1722 w43 (by decide) (kr_c8 kr_c0) d_M_factor_9 (kr_k1 ?_) kr_kn
  refine r_if_eq (tgt := 28) d_M_factor_12 rfl (fun c => ?_) (fun c => ?_)
  · replace h := kr_ip c h
    refine r_iconst (v := (0 : Int32)) (by decide) d_M_factor_28 ?_
    cases h
    exact r_iret rfl d_M_factor_29
  · replace h := kr_in_ c h
    refine r_aload_n (i := 0) (x := a0) 0 rfl d_M_factor_15 ?_
    have h2 := kr_ob h
    clear h
    obtain ⟨v8, ev8, h⟩ := h2
    refine r_getR ev8 fk45 rfl d_M_factor_16 ?_
    refine r_iconst (v := (3 : Int32)) (by decide) d_M_factor_19 ?_
    refine r_iload_n (i := 1) (x := a1) 1 rfl d_M_factor_20 ?_
    refine r_imul d_M_factor_21 ?_
    refine r_iload_n (i := 2) (x := a2) 2 rfl d_M_factor_22 ?_
    refine r_iadd d_M_factor_23 ?_
    have h2 := kr_ob h
    clear h
    obtain ⟨v9, ev9, h⟩ := h2
    refine r_iaload ev9 d_M_factor_24 ?_
    refine r_goto (tgt := 29) d_M_factor_25 rfl ?_
    cases h
    exact r_iret rfl d_M_factor_29
/-! KeyringCourtModel.isNext(I)Z -/
def f_M_isNext (S : AS) (a0 : Int32) : Option (Int32 × AS) :=
  kr_b2 (f_M_isIn S a0 (-1 : Int32) (11 : Int32)) fun v2 S1 =>
  (kr_z v2).bind fun u3 =>
  some (v2, S1)
set_option maxRecDepth 20000 in
set_option maxHeartbeats 4000000 in
theorem s_M_isNext {S : AS} {a0 : Int32} {r : (Int32 × AS)} (h : f_M_isNext S a0 = some r) : kr_Con m_M_isNext 1 [.int a0] S (kr_eI r) := by
  refine kr_con rfl rfl (by decide +kernel) (by simp [lg_sl, kr_rfcat, kr_icat, m_M_isNext, mL]) ?_
  rw [show lv_args 0 [.int a0] = [(0, .int a0)] from by simp [lv_args, kr_rfcat, kr_icat]]
  unfold f_M_isNext at h
  refine r_iload_n (i := 0) (x := a0) 0 rfl d_M_isNext_0 ?_
  refine r_iconst (v := (-1 : Int32)) (by decide) d_M_isNext_1 ?_
  refine r_bipush (v := (11 : Int32)) (by decide) d_M_isNext_2 ?_
  have h2 := kr_ob2 h
  clear h
  obtain ⟨v2, S1, eS1, h⟩ := h2
  refine r_callS (M1 := m_M_isIn) (As := [.int a0, .int (-1 : Int32), .int (11 : Int32)]) (s_M_isIn eS1) mok_M_isIn rfl w1700 w1701 (by decide) (kr_c8 kr_c0) d_M_isNext_4 (kr_k1 ?_) kr_kn
  have h2 := kr_ob h
  clear h
  obtain ⟨⟨⟩, eu3, h⟩ := h2
  cases h
  exact r_zret rfl eu3 d_M_isNext_7
/-! KeyringCourtModel.step(IIIII)I -/
def f_M_step_B136 (S : AS) (x0 : Option Nat) (x1 : Int32) (x2 : Int32) (x3 : Int32) (x4 : Int32) (x5 : Int32) (y0 : Option Nat) (y1 : Int32) (y2 : Int32) : Option (Int32 × AS) :=
  (kr_rv S 23 y0).bind fun u1 =>
  kr_b2 (f_M_mayBoth S y0 y1 y2) fun v3 S2 =>
  if v3 = 0 then
  some ((0 : Int32), S2)
  else
  (gR S2 23 10 x0).bind fun v4 =>
  (aI S2 40 v4 (8 : Int32)).bind fun v5 =>
  (some ((96 : Int32) + v5)).bind fun i6 =>
  (gR S2 23 11 x0).bind fun v7 =>
  (bI S2 v7 i6 x1).bind fun S8 =>
  (gR S8 23 12 x0).bind fun v9 =>
  (bI S8 v9 i6 x2).bind fun S10 =>
  (gR S10 23 13 x0).bind fun v11 =>
  (bI S10 v11 i6 x3).bind fun S12 =>
  (gR S12 23 14 x0).bind fun v13 =>
  (bI S12 v13 i6 x4).bind fun S14 =>
  (gR S14 23 15 x0).bind fun v15 =>
  (bI S14 v15 i6 x5).bind fun S16 =>
  (gR S16 23 10 x0).bind fun v17 =>
  (aI S16 40 v17 (8 : Int32)).bind fun v18 =>
  (bI S16 v17 (8 : Int32) (v18 + (1 : Int32))).bind fun S19 =>
  (gR S19 23 10 x0).bind fun v20 =>
  (aI S19 40 v20 (8 : Int32)).bind fun v21 =>
  some (v21 - (1 : Int32), S19)
def f_M_step_B114 (S : AS) (x0 : Option Nat) (x1 : Int32) (x2 : Int32) (x3 : Int32) (x4 : Int32) (x5 : Int32) (y0 : Int32) : Option (Int32 × AS) :=
  (gR S 23 10 x0).bind fun v22 =>
  (aI S 40 v22 (8 : Int32)).bind fun v23 =>
  if (12 : Int32) ≤ v23 then
  f_M_step_B136 S x0 x1 x2 x3 x4 x5 x0 y0 (0 : Int32)
  else
  f_M_step_B136 S x0 x1 x2 x3 x4 x5 x0 y0 (1 : Int32)
def f_M_step_B109 (S : AS) (x0 : Option Nat) (x1 : Int32) (x2 : Int32) (x3 : Int32) (x4 : Int32) (x5 : Int32) : Option (Int32 × AS) :=
  f_M_step_B114 S x0 x1 x2 x3 x4 x5 (1 : Int32)
def f_M_step_B113 (S : AS) (x0 : Option Nat) (x1 : Int32) (x2 : Int32) (x3 : Int32) (x4 : Int32) (x5 : Int32) : Option (Int32 × AS) :=
  f_M_step_B114 S x0 x1 x2 x3 x4 x5 (0 : Int32)
def f_M_step_B81 (S : AS) (x0 : Option Nat) (x1 : Int32) (x2 : Int32) (x3 : Int32) (x4 : Int32) (x5 : Int32) (y0 : Int32) : Option (Int32 × AS) :=
  if y0 = 0 then
  f_M_step_B113 S x0 x1 x2 x3 x4 x5
  else
  if (5 : Int32) ≤ x1 then
  f_M_step_B109 S x0 x1 x2 x3 x4 x5
  else
  kr_b2 (f_M_isNext S x4) fun v25 S24 =>
  if v25 = 0 then
  f_M_step_B113 S24 x0 x1 x2 x3 x4 x5
  else
  kr_b2 (f_M_isNext S24 x5) fun v27 S26 =>
  if v27 = 0 then
  f_M_step_B113 S26 x0 x1 x2 x3 x4 x5
  else
  f_M_step_B109 S26 x0 x1 x2 x3 x4 x5
def f_M_step_B76 (S : AS) (x0 : Option Nat) (x1 : Int32) (x2 : Int32) (x3 : Int32) (x4 : Int32) (x5 : Int32) : Option (Int32 × AS) :=
  f_M_step_B81 S x0 x1 x2 x3 x4 x5 (1 : Int32)
def f_M_step_B80 (S : AS) (x0 : Option Nat) (x1 : Int32) (x2 : Int32) (x3 : Int32) (x4 : Int32) (x5 : Int32) : Option (Int32 × AS) :=
  f_M_step_B81 S x0 x1 x2 x3 x4 x5 (0 : Int32)
def f_M_step_B34 (S : AS) (x0 : Option Nat) (x1 : Int32) (x2 : Int32) (x3 : Int32) (x4 : Int32) (x5 : Int32) (y0 : Int32) : Option (Int32 × AS) :=
  kr_b2 (f_M_isIn S x1 (0 : Int32) (6 : Int32)) fun v29 S28 =>
  if v29 = 0 then
  f_M_step_B80 S28 x0 x1 x2 x3 x4 x5
  else
  kr_b2 (f_M_isIn S28 x2 (0 : Int32) y0) fun v31 S30 =>
  if v31 = 0 then
  f_M_step_B80 S30 x0 x1 x2 x3 x4 x5
  else
  if x1 = 0 then
  kr_b2 (f_M_isIn S30 x3 (1 : Int32) (3 : Int32)) fun v33 S32 =>
  if v33 = 0 then
  f_M_step_B80 S32 x0 x1 x2 x3 x4 x5
  else
  f_M_step_B76 S32 x0 x1 x2 x3 x4 x5
  else
  if x3 = 0 then
  f_M_step_B76 S30 x0 x1 x2 x3 x4 x5
  else
  f_M_step_B80 S30 x0 x1 x2 x3 x4 x5
def f_M_step_B9 (S : AS) (x0 : Option Nat) (x1 : Int32) (x2 : Int32) (x3 : Int32) (x4 : Int32) (x5 : Int32) : Option (Int32 × AS) :=
  f_M_step_B34 S x0 x1 x2 x3 x4 x5 (2 : Int32)
def f_M_step (S : AS) (a0 : Option Nat) (a1 : Int32) (a2 : Int32) (a3 : Int32) (a4 : Int32) (a5 : Int32) : Option (Int32 × AS) :=
  if a1 = 0 then
  f_M_step_B9 S a0 a1 a2 a3 a4 a5
  else
  if a1 = (3 : Int32) then
  f_M_step_B9 S a0 a1 a2 a3 a4 a5
  else
  if a1 = (2 : Int32) then
  f_M_step_B34 S a0 a1 a2 a3 a4 a5 (20 : Int32)
  else
  if a1 = (4 : Int32) then
  f_M_step_B34 S a0 a1 a2 a3 a4 a5 (6 : Int32)
  else
  f_M_step_B34 S a0 a1 a2 a3 a4 a5 (0 : Int32)
set_option maxRecDepth 20000 in
set_option maxHeartbeats 4000000 in
theorem s_M_step_B136 {S : AS} {x0 : Option Nat} {x1 : Int32} {x2 : Int32} {x3 : Int32} {x4 : Int32} {x5 : Int32} {y0 : Option Nat} {y1 : Int32} {y2 : Int32} {r : (Int32 × AS)} (h : f_M_step_B136 S x0 x1 x2 x3 x4 x5 y0 y1 y2 = some r) : kr_AW m_M_step 2 136 [(0, va_rf x0), (1, .int x1), (2, .int x2), (3, .int x3), (4, .int x4), (5, .int x5)] [.int y2, .int y1, va_rf y0] S (kr_eI r) := by
  unfold f_M_step_B136 at h
  have h2 := kr_ob h
  clear h
  obtain ⟨⟨⟩, eu1, h⟩ := h2
  have h2 := kr_ob2 h
  clear h
  obtain ⟨v3, S2, eS2, h⟩ := h2
  refine r_callV (M1 := m_M_mayBoth) (κ := 23) (As := [.int y1, .int y2]) eu1 (s_M_mayBoth eS2) mok_M_mayBoth rfl (by decide) rfl w1720 w1722 w43 (by decide) (kr_c8 kr_c0) d_M_step_136 (kr_k1 ?_) kr_kn
  refine r_if_ne (tgt := 144) d_M_step_139 rfl (fun c => ?_) (fun c => ?_)
  · replace h := kr_ip c h
    refine r_iconst (v := (0 : Int32)) (by decide) d_M_step_142 ?_
    cases h
    exact r_iret rfl d_M_step_143
  · replace h := kr_in_ c h
    refine r_bipush (v := (96 : Int32)) (by decide) d_M_step_144 ?_
    refine r_aload_n (i := 0) (x := x0) 0 rfl d_M_step_146 ?_
    have h2 := kr_ob h
    clear h
    obtain ⟨v4, ev4, h⟩ := h2
    refine r_getR ev4 fk52 rfl d_M_step_147 ?_
    refine r_bipush (v := (8 : Int32)) (by decide) d_M_step_150 ?_
    have h2 := kr_ob h
    clear h
    obtain ⟨v5, ev5, h⟩ := h2
    refine r_iaload ev5 d_M_step_152 ?_
    refine r_iadd d_M_step_153 ?_
    have h2 := kr_ob h
    clear h
    obtain ⟨i6, ei6, h⟩ := h2
    refine kr_nmI ei6 ?_
    refine r_istore (i := 8) (lv' := [(8, .int i6), (0, va_rf x0), (1, .int x1), (2, .int x2), (3, .int x3), (4, .int x4), (5, .int x5)]) (by decide) rfl d_M_step_154 ?_
    refine r_aload_n (i := 0) (x := x0) 1 rfl d_M_step_156 ?_
    have h2 := kr_ob h
    clear h
    obtain ⟨v7, ev7, h⟩ := h2
    refine r_getR ev7 fk53 rfl d_M_step_157 ?_
    refine r_iload (i := 8) (x := i6) 0 rfl d_M_step_160 ?_
    refine r_iload_n (i := 1) (x := x1) 2 rfl d_M_step_162 ?_
    have h2 := kr_ob h
    clear h
    obtain ⟨S8, eS8, h⟩ := h2
    refine r_iastore eS8 d_M_step_163 ?_
    refine r_aload_n (i := 0) (x := x0) 1 rfl d_M_step_164 ?_
    have h2 := kr_ob h
    clear h
    obtain ⟨v9, ev9, h⟩ := h2
    refine r_getR ev9 fk54 rfl d_M_step_165 ?_
    refine r_iload (i := 8) (x := i6) 0 rfl d_M_step_168 ?_
    refine r_iload_n (i := 2) (x := x2) 3 rfl d_M_step_170 ?_
    have h2 := kr_ob h
    clear h
    obtain ⟨S10, eS10, h⟩ := h2
    refine r_iastore eS10 d_M_step_171 ?_
    refine r_aload_n (i := 0) (x := x0) 1 rfl d_M_step_172 ?_
    have h2 := kr_ob h
    clear h
    obtain ⟨v11, ev11, h⟩ := h2
    refine r_getR ev11 fk55 rfl d_M_step_173 ?_
    refine r_iload (i := 8) (x := i6) 0 rfl d_M_step_176 ?_
    refine r_iload_n (i := 3) (x := x3) 4 rfl d_M_step_178 ?_
    have h2 := kr_ob h
    clear h
    obtain ⟨S12, eS12, h⟩ := h2
    refine r_iastore eS12 d_M_step_179 ?_
    refine r_aload_n (i := 0) (x := x0) 1 rfl d_M_step_180 ?_
    have h2 := kr_ob h
    clear h
    obtain ⟨v13, ev13, h⟩ := h2
    refine r_getR ev13 fk56 rfl d_M_step_181 ?_
    refine r_iload (i := 8) (x := i6) 0 rfl d_M_step_184 ?_
    refine r_iload (i := 4) (x := x4) 5 rfl d_M_step_186 ?_
    have h2 := kr_ob h
    clear h
    obtain ⟨S14, eS14, h⟩ := h2
    refine r_iastore eS14 d_M_step_188 ?_
    refine r_aload_n (i := 0) (x := x0) 1 rfl d_M_step_189 ?_
    have h2 := kr_ob h
    clear h
    obtain ⟨v15, ev15, h⟩ := h2
    refine r_getR ev15 fk57 rfl d_M_step_190 ?_
    refine r_iload (i := 8) (x := i6) 0 rfl d_M_step_193 ?_
    refine r_iload (i := 5) (x := x5) 6 rfl d_M_step_195 ?_
    have h2 := kr_ob h
    clear h
    obtain ⟨S16, eS16, h⟩ := h2
    refine r_iastore eS16 d_M_step_197 ?_
    refine r_aload_n (i := 0) (x := x0) 1 rfl d_M_step_198 ?_
    have h2 := kr_ob h
    clear h
    obtain ⟨v17, ev17, h⟩ := h2
    refine r_getR ev17 fk52 rfl d_M_step_199 ?_
    refine r_bipush (v := (8 : Int32)) (by decide) d_M_step_202 ?_
    refine r_dup2 rfl (kr_rfcat _) d_M_step_204 ?_
    have h2 := kr_ob h
    clear h
    obtain ⟨v18, ev18, h⟩ := h2
    refine r_iaload ev18 d_M_step_205 ?_
    refine r_iconst (v := (1 : Int32)) (by decide) d_M_step_206 ?_
    refine r_iadd d_M_step_207 ?_
    have h2 := kr_ob h
    clear h
    obtain ⟨S19, eS19, h⟩ := h2
    refine r_iastore eS19 d_M_step_208 ?_
    refine r_aload_n (i := 0) (x := x0) 1 rfl d_M_step_209 ?_
    have h2 := kr_ob h
    clear h
    obtain ⟨v20, ev20, h⟩ := h2
    refine r_getR ev20 fk52 rfl d_M_step_210 ?_
    refine r_bipush (v := (8 : Int32)) (by decide) d_M_step_213 ?_
    have h2 := kr_ob h
    clear h
    obtain ⟨v21, ev21, h⟩ := h2
    refine r_iaload ev21 d_M_step_215 ?_
    refine r_iconst (v := (1 : Int32)) (by decide) d_M_step_216 ?_
    refine r_isub d_M_step_217 ?_
    cases h
    exact r_iret rfl d_M_step_218
set_option maxRecDepth 20000 in
set_option maxHeartbeats 4000000 in
theorem s_M_step_B114 {S : AS} {x0 : Option Nat} {x1 : Int32} {x2 : Int32} {x3 : Int32} {x4 : Int32} {x5 : Int32} {y0 : Int32} {r : (Int32 × AS)} (h : f_M_step_B114 S x0 x1 x2 x3 x4 x5 y0 = some r) : kr_AW m_M_step 2 114 [(0, va_rf x0), (1, .int x1), (2, .int x2), (3, .int x3), (4, .int x4), (5, .int x5)] [.int y0] S (kr_eI r) := by
  unfold f_M_step_B114 at h
  refine r_istore (i := 7) (lv' := [(7, .int y0), (0, va_rf x0), (1, .int x1), (2, .int x2), (3, .int x3), (4, .int x4), (5, .int x5)]) (by decide) rfl d_M_step_114 ?_
  refine r_aload_n (i := 0) (x := x0) 1 rfl d_M_step_116 ?_
  refine r_iload (i := 7) (x := y0) 0 rfl d_M_step_117 ?_
  refine r_aload_n (i := 0) (x := x0) 1 rfl d_M_step_119 ?_
  have h2 := kr_ob h
  clear h
  obtain ⟨v22, ev22, h⟩ := h2
  refine r_getR ev22 fk52 rfl d_M_step_120 ?_
  refine r_bipush (v := (8 : Int32)) (by decide) d_M_step_123 ?_
  have h2 := kr_ob h
  clear h
  obtain ⟨v23, ev23, h⟩ := h2
  refine r_iaload ev23 d_M_step_125 ?_
  refine r_bipush (v := (12 : Int32)) (by decide) d_M_step_126 ?_
  refine r_icmp_ge (tgt := 135) d_M_step_128 rfl (fun c => ?_) (fun c => ?_)
  · replace h := kr_ip c h
    refine r_iconst (v := (0 : Int32)) (by decide) d_M_step_135 ?_
    exact kr_sub [1, 2, 3, 4, 5, 6] rfl (s_M_step_B136 h)
  · replace h := kr_in_ c h
    refine r_iconst (v := (1 : Int32)) (by decide) d_M_step_131 ?_
    refine r_goto (tgt := 136) d_M_step_132 rfl ?_
    exact kr_sub [1, 2, 3, 4, 5, 6] rfl (s_M_step_B136 h)
set_option maxRecDepth 20000 in
set_option maxHeartbeats 4000000 in
theorem s_M_step_B109 {S : AS} {x0 : Option Nat} {x1 : Int32} {x2 : Int32} {x3 : Int32} {x4 : Int32} {x5 : Int32} {r : (Int32 × AS)} (h : f_M_step_B109 S x0 x1 x2 x3 x4 x5 = some r) : kr_AW m_M_step 2 109 [(0, va_rf x0), (1, .int x1), (2, .int x2), (3, .int x3), (4, .int x4), (5, .int x5)] [] S (kr_eI r) := by
  unfold f_M_step_B109 at h
  refine r_iconst (v := (1 : Int32)) (by decide) d_M_step_109 ?_
  refine r_goto (tgt := 114) d_M_step_110 rfl ?_
  exact kr_sub [0, 1, 2, 3, 4, 5] rfl (s_M_step_B114 h)
set_option maxRecDepth 20000 in
set_option maxHeartbeats 4000000 in
theorem s_M_step_B113 {S : AS} {x0 : Option Nat} {x1 : Int32} {x2 : Int32} {x3 : Int32} {x4 : Int32} {x5 : Int32} {r : (Int32 × AS)} (h : f_M_step_B113 S x0 x1 x2 x3 x4 x5 = some r) : kr_AW m_M_step 2 113 [(0, va_rf x0), (1, .int x1), (2, .int x2), (3, .int x3), (4, .int x4), (5, .int x5)] [] S (kr_eI r) := by
  unfold f_M_step_B113 at h
  refine r_iconst (v := (0 : Int32)) (by decide) d_M_step_113 ?_
  exact kr_sub [0, 1, 2, 3, 4, 5] rfl (s_M_step_B114 h)
set_option maxRecDepth 20000 in
set_option maxHeartbeats 4000000 in
theorem s_M_step_B81 {S : AS} {x0 : Option Nat} {x1 : Int32} {x2 : Int32} {x3 : Int32} {x4 : Int32} {x5 : Int32} {y0 : Int32} {r : (Int32 × AS)} (h : f_M_step_B81 S x0 x1 x2 x3 x4 x5 y0 = some r) : kr_AW m_M_step 2 81 [(0, va_rf x0), (1, .int x1), (2, .int x2), (3, .int x3), (4, .int x4), (5, .int x5)] [.int y0] S (kr_eI r) := by
  unfold f_M_step_B81 at h
  refine r_istore (i := 7) (lv' := [(7, .int y0), (0, va_rf x0), (1, .int x1), (2, .int x2), (3, .int x3), (4, .int x4), (5, .int x5)]) (by decide) rfl d_M_step_81 ?_
  refine r_iload (i := 7) (x := y0) 0 rfl d_M_step_83 ?_
  refine r_if_eq (tgt := 113) d_M_step_85 rfl (fun c => ?_) (fun c => ?_)
  · replace h := kr_ip c h
    exact kr_sub [1, 2, 3, 4, 5, 6] rfl (s_M_step_B113 h)
  · replace h := kr_in_ c h
    refine r_iload_n (i := 1) (x := x1) 2 rfl d_M_step_88 ?_
    refine r_iconst (v := (5 : Int32)) (by decide) d_M_step_89 ?_
    refine r_icmp_ge (tgt := 109) d_M_step_90 rfl (fun c => ?_) (fun c => ?_)
    · replace h := kr_ip c h
      exact kr_sub [1, 2, 3, 4, 5, 6] rfl (s_M_step_B109 h)
    · replace h := kr_in_ c h
      refine r_iload (i := 4) (x := x4) 5 rfl d_M_step_93 ?_
      have h2 := kr_ob2 h
      clear h
      obtain ⟨v25, S24, eS24, h⟩ := h2
      refine r_callS (M1 := m_M_isNext) (As := [.int x4]) (s_M_isNext eS24) mok_M_isNext rfl w1766 w1767 (by decide) (kr_c8 kr_c0) d_M_step_95 (kr_k1 ?_) kr_kn
      refine r_if_eq (tgt := 113) d_M_step_98 rfl (fun c => ?_) (fun c => ?_)
      · replace h := kr_ip c h
        exact kr_sub [1, 2, 3, 4, 5, 6] rfl (s_M_step_B113 h)
      · replace h := kr_in_ c h
        refine r_iload (i := 5) (x := x5) 6 rfl d_M_step_101 ?_
        have h2 := kr_ob2 h
        clear h
        obtain ⟨v27, S26, eS26, h⟩ := h2
        refine r_callS (M1 := m_M_isNext) (As := [.int x5]) (s_M_isNext eS26) mok_M_isNext rfl w1766 w1767 (by decide) (kr_c8 kr_c0) d_M_step_103 (kr_k1 ?_) kr_kn
        refine r_if_eq (tgt := 113) d_M_step_106 rfl (fun c => ?_) (fun c => ?_)
        · replace h := kr_ip c h
          exact kr_sub [1, 2, 3, 4, 5, 6] rfl (s_M_step_B113 h)
        · replace h := kr_in_ c h
          exact kr_sub [1, 2, 3, 4, 5, 6] rfl (s_M_step_B109 h)
set_option maxRecDepth 20000 in
set_option maxHeartbeats 4000000 in
theorem s_M_step_B76 {S : AS} {x0 : Option Nat} {x1 : Int32} {x2 : Int32} {x3 : Int32} {x4 : Int32} {x5 : Int32} {r : (Int32 × AS)} (h : f_M_step_B76 S x0 x1 x2 x3 x4 x5 = some r) : kr_AW m_M_step 2 76 [(0, va_rf x0), (1, .int x1), (2, .int x2), (3, .int x3), (4, .int x4), (5, .int x5)] [] S (kr_eI r) := by
  unfold f_M_step_B76 at h
  refine r_iconst (v := (1 : Int32)) (by decide) d_M_step_76 ?_
  refine r_goto (tgt := 81) d_M_step_77 rfl ?_
  exact kr_sub [0, 1, 2, 3, 4, 5] rfl (s_M_step_B81 h)
set_option maxRecDepth 20000 in
set_option maxHeartbeats 4000000 in
theorem s_M_step_B80 {S : AS} {x0 : Option Nat} {x1 : Int32} {x2 : Int32} {x3 : Int32} {x4 : Int32} {x5 : Int32} {r : (Int32 × AS)} (h : f_M_step_B80 S x0 x1 x2 x3 x4 x5 = some r) : kr_AW m_M_step 2 80 [(0, va_rf x0), (1, .int x1), (2, .int x2), (3, .int x3), (4, .int x4), (5, .int x5)] [] S (kr_eI r) := by
  unfold f_M_step_B80 at h
  refine r_iconst (v := (0 : Int32)) (by decide) d_M_step_80 ?_
  exact kr_sub [0, 1, 2, 3, 4, 5] rfl (s_M_step_B81 h)
set_option maxRecDepth 20000 in
set_option maxHeartbeats 4000000 in
theorem s_M_step_B34 {S : AS} {x0 : Option Nat} {x1 : Int32} {x2 : Int32} {x3 : Int32} {x4 : Int32} {x5 : Int32} {y0 : Int32} {r : (Int32 × AS)} (h : f_M_step_B34 S x0 x1 x2 x3 x4 x5 y0 = some r) : kr_AW m_M_step 2 34 [(0, va_rf x0), (1, .int x1), (2, .int x2), (3, .int x3), (4, .int x4), (5, .int x5)] [.int y0] S (kr_eI r) := by
  unfold f_M_step_B34 at h
  refine r_istore (i := 6) (lv' := [(6, .int y0), (0, va_rf x0), (1, .int x1), (2, .int x2), (3, .int x3), (4, .int x4), (5, .int x5)]) (by decide) rfl d_M_step_34 ?_
  refine r_iload_n (i := 1) (x := x1) 2 rfl d_M_step_36 ?_
  refine r_iconst (v := (0 : Int32)) (by decide) d_M_step_37 ?_
  refine r_bipush (v := (6 : Int32)) (by decide) d_M_step_38 ?_
  have h2 := kr_ob2 h
  clear h
  obtain ⟨v29, S28, eS28, h⟩ := h2
  refine r_callS (M1 := m_M_isIn) (As := [.int x1, .int (0 : Int32), .int (6 : Int32)]) (s_M_isIn eS28) mok_M_isIn rfl w1700 w1701 (by decide) (kr_c8 kr_c0) d_M_step_40 (kr_k1 ?_) kr_kn
  refine r_if_eq (tgt := 80) d_M_step_43 rfl (fun c => ?_) (fun c => ?_)
  · replace h := kr_ip c h
    exact kr_sub [1, 2, 3, 4, 5, 6] rfl (s_M_step_B80 h)
  · replace h := kr_in_ c h
    refine r_iload_n (i := 2) (x := x2) 3 rfl d_M_step_46 ?_
    refine r_iconst (v := (0 : Int32)) (by decide) d_M_step_47 ?_
    refine r_iload (i := 6) (x := y0) 0 rfl d_M_step_48 ?_
    have h2 := kr_ob2 h
    clear h
    obtain ⟨v31, S30, eS30, h⟩ := h2
    refine r_callS (M1 := m_M_isIn) (As := [.int x2, .int (0 : Int32), .int y0]) (s_M_isIn eS30) mok_M_isIn rfl w1700 w1701 (by decide) (kr_c8 kr_c0) d_M_step_50 (kr_k1 ?_) kr_kn
    refine r_if_eq (tgt := 80) d_M_step_53 rfl (fun c => ?_) (fun c => ?_)
    · replace h := kr_ip c h
      exact kr_sub [1, 2, 3, 4, 5, 6] rfl (s_M_step_B80 h)
    · replace h := kr_in_ c h
      refine r_iload_n (i := 1) (x := x1) 2 rfl d_M_step_56 ?_
      refine r_if_ne (tgt := 72) d_M_step_57 rfl (fun c => ?_) (fun c => ?_)
      · replace h := kr_ip c h
        refine r_iload_n (i := 3) (x := x3) 4 rfl d_M_step_60 ?_
        refine r_iconst (v := (1 : Int32)) (by decide) d_M_step_61 ?_
        refine r_iconst (v := (3 : Int32)) (by decide) d_M_step_62 ?_
        have h2 := kr_ob2 h
        clear h
        obtain ⟨v33, S32, eS32, h⟩ := h2
        refine r_callS (M1 := m_M_isIn) (As := [.int x3, .int (1 : Int32), .int (3 : Int32)]) (s_M_isIn eS32) mok_M_isIn rfl w1700 w1701 (by decide) (kr_c8 kr_c0) d_M_step_63 (kr_k1 ?_) kr_kn
        refine r_if_eq (tgt := 80) d_M_step_66 rfl (fun c => ?_) (fun c => ?_)
        · replace h := kr_ip c h
          exact kr_sub [1, 2, 3, 4, 5, 6] rfl (s_M_step_B80 h)
        · replace h := kr_in_ c h
          refine r_goto (tgt := 76) d_M_step_69 rfl ?_
          exact kr_sub [1, 2, 3, 4, 5, 6] rfl (s_M_step_B76 h)
      · replace h := kr_in_ c h
        refine r_iload_n (i := 3) (x := x3) 4 rfl d_M_step_72 ?_
        refine r_if_ne (tgt := 80) d_M_step_73 rfl (fun c => ?_) (fun c => ?_)
        · replace h := kr_ip c h
          exact kr_sub [1, 2, 3, 4, 5, 6] rfl (s_M_step_B76 h)
        · replace h := kr_in_ c h
          exact kr_sub [1, 2, 3, 4, 5, 6] rfl (s_M_step_B80 h)
set_option maxRecDepth 20000 in
set_option maxHeartbeats 4000000 in
theorem s_M_step_B9 {S : AS} {x0 : Option Nat} {x1 : Int32} {x2 : Int32} {x3 : Int32} {x4 : Int32} {x5 : Int32} {r : (Int32 × AS)} (h : f_M_step_B9 S x0 x1 x2 x3 x4 x5 = some r) : kr_AW m_M_step 2 9 [(0, va_rf x0), (1, .int x1), (2, .int x2), (3, .int x3), (4, .int x4), (5, .int x5)] [] S (kr_eI r) := by
  unfold f_M_step_B9 at h
  refine r_iconst (v := (2 : Int32)) (by decide) d_M_step_9 ?_
  refine r_goto (tgt := 34) d_M_step_10 rfl ?_
  exact kr_sub [0, 1, 2, 3, 4, 5] rfl (s_M_step_B34 h)
set_option maxRecDepth 20000 in
set_option maxHeartbeats 4000000 in
theorem s_M_step {S : AS} {a0 : Option Nat} {a1 : Int32} {a2 : Int32} {a3 : Int32} {a4 : Int32} {a5 : Int32} {r : (Int32 × AS)} (h : f_M_step S a0 a1 a2 a3 a4 a5 = some r) : kr_Con m_M_step 2 [va_rf a0, .int a1, .int a2, .int a3, .int a4, .int a5] S (kr_eI r) := by
  refine kr_con rfl rfl (by decide +kernel) (by simp [lg_sl, kr_rfcat, kr_icat, m_M_step, mL]) ?_
  rw [show lv_args 0 [va_rf a0, .int a1, .int a2, .int a3, .int a4, .int a5] = [(0, va_rf a0), (1, .int a1), (2, .int a2), (3, .int a3), (4, .int a4), (5, .int a5)] from by simp [lv_args, kr_rfcat, kr_icat]]
  unfold f_M_step at h
  refine r_iload_n (i := 1) (x := a1) 1 rfl d_M_step_0 ?_
  refine r_if_eq (tgt := 9) d_M_step_1 rfl (fun c => ?_) (fun c => ?_)
  · replace h := kr_ip c h
    exact kr_sub [0, 1, 2, 3, 4, 5] rfl (s_M_step_B9 h)
  · replace h := kr_in_ c h
    refine r_iload_n (i := 1) (x := a1) 1 rfl d_M_step_4 ?_
    refine r_iconst (v := (3 : Int32)) (by decide) d_M_step_5 ?_
    refine r_icmp_ne (tgt := 13) d_M_step_6 rfl (fun c => ?_) (fun c => ?_)
    · replace h := kr_ip c h
      exact kr_sub [0, 1, 2, 3, 4, 5] rfl (s_M_step_B9 h)
    · replace h := kr_in_ c h
      refine r_iload_n (i := 1) (x := a1) 1 rfl d_M_step_13 ?_
      refine r_iconst (v := (2 : Int32)) (by decide) d_M_step_14 ?_
      refine r_icmp_ne (tgt := 23) d_M_step_15 rfl (fun c => ?_) (fun c => ?_)
      · replace h := kr_ip c h
        refine r_bipush (v := (20 : Int32)) (by decide) d_M_step_18 ?_
        refine r_goto (tgt := 34) d_M_step_20 rfl ?_
        exact kr_sub [0, 1, 2, 3, 4, 5] rfl (s_M_step_B34 h)
      · replace h := kr_in_ c h
        refine r_iload_n (i := 1) (x := a1) 1 rfl d_M_step_23 ?_
        refine r_iconst (v := (4 : Int32)) (by decide) d_M_step_24 ?_
        refine r_icmp_ne (tgt := 33) d_M_step_25 rfl (fun c => ?_) (fun c => ?_)
        · replace h := kr_ip c h
          refine r_bipush (v := (6 : Int32)) (by decide) d_M_step_28 ?_
          refine r_goto (tgt := 34) d_M_step_30 rfl ?_
          exact kr_sub [0, 1, 2, 3, 4, 5] rfl (s_M_step_B34 h)
        · replace h := kr_in_ c h
          refine r_iconst (v := (0 : Int32)) (by decide) d_M_step_33 ?_
          exact kr_sub [0, 1, 2, 3, 4, 5] rfl (s_M_step_B34 h)
/-! KeyringCourtModel.clear()I -/
def f_M_clear (S : AS) (a0 : Option Nat) : Option (Int32 × AS) :=
  (pI S 23 82 a0 (0 : Int32)).bind fun S1 =>
  (gR S1 23 10 a0).bind fun v2 =>
  (aI S1 40 v2 (8 : Int32)).bind fun v3 =>
  (gR S1 23 10 a0).bind fun v4 =>
  (bI S1 v4 (8 : Int32) (0 : Int32)).bind fun S5 =>
  some (v3, S5)
set_option maxRecDepth 20000 in
set_option maxHeartbeats 4000000 in
theorem s_M_clear {S : AS} {a0 : Option Nat} {r : (Int32 × AS)} (h : f_M_clear S a0 = some r) : kr_Con m_M_clear 0 [va_rf a0] S (kr_eI r) := by
  refine kr_con rfl rfl (by decide +kernel) (by simp [lg_sl, kr_rfcat, kr_icat, m_M_clear, mL]) ?_
  rw [show lv_args 0 [va_rf a0] = [(0, va_rf a0)] from by simp [lv_args, kr_rfcat, kr_icat]]
  unfold f_M_clear at h
  refine r_aload_n (i := 0) (x := a0) 0 rfl d_M_clear_0 ?_
  refine r_iconst (v := (0 : Int32)) (by decide) d_M_clear_1 ?_
  have h2 := kr_ob h
  clear h
  obtain ⟨S1, eS1, h⟩ := h2
  refine r_putI eS1 fk128 (Or.inl rfl) rfl d_M_clear_2 ?_
  refine r_aload_n (i := 0) (x := a0) 0 rfl d_M_clear_5 ?_
  have h2 := kr_ob h
  clear h
  obtain ⟨v2, ev2, h⟩ := h2
  refine r_getR ev2 fk52 rfl d_M_clear_6 ?_
  refine r_bipush (v := (8 : Int32)) (by decide) d_M_clear_9 ?_
  have h2 := kr_ob h
  clear h
  obtain ⟨v3, ev3, h⟩ := h2
  refine r_iaload ev3 d_M_clear_11 ?_
  refine r_istore_n (i := 1) (lv' := [(1, .int v3), (0, va_rf a0)]) (by decide) (by show kr_st _ 1 _ = _; simp [kr_st, kr_rfcat, kr_icat]) d_M_clear_12 ?_
  refine r_aload_n (i := 0) (x := a0) 1 rfl d_M_clear_13 ?_
  have h2 := kr_ob h
  clear h
  obtain ⟨v4, ev4, h⟩ := h2
  refine r_getR ev4 fk52 rfl d_M_clear_14 ?_
  refine r_bipush (v := (8 : Int32)) (by decide) d_M_clear_17 ?_
  refine r_iconst (v := (0 : Int32)) (by decide) d_M_clear_19 ?_
  have h2 := kr_ob h
  clear h
  obtain ⟨S5, eS5, h⟩ := h2
  refine r_iastore eS5 d_M_clear_20 ?_
  refine r_iload_n (i := 1) (x := v3) 0 rfl d_M_clear_21 ?_
  cases h
  exact r_iret rfl d_M_clear_22
/-! KeyringCourtModel.isTest(I)Z -/
def f_M_isTest (S : AS) (a0 : Int32) : Option (Int32 × AS) :=
  if a0 < (1 : Int32) then
  some ((0 : Int32), S)
  else
  if (4 : Int32) < a0 then
  some ((0 : Int32), S)
  else
  some ((1 : Int32), S)
set_option maxRecDepth 20000 in
set_option maxHeartbeats 4000000 in
theorem s_M_isTest {S : AS} {a0 : Int32} {r : (Int32 × AS)} (h : f_M_isTest S a0 = some r) : kr_Con m_M_isTest 0 [.int a0] S (kr_eI r) := by
  refine kr_con rfl rfl (by decide +kernel) (by simp [lg_sl, kr_rfcat, kr_icat, m_M_isTest, mL]) ?_
  rw [show lv_args 0 [.int a0] = [(0, .int a0)] from by simp [lv_args, kr_rfcat, kr_icat]]
  unfold f_M_isTest at h
  refine r_iload_n (i := 0) (x := a0) 0 rfl d_M_isTest_0 ?_
  refine r_iconst (v := (1 : Int32)) (by decide) d_M_isTest_1 ?_
  refine r_icmp_lt (tgt := 14) d_M_isTest_2 rfl (fun c => ?_) (fun c => ?_)
  · replace h := kr_ip c h
    refine r_iconst (v := (0 : Int32)) (by decide) d_M_isTest_14 ?_
    cases h
    exact r_zret rfl rfl d_M_isTest_15
  · replace h := kr_in_ c h
    refine r_iload_n (i := 0) (x := a0) 0 rfl d_M_isTest_5 ?_
    refine r_iconst (v := (4 : Int32)) (by decide) d_M_isTest_6 ?_
    refine r_icmp_gt (tgt := 14) d_M_isTest_7 rfl (fun c => ?_) (fun c => ?_)
    · replace h := kr_ip c h
      refine r_iconst (v := (0 : Int32)) (by decide) d_M_isTest_14 ?_
      cases h
      exact r_zret rfl rfl d_M_isTest_15
    · replace h := kr_in_ c h
      refine r_iconst (v := (1 : Int32)) (by decide) d_M_isTest_10 ?_
      refine r_goto (tgt := 15) d_M_isTest_11 rfl ?_
      cases h
      exact r_zret rfl rfl d_M_isTest_15
/-! KeyringCourtModel.circles(I)Z -/
def f_M_circles_B137 (k9 : AS → Option Nat → Int32 → Int32 → Int32 → Int32 → Option (Int32 × AS)) (k19 : AS → Option Nat → Int32 → Int32 → Int32 → Int32 → Int32 → Option (Int32 × AS)) (S : AS) (x0 : Option Nat) (x1 : Int32) (x2 : Int32) (x3 : Int32) (x4 : Int32) (x5 : Int32) : Option (Int32 × AS) :=
  (some (x5 + (1 : Int32))).bind fun i1 =>
  k19 S x0 x1 x2 x3 x4 i1
def f_M_circles_B135 (k9 : AS → Option Nat → Int32 → Int32 → Int32 → Int32 → Option (Int32 × AS)) (k19 : AS → Option Nat → Int32 → Int32 → Int32 → Int32 → Int32 → Option (Int32 × AS)) (S : AS) (x0 : Option Nat) (x1 : Int32) (x2 : Int32) (x4 : Int32) (x5 : Int32) (y0 : Int32) (y1 : Int32) : Option (Int32 × AS) :=
  (some (y0 ||| y1)).bind fun i2 =>
  f_M_circles_B137 k9 k19 S x0 x1 x2 i2 x4 x5
def f_M_circles_B119 (k9 : AS → Option Nat → Int32 → Int32 → Int32 → Int32 → Option (Int32 × AS)) (k19 : AS → Option Nat → Int32 → Int32 → Int32 → Int32 → Int32 → Option (Int32 × AS)) (S : AS) (x0 : Option Nat) (x1 : Int32) (x2 : Int32) (x4 : Int32) (x5 : Int32) (x7 : Int32) (y0 : Int32) (y1 : Int32) : Option (Int32 × AS) :=
  (some (y0 ||| y1)).bind fun i3 =>
  if x7 < 0 then
  f_M_circles_B135 k9 k19 S x0 x1 x2 x4 x5 i3 (0 : Int32)
  else
  f_M_circles_B135 k9 k19 S x0 x1 x2 x4 x5 i3 ((1 : Int32) <<< (x7 &&& 31))
def f_M_circles_B103 (k9 : AS → Option Nat → Int32 → Int32 → Int32 → Int32 → Option (Int32 × AS)) (k19 : AS → Option Nat → Int32 → Int32 → Int32 → Int32 → Int32 → Option (Int32 × AS)) (S : AS) (x0 : Option Nat) (x1 : Int32) (x2 : Int32) (x3 : Int32) (x5 : Int32) (x6 : Int32) (x7 : Int32) (y0 : Int32) : Option (Int32 × AS) :=
  if x6 < 0 then
  f_M_circles_B119 k9 k19 S x0 x1 x2 y0 x5 x7 x3 (0 : Int32)
  else
  f_M_circles_B119 k9 k19 S x0 x1 x2 y0 x5 x7 x3 ((1 : Int32) <<< (x6 &&& 31))
def f_M_circles_B98 (k9 : AS → Option Nat → Int32 → Int32 → Int32 → Int32 → Option (Int32 × AS)) (k19 : AS → Option Nat → Int32 → Int32 → Int32 → Int32 → Int32 → Option (Int32 × AS)) (S : AS) (x0 : Option Nat) (x1 : Int32) (x2 : Int32) (x3 : Int32) (x5 : Int32) (x6 : Int32) (x7 : Int32) : Option (Int32 × AS) :=
  f_M_circles_B103 k9 k19 S x0 x1 x2 x3 x5 x6 x7 (1 : Int32)
def f_M_circles_C19 (k9 : AS → Option Nat → Int32 → Int32 → Int32 → Int32 → Option (Int32 × AS)) (k19 : AS → Option Nat → Int32 → Int32 → Int32 → Int32 → Int32 → Option (Int32 × AS)) (S : AS) (x0 : Option Nat) (x1 : Int32) (x2 : Int32) (x3 : Int32) (x4 : Int32) (x5 : Int32) : Option (Int32 × AS) :=
  (gR S 23 10 x0).bind fun v4 =>
  (aI S 40 v4 (8 : Int32)).bind fun v5 =>
  if v5 ≤ x5 then
  k9 S x0 x1 x2 x3 x4
  else
  if ((x2 >>> (x5 &&& 31)) &&& (1 : Int32)) = (1 : Int32) then
  (gR S 23 11 x0).bind fun v6 =>
  (aI S 40 v6 ((96 : Int32) + x5)).bind fun v7 =>
  kr_b2 (f_M_isTest S v7) fun v9 S8 =>
  if v9 = 0 then
  f_M_circles_B137 k9 k19 S8 x0 x1 x2 x3 x4 x5
  else
  (gR S8 23 14 x0).bind fun v10 =>
  (aI S8 40 v10 ((96 : Int32) + x5)).bind fun v11 =>
  (gR S8 23 15 x0).bind fun v12 =>
  (aI S8 40 v12 ((96 : Int32) + x5)).bind fun v13 =>
  if x4 = 0 then
  if v11 = x1 then
  f_M_circles_B98 k9 k19 S8 x0 x1 x2 x3 x5 v11 v13
  else
  if v13 = x1 then
  f_M_circles_B98 k9 k19 S8 x0 x1 x2 x3 x5 v11 v13
  else
  f_M_circles_B103 k9 k19 S8 x0 x1 x2 x3 x5 v11 v13 (0 : Int32)
  else
  f_M_circles_B98 k9 k19 S8 x0 x1 x2 x3 x5 v11 v13
  else
  f_M_circles_B137 k9 k19 S x0 x1 x2 x3 x4 x5
def f_M_circles_L19 (k9 : AS → Option Nat → Int32 → Int32 → Int32 → Int32 → Option (Int32 × AS)) : Nat → AS → Option Nat → Int32 → Int32 → Int32 → Int32 → Int32 → Option (Int32 × AS)
  | 0, S, x0, x1, x2, x3, x4, x5 => none
  | n + 1, S, x0, x1, x2, x3, x4, x5 => f_M_circles_C19 k9 (f_M_circles_L19 k9 n) S x0 x1 x2 x3 x4 x5
def f_M_circles_C9 (k9 : AS → Option Nat → Int32 → Int32 → Int32 → Int32 → Option (Int32 × AS)) (S : AS) (x0 : Option Nat) (x1 : Int32) (x2 : Int32) (x3 : Int32) (x4 : Int32) : Option (Int32 × AS) :=
  if x3 = x2 then
  (kr_z x4).bind fun u14 =>
  some (x4, S)
  else
  f_M_circles_L19 k9 kr_FU S x0 x1 x3 x3 x4 (0 : Int32)
def f_M_circles_L9 : Nat → AS → Option Nat → Int32 → Int32 → Int32 → Int32 → Option (Int32 × AS)
  | 0, S, x0, x1, x2, x3, x4 => none
  | n + 1, S, x0, x1, x2, x3, x4 => f_M_circles_C9 (f_M_circles_L9 n) S x0 x1 x2 x3 x4
def f_M_circles (S : AS) (a0 : Option Nat) (a1 : Int32) : Option (Int32 × AS) :=
  (some ((1 : Int32) <<< (a1 &&& 31))).bind fun i15 =>
  f_M_circles_L9 kr_FU S a0 a1 (0 : Int32) i15 (0 : Int32)
set_option maxRecDepth 20000 in
set_option maxHeartbeats 4000000 in
theorem s_M_circles_B137 {k9 : AS → Option Nat → Int32 → Int32 → Int32 → Int32 → Option (Int32 × AS)} (hk9 : ∀ {S : AS} {x0 : Option Nat} {x1 : Int32} {x2 : Int32} {x3 : Int32} {x4 : Int32} {r : (Int32 × AS)}, k9 S x0 x1 x2 x3 x4 = some r → kr_AW m_M_circles 1 9 [(0, va_rf x0), (1, .int x1), (2, .int x2), (3, .int x3), (4, .int x4)] [] S (kr_eI r)) {k19 : AS → Option Nat → Int32 → Int32 → Int32 → Int32 → Int32 → Option (Int32 × AS)} (hk19 : ∀ {S : AS} {x0 : Option Nat} {x1 : Int32} {x2 : Int32} {x3 : Int32} {x4 : Int32} {x5 : Int32} {r : (Int32 × AS)}, k19 S x0 x1 x2 x3 x4 x5 = some r → kr_AW m_M_circles 1 19 [(0, va_rf x0), (1, .int x1), (2, .int x2), (3, .int x3), (4, .int x4), (5, .int x5)] [] S (kr_eI r)) {S : AS} {x0 : Option Nat} {x1 : Int32} {x2 : Int32} {x3 : Int32} {x4 : Int32} {x5 : Int32} {r : (Int32 × AS)} (h : f_M_circles_B137 k9 k19 S x0 x1 x2 x3 x4 x5 = some r) : kr_AW m_M_circles 1 137 [(0, va_rf x0), (1, .int x1), (2, .int x2), (3, .int x3), (4, .int x4), (5, .int x5)] [] S (kr_eI r) := by
  unfold f_M_circles_B137 at h
  have h2 := kr_ob h
  clear h
  obtain ⟨i1, ei1, h⟩ := h2
  refine r_iinc (v := i1) (lv' := [(5, .int i1), (0, va_rf x0), (1, .int x1), (2, .int x2), (3, .int x3), (4, .int x4)]) 5 rfl (kr_inc (by decide) ei1) (by decide) rfl d_M_circles_137 ?_
  refine r_goto (tgt := 19) d_M_circles_140 rfl ?_
  exact kr_sub [1, 2, 3, 4, 5, 0] rfl (hk19 h)
set_option maxRecDepth 20000 in
set_option maxHeartbeats 4000000 in
theorem s_M_circles_B135 {k9 : AS → Option Nat → Int32 → Int32 → Int32 → Int32 → Option (Int32 × AS)} (hk9 : ∀ {S : AS} {x0 : Option Nat} {x1 : Int32} {x2 : Int32} {x3 : Int32} {x4 : Int32} {r : (Int32 × AS)}, k9 S x0 x1 x2 x3 x4 = some r → kr_AW m_M_circles 1 9 [(0, va_rf x0), (1, .int x1), (2, .int x2), (3, .int x3), (4, .int x4)] [] S (kr_eI r)) {k19 : AS → Option Nat → Int32 → Int32 → Int32 → Int32 → Int32 → Option (Int32 × AS)} (hk19 : ∀ {S : AS} {x0 : Option Nat} {x1 : Int32} {x2 : Int32} {x3 : Int32} {x4 : Int32} {x5 : Int32} {r : (Int32 × AS)}, k19 S x0 x1 x2 x3 x4 x5 = some r → kr_AW m_M_circles 1 19 [(0, va_rf x0), (1, .int x1), (2, .int x2), (3, .int x3), (4, .int x4), (5, .int x5)] [] S (kr_eI r)) {S : AS} {x0 : Option Nat} {x1 : Int32} {x2 : Int32} {x4 : Int32} {x5 : Int32} {y0 : Int32} {y1 : Int32} {r : (Int32 × AS)} (h : f_M_circles_B135 k9 k19 S x0 x1 x2 x4 x5 y0 y1 = some r) : kr_AW m_M_circles 1 135 [(0, va_rf x0), (1, .int x1), (2, .int x2), (4, .int x4), (5, .int x5)] [.int y1, .int y0] S (kr_eI r) := by
  unfold f_M_circles_B135 at h
  refine r_ior d_M_circles_135 ?_
  have h2 := kr_ob h
  clear h
  obtain ⟨i2, ei2, h⟩ := h2
  refine kr_nmI ei2 ?_
  refine r_istore_n (i := 3) (lv' := [(3, .int i2), (0, va_rf x0), (1, .int x1), (2, .int x2), (4, .int x4), (5, .int x5)]) (by decide) rfl d_M_circles_136 ?_
  exact kr_sub [1, 2, 3, 0, 4, 5] rfl (s_M_circles_B137 hk9 hk19 h)
set_option maxRecDepth 20000 in
set_option maxHeartbeats 4000000 in
theorem s_M_circles_B119 {k9 : AS → Option Nat → Int32 → Int32 → Int32 → Int32 → Option (Int32 × AS)} (hk9 : ∀ {S : AS} {x0 : Option Nat} {x1 : Int32} {x2 : Int32} {x3 : Int32} {x4 : Int32} {r : (Int32 × AS)}, k9 S x0 x1 x2 x3 x4 = some r → kr_AW m_M_circles 1 9 [(0, va_rf x0), (1, .int x1), (2, .int x2), (3, .int x3), (4, .int x4)] [] S (kr_eI r)) {k19 : AS → Option Nat → Int32 → Int32 → Int32 → Int32 → Int32 → Option (Int32 × AS)} (hk19 : ∀ {S : AS} {x0 : Option Nat} {x1 : Int32} {x2 : Int32} {x3 : Int32} {x4 : Int32} {x5 : Int32} {r : (Int32 × AS)}, k19 S x0 x1 x2 x3 x4 x5 = some r → kr_AW m_M_circles 1 19 [(0, va_rf x0), (1, .int x1), (2, .int x2), (3, .int x3), (4, .int x4), (5, .int x5)] [] S (kr_eI r)) {S : AS} {x0 : Option Nat} {x1 : Int32} {x2 : Int32} {x4 : Int32} {x5 : Int32} {x7 : Int32} {y0 : Int32} {y1 : Int32} {r : (Int32 × AS)} (h : f_M_circles_B119 k9 k19 S x0 x1 x2 x4 x5 x7 y0 y1 = some r) : kr_AW m_M_circles 1 119 [(0, va_rf x0), (1, .int x1), (2, .int x2), (4, .int x4), (5, .int x5), (7, .int x7)] [.int y1, .int y0] S (kr_eI r) := by
  unfold f_M_circles_B119 at h
  refine r_ior d_M_circles_119 ?_
  have h2 := kr_ob h
  clear h
  obtain ⟨i3, ei3, h⟩ := h2
  refine kr_nmI ei3 ?_
  refine r_istore_n (i := 3) (lv' := [(3, .int i3), (0, va_rf x0), (1, .int x1), (2, .int x2), (4, .int x4), (5, .int x5), (7, .int x7)]) (by decide) rfl d_M_circles_120 ?_
  refine r_iload_n (i := 3) (x := i3) 0 rfl d_M_circles_121 ?_
  refine r_iload (i := 7) (x := x7) 6 rfl d_M_circles_122 ?_
  refine r_if_lt (tgt := 134) d_M_circles_124 rfl (fun c => ?_) (fun c => ?_)
  · replace h := kr_ip c h
    refine r_iconst (v := (0 : Int32)) (by decide) d_M_circles_134 ?_
    exact kr_sub [1, 2, 3, 4, 5] rfl (s_M_circles_B135 hk9 hk19 h)
  · replace h := kr_in_ c h
    refine r_iconst (v := (1 : Int32)) (by decide) d_M_circles_127 ?_
    refine r_iload (i := 7) (x := x7) 6 rfl d_M_circles_128 ?_
    refine r_ishl d_M_circles_130 ?_
    refine r_goto (tgt := 135) d_M_circles_131 rfl ?_
    exact kr_sub [1, 2, 3, 4, 5] rfl (s_M_circles_B135 hk9 hk19 h)
set_option maxRecDepth 20000 in
set_option maxHeartbeats 4000000 in
theorem s_M_circles_B103 {k9 : AS → Option Nat → Int32 → Int32 → Int32 → Int32 → Option (Int32 × AS)} (hk9 : ∀ {S : AS} {x0 : Option Nat} {x1 : Int32} {x2 : Int32} {x3 : Int32} {x4 : Int32} {r : (Int32 × AS)}, k9 S x0 x1 x2 x3 x4 = some r → kr_AW m_M_circles 1 9 [(0, va_rf x0), (1, .int x1), (2, .int x2), (3, .int x3), (4, .int x4)] [] S (kr_eI r)) {k19 : AS → Option Nat → Int32 → Int32 → Int32 → Int32 → Int32 → Option (Int32 × AS)} (hk19 : ∀ {S : AS} {x0 : Option Nat} {x1 : Int32} {x2 : Int32} {x3 : Int32} {x4 : Int32} {x5 : Int32} {r : (Int32 × AS)}, k19 S x0 x1 x2 x3 x4 x5 = some r → kr_AW m_M_circles 1 19 [(0, va_rf x0), (1, .int x1), (2, .int x2), (3, .int x3), (4, .int x4), (5, .int x5)] [] S (kr_eI r)) {S : AS} {x0 : Option Nat} {x1 : Int32} {x2 : Int32} {x3 : Int32} {x5 : Int32} {x6 : Int32} {x7 : Int32} {y0 : Int32} {r : (Int32 × AS)} (h : f_M_circles_B103 k9 k19 S x0 x1 x2 x3 x5 x6 x7 y0 = some r) : kr_AW m_M_circles 1 103 [(0, va_rf x0), (1, .int x1), (2, .int x2), (3, .int x3), (5, .int x5), (6, .int x6), (7, .int x7)] [.int y0] S (kr_eI r) := by
  unfold f_M_circles_B103 at h
  refine r_istore (i := 4) (lv' := [(4, .int y0), (0, va_rf x0), (1, .int x1), (2, .int x2), (3, .int x3), (5, .int x5), (6, .int x6), (7, .int x7)]) (by decide) rfl d_M_circles_103 ?_
  refine r_iload_n (i := 3) (x := x3) 4 rfl d_M_circles_105 ?_
  refine r_iload (i := 6) (x := x6) 6 rfl d_M_circles_106 ?_
  refine r_if_lt (tgt := 118) d_M_circles_108 rfl (fun c => ?_) (fun c => ?_)
  · replace h := kr_ip c h
    refine r_iconst (v := (0 : Int32)) (by decide) d_M_circles_118 ?_
    exact kr_sub [1, 2, 3, 0, 5, 7] rfl (s_M_circles_B119 hk9 hk19 h)
  · replace h := kr_in_ c h
    refine r_iconst (v := (1 : Int32)) (by decide) d_M_circles_111 ?_
    refine r_iload (i := 6) (x := x6) 6 rfl d_M_circles_112 ?_
    refine r_ishl d_M_circles_114 ?_
    refine r_goto (tgt := 119) d_M_circles_115 rfl ?_
    exact kr_sub [1, 2, 3, 0, 5, 7] rfl (s_M_circles_B119 hk9 hk19 h)
set_option maxRecDepth 20000 in
set_option maxHeartbeats 4000000 in
theorem s_M_circles_B98 {k9 : AS → Option Nat → Int32 → Int32 → Int32 → Int32 → Option (Int32 × AS)} (hk9 : ∀ {S : AS} {x0 : Option Nat} {x1 : Int32} {x2 : Int32} {x3 : Int32} {x4 : Int32} {r : (Int32 × AS)}, k9 S x0 x1 x2 x3 x4 = some r → kr_AW m_M_circles 1 9 [(0, va_rf x0), (1, .int x1), (2, .int x2), (3, .int x3), (4, .int x4)] [] S (kr_eI r)) {k19 : AS → Option Nat → Int32 → Int32 → Int32 → Int32 → Int32 → Option (Int32 × AS)} (hk19 : ∀ {S : AS} {x0 : Option Nat} {x1 : Int32} {x2 : Int32} {x3 : Int32} {x4 : Int32} {x5 : Int32} {r : (Int32 × AS)}, k19 S x0 x1 x2 x3 x4 x5 = some r → kr_AW m_M_circles 1 19 [(0, va_rf x0), (1, .int x1), (2, .int x2), (3, .int x3), (4, .int x4), (5, .int x5)] [] S (kr_eI r)) {S : AS} {x0 : Option Nat} {x1 : Int32} {x2 : Int32} {x3 : Int32} {x5 : Int32} {x6 : Int32} {x7 : Int32} {r : (Int32 × AS)} (h : f_M_circles_B98 k9 k19 S x0 x1 x2 x3 x5 x6 x7 = some r) : kr_AW m_M_circles 1 98 [(0, va_rf x0), (1, .int x1), (2, .int x2), (3, .int x3), (5, .int x5), (6, .int x6), (7, .int x7)] [] S (kr_eI r) := by
  unfold f_M_circles_B98 at h
  refine r_iconst (v := (1 : Int32)) (by decide) d_M_circles_98 ?_
  refine r_goto (tgt := 103) d_M_circles_99 rfl ?_
  exact kr_sub [0, 1, 2, 3, 4, 5, 6] rfl (s_M_circles_B103 hk9 hk19 h)
set_option maxRecDepth 20000 in
set_option maxHeartbeats 4000000 in
theorem s_M_circles_C19 {k9 : AS → Option Nat → Int32 → Int32 → Int32 → Int32 → Option (Int32 × AS)} (hk9 : ∀ {S : AS} {x0 : Option Nat} {x1 : Int32} {x2 : Int32} {x3 : Int32} {x4 : Int32} {r : (Int32 × AS)}, k9 S x0 x1 x2 x3 x4 = some r → kr_AW m_M_circles 1 9 [(0, va_rf x0), (1, .int x1), (2, .int x2), (3, .int x3), (4, .int x4)] [] S (kr_eI r)) {k19 : AS → Option Nat → Int32 → Int32 → Int32 → Int32 → Int32 → Option (Int32 × AS)} (hk19 : ∀ {S : AS} {x0 : Option Nat} {x1 : Int32} {x2 : Int32} {x3 : Int32} {x4 : Int32} {x5 : Int32} {r : (Int32 × AS)}, k19 S x0 x1 x2 x3 x4 x5 = some r → kr_AW m_M_circles 1 19 [(0, va_rf x0), (1, .int x1), (2, .int x2), (3, .int x3), (4, .int x4), (5, .int x5)] [] S (kr_eI r)) {S : AS} {x0 : Option Nat} {x1 : Int32} {x2 : Int32} {x3 : Int32} {x4 : Int32} {x5 : Int32} {r : (Int32 × AS)} (h : f_M_circles_C19 k9 k19 S x0 x1 x2 x3 x4 x5 = some r) : kr_AW m_M_circles 1 19 [(0, va_rf x0), (1, .int x1), (2, .int x2), (3, .int x3), (4, .int x4), (5, .int x5)] [] S (kr_eI r) := by
  unfold f_M_circles_C19 at h
  refine r_iload (i := 5) (x := x5) 5 rfl d_M_circles_19 ?_
  refine r_aload_n (i := 0) (x := x0) 0 rfl d_M_circles_21 ?_
  have h2 := kr_ob h
  clear h
  obtain ⟨v4, ev4, h⟩ := h2
  refine r_getR ev4 fk52 rfl d_M_circles_22 ?_
  refine r_bipush (v := (8 : Int32)) (by decide) d_M_circles_25 ?_
  have h2 := kr_ob h
  clear h
  obtain ⟨v5, ev5, h⟩ := h2
  refine r_iaload ev5 d_M_circles_27 ?_
  refine r_icmp_ge (tgt := 143) d_M_circles_28 rfl (fun c => ?_) (fun c => ?_)
  · replace h := kr_ip c h
    refine r_goto (tgt := 9) d_M_circles_143 rfl ?_
    exact kr_sub [0, 1, 2, 3, 4] rfl (hk9 h)
  · replace h := kr_in_ c h
    refine r_iload_n (i := 2) (x := x2) 2 rfl d_M_circles_31 ?_
    refine r_iload (i := 5) (x := x5) 5 rfl d_M_circles_32 ?_
    refine r_ishr d_M_circles_34 ?_
    refine r_iconst (v := (1 : Int32)) (by decide) d_M_circles_35 ?_
    refine r_iand d_M_circles_36 ?_
    refine r_iconst (v := (1 : Int32)) (by decide) d_M_circles_37 ?_
    refine r_icmp_ne (tgt := 137) d_M_circles_38 rfl (fun c => ?_) (fun c => ?_)
    · replace h := kr_ip c h
      refine r_aload_n (i := 0) (x := x0) 0 rfl d_M_circles_41 ?_
      have h2 := kr_ob h
      clear h
      obtain ⟨v6, ev6, h⟩ := h2
      refine r_getR ev6 fk53 rfl d_M_circles_42 ?_
      refine r_bipush (v := (96 : Int32)) (by decide) d_M_circles_45 ?_
      refine r_iload (i := 5) (x := x5) 5 rfl d_M_circles_47 ?_
      refine r_iadd d_M_circles_49 ?_
      have h2 := kr_ob h
      clear h
      obtain ⟨v7, ev7, h⟩ := h2
      refine r_iaload ev7 d_M_circles_50 ?_
      have h2 := kr_ob2 h
      clear h
      obtain ⟨v9, S8, eS8, h⟩ := h2
      refine r_callS (M1 := m_M_isTest) (As := [.int v7]) (s_M_isTest eS8) mok_M_isTest rfl w1777 w1778 (by decide) (kr_c8 kr_c0) d_M_circles_51 (kr_k1 ?_) kr_kn
      refine r_if_eq (tgt := 137) d_M_circles_54 rfl (fun c => ?_) (fun c => ?_)
      · replace h := kr_ip c h
        exact kr_sub [0, 1, 2, 3, 4, 5] rfl (s_M_circles_B137 hk9 hk19 h)
      · replace h := kr_in_ c h
        refine r_aload_n (i := 0) (x := x0) 0 rfl d_M_circles_57 ?_
        have h2 := kr_ob h
        clear h
        obtain ⟨v10, ev10, h⟩ := h2
        refine r_getR ev10 fk56 rfl d_M_circles_58 ?_
        refine r_bipush (v := (96 : Int32)) (by decide) d_M_circles_61 ?_
        refine r_iload (i := 5) (x := x5) 5 rfl d_M_circles_63 ?_
        refine r_iadd d_M_circles_65 ?_
        have h2 := kr_ob h
        clear h
        obtain ⟨v11, ev11, h⟩ := h2
        refine r_iaload ev11 d_M_circles_66 ?_
        refine r_istore (i := 6) (lv' := [(6, .int v11), (0, va_rf x0), (1, .int x1), (2, .int x2), (3, .int x3), (4, .int x4), (5, .int x5)]) (by decide) rfl d_M_circles_67 ?_
        refine r_aload_n (i := 0) (x := x0) 1 rfl d_M_circles_69 ?_
        have h2 := kr_ob h
        clear h
        obtain ⟨v12, ev12, h⟩ := h2
        refine r_getR ev12 fk57 rfl d_M_circles_70 ?_
        refine r_bipush (v := (96 : Int32)) (by decide) d_M_circles_73 ?_
        refine r_iload (i := 5) (x := x5) 6 rfl d_M_circles_75 ?_
        refine r_iadd d_M_circles_77 ?_
        have h2 := kr_ob h
        clear h
        obtain ⟨v13, ev13, h⟩ := h2
        refine r_iaload ev13 d_M_circles_78 ?_
        refine r_istore (i := 7) (lv' := [(7, .int v13), (6, .int v11), (0, va_rf x0), (1, .int x1), (2, .int x2), (3, .int x3), (4, .int x4), (5, .int x5)]) (by decide) rfl d_M_circles_79 ?_
        refine r_iload (i := 4) (x := x4) 6 rfl d_M_circles_81 ?_
        refine r_if_ne (tgt := 98) d_M_circles_83 rfl (fun c => ?_) (fun c => ?_)
        · replace h := kr_ip c h
          refine r_iload (i := 6) (x := v11) 1 rfl d_M_circles_86 ?_
          refine r_iload_n (i := 1) (x := x1) 3 rfl d_M_circles_88 ?_
          refine r_icmp_eq (tgt := 98) d_M_circles_89 rfl (fun c => ?_) (fun c => ?_)
          · replace h := kr_ip c h
            exact kr_sub [2, 3, 4, 5, 7, 1, 0] rfl (s_M_circles_B98 hk9 hk19 h)
          · replace h := kr_in_ c h
            refine r_iload (i := 7) (x := v13) 0 rfl d_M_circles_92 ?_
            refine r_iload_n (i := 1) (x := x1) 3 rfl d_M_circles_94 ?_
            refine r_icmp_ne (tgt := 102) d_M_circles_95 rfl (fun c => ?_) (fun c => ?_)
            · replace h := kr_ip c h
              exact kr_sub [2, 3, 4, 5, 7, 1, 0] rfl (s_M_circles_B98 hk9 hk19 h)
            · replace h := kr_in_ c h
              refine r_iconst (v := (0 : Int32)) (by decide) d_M_circles_102 ?_
              exact kr_sub [2, 3, 4, 5, 7, 1, 0] rfl (s_M_circles_B103 hk9 hk19 h)
        · replace h := kr_in_ c h
          exact kr_sub [2, 3, 4, 5, 7, 1, 0] rfl (s_M_circles_B98 hk9 hk19 h)
    · replace h := kr_in_ c h
      exact kr_sub [0, 1, 2, 3, 4, 5] rfl (s_M_circles_B137 hk9 hk19 h)
theorem s_M_circles_L19 {k9 : AS → Option Nat → Int32 → Int32 → Int32 → Int32 → Option (Int32 × AS)} (hk9 : ∀ {S : AS} {x0 : Option Nat} {x1 : Int32} {x2 : Int32} {x3 : Int32} {x4 : Int32} {r : (Int32 × AS)}, k9 S x0 x1 x2 x3 x4 = some r → kr_AW m_M_circles 1 9 [(0, va_rf x0), (1, .int x1), (2, .int x2), (3, .int x3), (4, .int x4)] [] S (kr_eI r)) (n : Nat) : ∀ {S : AS} {x0 : Option Nat} {x1 : Int32} {x2 : Int32} {x3 : Int32} {x4 : Int32} {x5 : Int32} {r : (Int32 × AS)}, f_M_circles_L19 k9 n S x0 x1 x2 x3 x4 x5 = some r → kr_AW m_M_circles 1 19 [(0, va_rf x0), (1, .int x1), (2, .int x2), (3, .int x3), (4, .int x4), (5, .int x5)] [] S (kr_eI r) := by
  induction n with
  | zero => intro S x0 x1 x2 x3 x4 x5 r h; cases h
  | succ n ih => intro S x0 x1 x2 x3 x4 x5 r h; exact s_M_circles_C19 hk9 (fun {_} {_} {_} {_} {_} {_} {_} {_} h => ih h) h
set_option maxRecDepth 20000 in
set_option maxHeartbeats 4000000 in
theorem s_M_circles_C9 {k9 : AS → Option Nat → Int32 → Int32 → Int32 → Int32 → Option (Int32 × AS)} (hk9 : ∀ {S : AS} {x0 : Option Nat} {x1 : Int32} {x2 : Int32} {x3 : Int32} {x4 : Int32} {r : (Int32 × AS)}, k9 S x0 x1 x2 x3 x4 = some r → kr_AW m_M_circles 1 9 [(0, va_rf x0), (1, .int x1), (2, .int x2), (3, .int x3), (4, .int x4)] [] S (kr_eI r)) {S : AS} {x0 : Option Nat} {x1 : Int32} {x2 : Int32} {x3 : Int32} {x4 : Int32} {r : (Int32 × AS)} (h : f_M_circles_C9 k9 S x0 x1 x2 x3 x4 = some r) : kr_AW m_M_circles 1 9 [(0, va_rf x0), (1, .int x1), (2, .int x2), (3, .int x3), (4, .int x4)] [] S (kr_eI r) := by
  unfold f_M_circles_C9 at h
  refine r_iload_n (i := 3) (x := x3) 3 rfl d_M_circles_9 ?_
  refine r_iload_n (i := 2) (x := x2) 2 rfl d_M_circles_10 ?_
  refine r_icmp_eq (tgt := 146) d_M_circles_11 rfl (fun c => ?_) (fun c => ?_)
  · replace h := kr_ip c h
    refine r_iload (i := 4) (x := x4) 4 rfl d_M_circles_146 ?_
    have h2 := kr_ob h
    clear h
    obtain ⟨⟨⟩, eu14, h⟩ := h2
    cases h
    exact r_zret rfl eu14 d_M_circles_148
  · replace h := kr_in_ c h
    refine r_iload_n (i := 3) (x := x3) 3 rfl d_M_circles_14 ?_
    refine r_istore_n (i := 2) (lv' := [(2, .int x3), (0, va_rf x0), (1, .int x1), (3, .int x3), (4, .int x4)]) (by decide) rfl d_M_circles_15 ?_
    refine r_iconst (v := (0 : Int32)) (by decide) d_M_circles_16 ?_
    refine r_istore (i := 5) (lv' := [(5, .int (0 : Int32)), (2, .int x3), (0, va_rf x0), (1, .int x1), (3, .int x3), (4, .int x4)]) (by decide) rfl d_M_circles_17 ?_
    exact kr_sub [2, 3, 1, 4, 5, 0] rfl (s_M_circles_L19 hk9 kr_FU h)
theorem s_M_circles_L9 (n : Nat) : ∀ {S : AS} {x0 : Option Nat} {x1 : Int32} {x2 : Int32} {x3 : Int32} {x4 : Int32} {r : (Int32 × AS)}, f_M_circles_L9 n S x0 x1 x2 x3 x4 = some r → kr_AW m_M_circles 1 9 [(0, va_rf x0), (1, .int x1), (2, .int x2), (3, .int x3), (4, .int x4)] [] S (kr_eI r) := by
  induction n with
  | zero => intro S x0 x1 x2 x3 x4 r h; cases h
  | succ n ih => intro S x0 x1 x2 x3 x4 r h; exact s_M_circles_C9 (fun {_} {_} {_} {_} {_} {_} {_} h => ih h) h
set_option maxRecDepth 20000 in
set_option maxHeartbeats 4000000 in
theorem s_M_circles {S : AS} {a0 : Option Nat} {a1 : Int32} {r : (Int32 × AS)} (h : f_M_circles S a0 a1 = some r) : kr_Con m_M_circles 1 [va_rf a0, .int a1] S (kr_eI r) := by
  refine kr_con rfl rfl (by decide +kernel) (by simp [lg_sl, kr_rfcat, kr_icat, m_M_circles, mL]) ?_
  rw [show lv_args 0 [va_rf a0, .int a1] = [(0, va_rf a0), (1, .int a1)] from by simp [lv_args, kr_rfcat, kr_icat]]
  unfold f_M_circles at h
  refine r_iconst (v := (0 : Int32)) (by decide) d_M_circles_0 ?_
  refine r_istore_n (i := 2) (lv' := [(2, .int (0 : Int32)), (0, va_rf a0), (1, .int a1)]) (by decide) rfl d_M_circles_1 ?_
  refine r_iconst (v := (1 : Int32)) (by decide) d_M_circles_2 ?_
  refine r_iload_n (i := 1) (x := a1) 2 rfl d_M_circles_3 ?_
  refine r_ishl d_M_circles_4 ?_
  have h2 := kr_ob h
  clear h
  obtain ⟨i15, ei15, h⟩ := h2
  refine kr_nmI ei15 ?_
  refine r_istore_n (i := 3) (lv' := [(3, .int i15), (2, .int (0 : Int32)), (0, va_rf a0), (1, .int a1)]) (by decide) rfl d_M_circles_5 ?_
  refine r_iconst (v := (0 : Int32)) (by decide) d_M_circles_6 ?_
  refine r_istore (i := 4) (lv' := [(4, .int (0 : Int32)), (3, .int i15), (2, .int (0 : Int32)), (0, va_rf a0), (1, .int a1)]) (by decide) rfl d_M_circles_7 ?_
  exact kr_sub [3, 4, 2, 1, 0] rfl (s_M_circles_L9 kr_FU h)
/-! KeyringCourtModel.may(Z)Z -/
def f_M_may (S : AS) (a0 : Option Nat) (a1 : Int32) : Option (Int32 × AS) :=
  if a1 = 0 then
  (pI S 23 82 a0 (1 : Int32)).bind fun S1 =>
  (kr_z a1).bind fun u2 =>
  some (a1, S1)
  else
  (pI S 23 82 a0 (0 : Int32)).bind fun S3 =>
  (kr_z a1).bind fun u4 =>
  some (a1, S3)
set_option maxRecDepth 20000 in
set_option maxHeartbeats 4000000 in
theorem s_M_may {S : AS} {a0 : Option Nat} {a1 : Int32} {r : (Int32 × AS)} (h : f_M_may S a0 a1 = some r) : kr_Con m_M_may 0 [va_rf a0, .int a1] S (kr_eI r) := by
  refine kr_con rfl rfl (by decide +kernel) (by simp [lg_sl, kr_rfcat, kr_icat, m_M_may, mL]) ?_
  rw [show lv_args 0 [va_rf a0, .int a1] = [(0, va_rf a0), (1, .int a1)] from by simp [lv_args, kr_rfcat, kr_icat]]
  unfold f_M_may at h
  refine r_aload_n (i := 0) (x := a0) 0 rfl d_M_may_0 ?_
  refine r_iload_n (i := 1) (x := a1) 1 rfl d_M_may_1 ?_
  refine r_if_eq (tgt := 9) d_M_may_2 rfl (fun c => ?_) (fun c => ?_)
  · replace h := kr_ip c h
    refine r_iconst (v := (1 : Int32)) (by decide) d_M_may_9 ?_
    have h2 := kr_ob h
    clear h
    obtain ⟨S1, eS1, h⟩ := h2
    refine r_putI eS1 fk128 (Or.inl rfl) rfl d_M_may_10 ?_
    refine r_iload_n (i := 1) (x := a1) 1 rfl d_M_may_13 ?_
    have h2 := kr_ob h
    clear h
    obtain ⟨⟨⟩, eu2, h⟩ := h2
    cases h
    exact r_zret rfl eu2 d_M_may_14
  · replace h := kr_in_ c h
    refine r_iconst (v := (0 : Int32)) (by decide) d_M_may_5 ?_
    refine r_goto (tgt := 10) d_M_may_6 rfl ?_
    have h2 := kr_ob h
    clear h
    obtain ⟨S3, eS3, h⟩ := h2
    refine r_putI eS3 fk128 (Or.inl rfl) rfl d_M_may_10 ?_
    refine r_iload_n (i := 1) (x := a1) 1 rfl d_M_may_13 ?_
    have h2 := kr_ob h
    clear h
    obtain ⟨⟨⟩, eu4, h⟩ := h2
    cases h
    exact r_zret rfl eu4 d_M_may_14
/-! KeyringCourtModel.publish()I -/
def f_M_publish_B94 (k27 : AS → Option Nat → Int32 → Int32 → Option (Int32 × AS)) (S : AS) (x0 : Option Nat) (x2 : Int32) (y0 : Int32) : Option (Int32 × AS) :=
  (some (x2 + (1 : Int32))).bind fun i1 =>
  k27 S x0 y0 i1
def f_M_publish_B89 (k27 : AS → Option Nat → Int32 → Int32 → Option (Int32 × AS)) (S : AS) (x0 : Option Nat) (x2 : Int32) : Option (Int32 × AS) :=
  f_M_publish_B94 k27 S x0 x2 (1 : Int32)
def f_M_publish_B93 (k27 : AS → Option Nat → Int32 → Int32 → Option (Int32 × AS)) (S : AS) (x0 : Option Nat) (x2 : Int32) : Option (Int32 × AS) :=
  f_M_publish_B94 k27 S x0 x2 (0 : Int32)
def f_M_publish_B146 (k103 : AS → Option Nat → Int32 → Int32 → Option (Int32 × AS)) (S : AS) (x0 : Option Nat) (x2 : Int32) (y0 : Int32) : Option (Int32 × AS) :=
  (some (x2 + (1 : Int32))).bind fun i2 =>
  k103 S x0 y0 i2
def f_M_publish_B141 (k103 : AS → Option Nat → Int32 → Int32 → Option (Int32 × AS)) (S : AS) (x0 : Option Nat) (x2 : Int32) : Option (Int32 × AS) :=
  f_M_publish_B146 k103 S x0 x2 (1 : Int32)
def f_M_publish_C165 (k165 : AS → Option Nat → Int32 → Option (Int32 × AS)) (S : AS) (x0 : Option Nat) (x2 : Int32) : Option (Int32 × AS) :=
  (gR S 23 10 x0).bind fun v3 =>
  (aI S 40 v3 (8 : Int32)).bind fun v4 =>
  if v4 ≤ x2 then
  (gR S 23 10 x0).bind fun v5 =>
  (gI S 23 9 x0).bind fun v6 =>
  (gR S 23 10 x0).bind fun v7 =>
  (aI S 40 v7 (8 : Int32)).bind fun v8 =>
  (bI S v5 v6 v8).bind fun S9 =>
  (gR S9 23 10 x0).bind fun v10 =>
  (bI S9 v10 (8 : Int32) (0 : Int32)).bind fun S11 =>
  (gI S11 23 9 x0).bind fun v12 =>
  (pI S11 23 9 x0 (v12 + (1 : Int32))).bind fun S13 =>
  (gI S13 23 9 x0).bind fun v14 =>
  some (v14 - (1 : Int32), S13)
  else
  (gI S 23 9 x0).bind fun v15 =>
  (some (((12 : Int32) * v15) + x2)).bind fun i16 =>
  (gR S 23 11 x0).bind fun v17 =>
  (gR S 23 11 x0).bind fun v18 =>
  (aI S 40 v18 ((96 : Int32) + x2)).bind fun v19 =>
  (bI S v17 i16 v19).bind fun S20 =>
  (gR S20 23 12 x0).bind fun v21 =>
  (gR S20 23 12 x0).bind fun v22 =>
  (aI S20 40 v22 ((96 : Int32) + x2)).bind fun v23 =>
  (bI S20 v21 i16 v23).bind fun S24 =>
  (gR S24 23 13 x0).bind fun v25 =>
  (gR S24 23 13 x0).bind fun v26 =>
  (aI S24 40 v26 ((96 : Int32) + x2)).bind fun v27 =>
  (bI S24 v25 i16 v27).bind fun S28 =>
  (gR S28 23 14 x0).bind fun v29 =>
  (gR S28 23 14 x0).bind fun v30 =>
  (aI S28 40 v30 ((96 : Int32) + x2)).bind fun v31 =>
  (bI S28 v29 i16 v31).bind fun S32 =>
  (gR S32 23 15 x0).bind fun v33 =>
  (gR S32 23 15 x0).bind fun v34 =>
  (aI S32 40 v34 ((96 : Int32) + x2)).bind fun v35 =>
  (bI S32 v33 i16 v35).bind fun S36 =>
  (some (x2 + (1 : Int32))).bind fun i37 =>
  k165 S36 x0 i37
def f_M_publish_L165 : Nat → AS → Option Nat → Int32 → Option (Int32 × AS)
  | 0, S, x0, x2 => none
  | n + 1, S, x0, x2 => f_M_publish_C165 (f_M_publish_L165 n) S x0 x2
def f_M_publish_B153 (S : AS) (x0 : Option Nat) (x1 : Int32) : Option (Int32 × AS) :=
  (kr_rv S 23 x0).bind fun u38 =>
  kr_b2 (f_M_may S x0 x1) fun v40 S39 =>
  if v40 = 0 then
  some ((0 : Int32), S39)
  else
  f_M_publish_L165 kr_FU S39 x0 (0 : Int32)
def f_M_publish_C103 (k103 : AS → Option Nat → Int32 → Int32 → Option (Int32 × AS)) (S : AS) (x0 : Option Nat) (x1 : Int32) (x2 : Int32) : Option (Int32 × AS) :=
  (gR S 23 10 x0).bind fun v41 =>
  (aI S 40 v41 (8 : Int32)).bind fun v42 =>
  if v42 ≤ x2 then
  f_M_publish_B153 S x0 x1
  else
  if x1 = 0 then
  f_M_publish_B153 S x0 x1
  else
  (gR S 23 11 x0).bind fun v43 =>
  (aI S 40 v43 ((96 : Int32) + x2)).bind fun v44 =>
  kr_b2 (f_M_isTest S v44) fun v46 S45 =>
  if v46 = 0 then
  f_M_publish_B141 k103 S45 x0 x2
  else
  (kr_rv S45 23 x0).bind fun u47 =>
  kr_b2 (f_M_circles S45 x0 x2) fun v49 S48 =>
  if v49 = 0 then
  f_M_publish_B141 k103 S48 x0 x2
  else
  f_M_publish_B146 k103 S48 x0 x2 (0 : Int32)
def f_M_publish_L103 : Nat → AS → Option Nat → Int32 → Int32 → Option (Int32 × AS)
  | 0, S, x0, x1, x2 => none
  | n + 1, S, x0, x1, x2 => f_M_publish_C103 (f_M_publish_L103 n) S x0 x1 x2
def f_M_publish_C27 (k27 : AS → Option Nat → Int32 → Int32 → Option (Int32 × AS)) (S : AS) (x0 : Option Nat) (x1 : Int32) (x2 : Int32) : Option (Int32 × AS) :=
  (gR S 23 10 x0).bind fun v50 =>
  (aI S 40 v50 (8 : Int32)).bind fun v51 =>
  if v51 ≤ x2 then
  f_M_publish_L103 kr_FU S x0 x1 (0 : Int32)
  else
  (some ((96 : Int32) + x2)).bind fun i52 =>
  if x1 = 0 then
  f_M_publish_B93 k27 S x0 x2
  else
  (gR S 23 11 x0).bind fun v53 =>
  (aI S 40 v53 i52).bind fun v54 =>
  if (5 : Int32) ≤ v54 then
  f_M_publish_B89 k27 S x0 x2
  else
  (gR S 23 14 x0).bind fun v55 =>
  (aI S 40 v55 i52).bind fun v56 =>
  (gR S 23 10 x0).bind fun v57 =>
  (aI S 40 v57 (8 : Int32)).bind fun v58 =>
  if v58 ≤ v56 then
  f_M_publish_B93 k27 S x0 x2
  else
  (gR S 23 15 x0).bind fun v59 =>
  (aI S 40 v59 i52).bind fun v60 =>
  (gR S 23 10 x0).bind fun v61 =>
  (aI S 40 v61 (8 : Int32)).bind fun v62 =>
  if v62 ≤ v60 then
  f_M_publish_B93 k27 S x0 x2
  else
  f_M_publish_B89 k27 S x0 x2
def f_M_publish_L27 : Nat → AS → Option Nat → Int32 → Int32 → Option (Int32 × AS)
  | 0, S, x0, x1, x2 => none
  | n + 1, S, x0, x1, x2 => f_M_publish_C27 (f_M_publish_L27 n) S x0 x1 x2
def f_M_publish_B24 (S : AS) (x0 : Option Nat) (y0 : Int32) : Option (Int32 × AS) :=
  f_M_publish_L27 kr_FU S x0 y0 (0 : Int32)
def f_M_publish_B23 (S : AS) (x0 : Option Nat) : Option (Int32 × AS) :=
  f_M_publish_B24 S x0 (0 : Int32)
def f_M_publish (S : AS) (a0 : Option Nat) : Option (Int32 × AS) :=
  (gR S 23 10 a0).bind fun v63 =>
  (aI S 40 v63 (8 : Int32)).bind fun v64 =>
  if v64 ≤ 0 then
  f_M_publish_B23 S a0
  else
  (gI S 23 9 a0).bind fun v65 =>
  if (8 : Int32) ≤ v65 then
  f_M_publish_B23 S a0
  else
  f_M_publish_B24 S a0 (1 : Int32)
set_option maxRecDepth 20000 in
set_option maxHeartbeats 4000000 in
theorem s_M_publish_B94 {k27 : AS → Option Nat → Int32 → Int32 → Option (Int32 × AS)} (hk27 : ∀ {S : AS} {x0 : Option Nat} {x1 : Int32} {x2 : Int32} {r : (Int32 × AS)}, k27 S x0 x1 x2 = some r → kr_AW m_M_publish 2 27 [(0, va_rf x0), (1, .int x1), (2, .int x2)] [] S (kr_eI r)) {S : AS} {x0 : Option Nat} {x2 : Int32} {y0 : Int32} {r : (Int32 × AS)} (h : f_M_publish_B94 k27 S x0 x2 y0 = some r) : kr_AW m_M_publish 2 94 [(0, va_rf x0), (2, .int x2)] [.int y0] S (kr_eI r) := by
  unfold f_M_publish_B94 at h
  refine r_istore_n (i := 1) (lv' := [(1, .int y0), (0, va_rf x0), (2, .int x2)]) (by decide) (by show kr_st _ 1 _ = _; simp [kr_st, kr_rfcat, kr_icat]) d_M_publish_94 ?_
  have h2 := kr_ob h
  clear h
  obtain ⟨i1, ei1, h⟩ := h2
  refine r_iinc (v := i1) (lv' := [(2, .int i1), (1, .int y0), (0, va_rf x0)]) 2 rfl (kr_inc (by decide) ei1) (by decide) rfl d_M_publish_95 ?_
  refine r_goto (tgt := 27) d_M_publish_98 rfl ?_
  exact kr_sub [2, 1, 0] rfl (hk27 h)
set_option maxRecDepth 20000 in
set_option maxHeartbeats 4000000 in
theorem s_M_publish_B89 {k27 : AS → Option Nat → Int32 → Int32 → Option (Int32 × AS)} (hk27 : ∀ {S : AS} {x0 : Option Nat} {x1 : Int32} {x2 : Int32} {r : (Int32 × AS)}, k27 S x0 x1 x2 = some r → kr_AW m_M_publish 2 27 [(0, va_rf x0), (1, .int x1), (2, .int x2)] [] S (kr_eI r)) {S : AS} {x0 : Option Nat} {x2 : Int32} {r : (Int32 × AS)} (h : f_M_publish_B89 k27 S x0 x2 = some r) : kr_AW m_M_publish 2 89 [(0, va_rf x0), (2, .int x2)] [] S (kr_eI r) := by
  unfold f_M_publish_B89 at h
  refine r_iconst (v := (1 : Int32)) (by decide) d_M_publish_89 ?_
  refine r_goto (tgt := 94) d_M_publish_90 rfl ?_
  exact kr_sub [0, 1] rfl (s_M_publish_B94 hk27 h)
set_option maxRecDepth 20000 in
set_option maxHeartbeats 4000000 in
theorem s_M_publish_B93 {k27 : AS → Option Nat → Int32 → Int32 → Option (Int32 × AS)} (hk27 : ∀ {S : AS} {x0 : Option Nat} {x1 : Int32} {x2 : Int32} {r : (Int32 × AS)}, k27 S x0 x1 x2 = some r → kr_AW m_M_publish 2 27 [(0, va_rf x0), (1, .int x1), (2, .int x2)] [] S (kr_eI r)) {S : AS} {x0 : Option Nat} {x2 : Int32} {r : (Int32 × AS)} (h : f_M_publish_B93 k27 S x0 x2 = some r) : kr_AW m_M_publish 2 93 [(0, va_rf x0), (2, .int x2)] [] S (kr_eI r) := by
  unfold f_M_publish_B93 at h
  refine r_iconst (v := (0 : Int32)) (by decide) d_M_publish_93 ?_
  exact kr_sub [0, 1] rfl (s_M_publish_B94 hk27 h)
set_option maxRecDepth 20000 in
set_option maxHeartbeats 4000000 in
theorem s_M_publish_B146 {k103 : AS → Option Nat → Int32 → Int32 → Option (Int32 × AS)} (hk103 : ∀ {S : AS} {x0 : Option Nat} {x1 : Int32} {x2 : Int32} {r : (Int32 × AS)}, k103 S x0 x1 x2 = some r → kr_AW m_M_publish 2 103 [(0, va_rf x0), (1, .int x1), (2, .int x2)] [] S (kr_eI r)) {S : AS} {x0 : Option Nat} {x2 : Int32} {y0 : Int32} {r : (Int32 × AS)} (h : f_M_publish_B146 k103 S x0 x2 y0 = some r) : kr_AW m_M_publish 2 146 [(0, va_rf x0), (2, .int x2)] [.int y0] S (kr_eI r) := by
  unfold f_M_publish_B146 at h
  refine r_istore_n (i := 1) (lv' := [(1, .int y0), (0, va_rf x0), (2, .int x2)]) (by decide) (by show kr_st _ 1 _ = _; simp [kr_st, kr_rfcat, kr_icat]) d_M_publish_146 ?_
  have h2 := kr_ob h
  clear h
  obtain ⟨i2, ei2, h⟩ := h2
  refine r_iinc (v := i2) (lv' := [(2, .int i2), (1, .int y0), (0, va_rf x0)]) 2 rfl (kr_inc (by decide) ei2) (by decide) rfl d_M_publish_147 ?_
  refine r_goto (tgt := 103) d_M_publish_150 rfl ?_
  exact kr_sub [2, 1, 0] rfl (hk103 h)
set_option maxRecDepth 20000 in
set_option maxHeartbeats 4000000 in
theorem s_M_publish_B141 {k103 : AS → Option Nat → Int32 → Int32 → Option (Int32 × AS)} (hk103 : ∀ {S : AS} {x0 : Option Nat} {x1 : Int32} {x2 : Int32} {r : (Int32 × AS)}, k103 S x0 x1 x2 = some r → kr_AW m_M_publish 2 103 [(0, va_rf x0), (1, .int x1), (2, .int x2)] [] S (kr_eI r)) {S : AS} {x0 : Option Nat} {x2 : Int32} {r : (Int32 × AS)} (h : f_M_publish_B141 k103 S x0 x2 = some r) : kr_AW m_M_publish 2 141 [(0, va_rf x0), (2, .int x2)] [] S (kr_eI r) := by
  unfold f_M_publish_B141 at h
  refine r_iconst (v := (1 : Int32)) (by decide) d_M_publish_141 ?_
  refine r_goto (tgt := 146) d_M_publish_142 rfl ?_
  exact kr_sub [0, 1] rfl (s_M_publish_B146 hk103 h)
set_option maxRecDepth 20000 in
set_option maxHeartbeats 4000000 in
theorem s_M_publish_C165 {k165 : AS → Option Nat → Int32 → Option (Int32 × AS)} (hk165 : ∀ {S : AS} {x0 : Option Nat} {x2 : Int32} {r : (Int32 × AS)}, k165 S x0 x2 = some r → kr_AW m_M_publish 2 165 [(0, va_rf x0), (2, .int x2)] [] S (kr_eI r)) {S : AS} {x0 : Option Nat} {x2 : Int32} {r : (Int32 × AS)} (h : f_M_publish_C165 k165 S x0 x2 = some r) : kr_AW m_M_publish 2 165 [(0, va_rf x0), (2, .int x2)] [] S (kr_eI r) := by
  unfold f_M_publish_C165 at h
  refine r_iload_n (i := 2) (x := x2) 1 rfl d_M_publish_165 ?_
  refine r_aload_n (i := 0) (x := x0) 0 rfl d_M_publish_166 ?_
  have h2 := kr_ob h
  clear h
  obtain ⟨v3, ev3, h⟩ := h2
  refine r_getR ev3 fk52 rfl d_M_publish_167 ?_
  refine r_bipush (v := (8 : Int32)) (by decide) d_M_publish_170 ?_
  have h2 := kr_ob h
  clear h
  obtain ⟨v4, ev4, h⟩ := h2
  refine r_iaload ev4 d_M_publish_172 ?_
  refine r_icmp_ge (tgt := 267) d_M_publish_173 rfl (fun c => ?_) (fun c => ?_)
  · replace h := kr_ip c h
    refine r_aload_n (i := 0) (x := x0) 0 rfl d_M_publish_267 ?_
    have h2 := kr_ob h
    clear h
    obtain ⟨v5, ev5, h⟩ := h2
    refine r_getR ev5 fk52 rfl d_M_publish_268 ?_
    refine r_aload_n (i := 0) (x := x0) 0 rfl d_M_publish_271 ?_
    have h2 := kr_ob h
    clear h
    obtain ⟨v6, ev6, h⟩ := h2
    refine r_getI ev6 fk140 rfl d_M_publish_272 ?_
    refine r_aload_n (i := 0) (x := x0) 0 rfl d_M_publish_275 ?_
    have h2 := kr_ob h
    clear h
    obtain ⟨v7, ev7, h⟩ := h2
    refine r_getR ev7 fk52 rfl d_M_publish_276 ?_
    refine r_bipush (v := (8 : Int32)) (by decide) d_M_publish_279 ?_
    have h2 := kr_ob h
    clear h
    obtain ⟨v8, ev8, h⟩ := h2
    refine r_iaload ev8 d_M_publish_281 ?_
    have h2 := kr_ob h
    clear h
    obtain ⟨S9, eS9, h⟩ := h2
    refine r_iastore eS9 d_M_publish_282 ?_
    refine r_aload_n (i := 0) (x := x0) 0 rfl d_M_publish_283 ?_
    have h2 := kr_ob h
    clear h
    obtain ⟨v10, ev10, h⟩ := h2
    refine r_getR ev10 fk52 rfl d_M_publish_284 ?_
    refine r_bipush (v := (8 : Int32)) (by decide) d_M_publish_287 ?_
    refine r_iconst (v := (0 : Int32)) (by decide) d_M_publish_289 ?_
    have h2 := kr_ob h
    clear h
    obtain ⟨S11, eS11, h⟩ := h2
    refine r_iastore eS11 d_M_publish_290 ?_
    refine r_aload_n (i := 0) (x := x0) 0 rfl d_M_publish_291 ?_
    refine r_dup (kr_rfcat _) d_M_publish_292 ?_
    have h2 := kr_ob h
    clear h
    obtain ⟨v12, ev12, h⟩ := h2
    refine r_getI ev12 fk140 rfl d_M_publish_293 ?_
    refine r_iconst (v := (1 : Int32)) (by decide) d_M_publish_296 ?_
    refine r_iadd d_M_publish_297 ?_
    have h2 := kr_ob h
    clear h
    obtain ⟨S13, eS13, h⟩ := h2
    refine r_putI eS13 fk140 (Or.inl rfl) rfl d_M_publish_298 ?_
    refine r_aload_n (i := 0) (x := x0) 0 rfl d_M_publish_301 ?_
    have h2 := kr_ob h
    clear h
    obtain ⟨v14, ev14, h⟩ := h2
    refine r_getI ev14 fk140 rfl d_M_publish_302 ?_
    refine r_iconst (v := (1 : Int32)) (by decide) d_M_publish_305 ?_
    refine r_isub d_M_publish_306 ?_
    cases h
    exact r_iret rfl d_M_publish_307
  · replace h := kr_in_ c h
    refine r_bipush (v := (12 : Int32)) (by decide) d_M_publish_176 ?_
    refine r_aload_n (i := 0) (x := x0) 0 rfl d_M_publish_178 ?_
    have h2 := kr_ob h
    clear h
    obtain ⟨v15, ev15, h⟩ := h2
    refine r_getI ev15 fk140 rfl d_M_publish_179 ?_
    refine r_imul d_M_publish_182 ?_
    refine r_iload_n (i := 2) (x := x2) 1 rfl d_M_publish_183 ?_
    refine r_iadd d_M_publish_184 ?_
    have h2 := kr_ob h
    clear h
    obtain ⟨i16, ei16, h⟩ := h2
    refine kr_nmI ei16 ?_
    refine r_istore_n (i := 3) (lv' := [(3, .int i16), (0, va_rf x0), (2, .int x2)]) (by decide) rfl d_M_publish_185 ?_
    refine r_aload_n (i := 0) (x := x0) 1 rfl d_M_publish_186 ?_
    have h2 := kr_ob h
    clear h
    obtain ⟨v17, ev17, h⟩ := h2
    refine r_getR ev17 fk53 rfl d_M_publish_187 ?_
    refine r_iload_n (i := 3) (x := i16) 0 rfl d_M_publish_190 ?_
    refine r_aload_n (i := 0) (x := x0) 1 rfl d_M_publish_191 ?_
    have h2 := kr_ob h
    clear h
    obtain ⟨v18, ev18, h⟩ := h2
    refine r_getR ev18 fk53 rfl d_M_publish_192 ?_
    refine r_bipush (v := (96 : Int32)) (by decide) d_M_publish_195 ?_
    refine r_iload_n (i := 2) (x := x2) 2 rfl d_M_publish_197 ?_
    refine r_iadd d_M_publish_198 ?_
    have h2 := kr_ob h
    clear h
    obtain ⟨v19, ev19, h⟩ := h2
    refine r_iaload ev19 d_M_publish_199 ?_
    have h2 := kr_ob h
    clear h
    obtain ⟨S20, eS20, h⟩ := h2
    refine r_iastore eS20 d_M_publish_200 ?_
    refine r_aload_n (i := 0) (x := x0) 1 rfl d_M_publish_201 ?_
    have h2 := kr_ob h
    clear h
    obtain ⟨v21, ev21, h⟩ := h2
    refine r_getR ev21 fk54 rfl d_M_publish_202 ?_
    refine r_iload_n (i := 3) (x := i16) 0 rfl d_M_publish_205 ?_
    refine r_aload_n (i := 0) (x := x0) 1 rfl d_M_publish_206 ?_
    have h2 := kr_ob h
    clear h
    obtain ⟨v22, ev22, h⟩ := h2
    refine r_getR ev22 fk54 rfl d_M_publish_207 ?_
    refine r_bipush (v := (96 : Int32)) (by decide) d_M_publish_210 ?_
    refine r_iload_n (i := 2) (x := x2) 2 rfl d_M_publish_212 ?_
    refine r_iadd d_M_publish_213 ?_
    have h2 := kr_ob h
    clear h
    obtain ⟨v23, ev23, h⟩ := h2
    refine r_iaload ev23 d_M_publish_214 ?_
    have h2 := kr_ob h
    clear h
    obtain ⟨S24, eS24, h⟩ := h2
    refine r_iastore eS24 d_M_publish_215 ?_
    refine r_aload_n (i := 0) (x := x0) 1 rfl d_M_publish_216 ?_
    have h2 := kr_ob h
    clear h
    obtain ⟨v25, ev25, h⟩ := h2
    refine r_getR ev25 fk55 rfl d_M_publish_217 ?_
    refine r_iload_n (i := 3) (x := i16) 0 rfl d_M_publish_220 ?_
    refine r_aload_n (i := 0) (x := x0) 1 rfl d_M_publish_221 ?_
    have h2 := kr_ob h
    clear h
    obtain ⟨v26, ev26, h⟩ := h2
    refine r_getR ev26 fk55 rfl d_M_publish_222 ?_
    refine r_bipush (v := (96 : Int32)) (by decide) d_M_publish_225 ?_
    refine r_iload_n (i := 2) (x := x2) 2 rfl d_M_publish_227 ?_
    refine r_iadd d_M_publish_228 ?_
    have h2 := kr_ob h
    clear h
    obtain ⟨v27, ev27, h⟩ := h2
    refine r_iaload ev27 d_M_publish_229 ?_
    have h2 := kr_ob h
    clear h
    obtain ⟨S28, eS28, h⟩ := h2
    refine r_iastore eS28 d_M_publish_230 ?_
    refine r_aload_n (i := 0) (x := x0) 1 rfl d_M_publish_231 ?_
    have h2 := kr_ob h
    clear h
    obtain ⟨v29, ev29, h⟩ := h2
    refine r_getR ev29 fk56 rfl d_M_publish_232 ?_
    refine r_iload_n (i := 3) (x := i16) 0 rfl d_M_publish_235 ?_
    refine r_aload_n (i := 0) (x := x0) 1 rfl d_M_publish_236 ?_
    have h2 := kr_ob h
    clear h
    obtain ⟨v30, ev30, h⟩ := h2
    refine r_getR ev30 fk56 rfl d_M_publish_237 ?_
    refine r_bipush (v := (96 : Int32)) (by decide) d_M_publish_240 ?_
    refine r_iload_n (i := 2) (x := x2) 2 rfl d_M_publish_242 ?_
    refine r_iadd d_M_publish_243 ?_
    have h2 := kr_ob h
    clear h
    obtain ⟨v31, ev31, h⟩ := h2
    refine r_iaload ev31 d_M_publish_244 ?_
    have h2 := kr_ob h
    clear h
    obtain ⟨S32, eS32, h⟩ := h2
    refine r_iastore eS32 d_M_publish_245 ?_
    refine r_aload_n (i := 0) (x := x0) 1 rfl d_M_publish_246 ?_
    have h2 := kr_ob h
    clear h
    obtain ⟨v33, ev33, h⟩ := h2
    refine r_getR ev33 fk57 rfl d_M_publish_247 ?_
    refine r_iload_n (i := 3) (x := i16) 0 rfl d_M_publish_250 ?_
    refine r_aload_n (i := 0) (x := x0) 1 rfl d_M_publish_251 ?_
    have h2 := kr_ob h
    clear h
    obtain ⟨v34, ev34, h⟩ := h2
    refine r_getR ev34 fk57 rfl d_M_publish_252 ?_
    refine r_bipush (v := (96 : Int32)) (by decide) d_M_publish_255 ?_
    refine r_iload_n (i := 2) (x := x2) 2 rfl d_M_publish_257 ?_
    refine r_iadd d_M_publish_258 ?_
    have h2 := kr_ob h
    clear h
    obtain ⟨v35, ev35, h⟩ := h2
    refine r_iaload ev35 d_M_publish_259 ?_
    have h2 := kr_ob h
    clear h
    obtain ⟨S36, eS36, h⟩ := h2
    refine r_iastore eS36 d_M_publish_260 ?_
    have h2 := kr_ob h
    clear h
    obtain ⟨i37, ei37, h⟩ := h2
    refine r_iinc (v := i37) (lv' := [(2, .int i37), (3, .int i16), (0, va_rf x0)]) 2 rfl (kr_inc (by decide) ei37) (by decide) rfl d_M_publish_261 ?_
    refine r_goto (tgt := 165) d_M_publish_264 rfl ?_
    exact kr_sub [2, 0] rfl (hk165 h)
theorem s_M_publish_L165 (n : Nat) : ∀ {S : AS} {x0 : Option Nat} {x2 : Int32} {r : (Int32 × AS)}, f_M_publish_L165 n S x0 x2 = some r → kr_AW m_M_publish 2 165 [(0, va_rf x0), (2, .int x2)] [] S (kr_eI r) := by
  induction n with
  | zero => intro S x0 x2 r h; cases h
  | succ n ih => intro S x0 x2 r h; exact s_M_publish_C165 (fun {_} {_} {_} {_} h => ih h) h
set_option maxRecDepth 20000 in
set_option maxHeartbeats 4000000 in
theorem s_M_publish_B153 {S : AS} {x0 : Option Nat} {x1 : Int32} {r : (Int32 × AS)} (h : f_M_publish_B153 S x0 x1 = some r) : kr_AW m_M_publish 2 153 [(0, va_rf x0), (1, .int x1)] [] S (kr_eI r) := by
  unfold f_M_publish_B153 at h
  refine r_aload_n (i := 0) (x := x0) 0 rfl d_M_publish_153 ?_
  refine r_iload_n (i := 1) (x := x1) 1 rfl d_M_publish_154 ?_
  have h2 := kr_ob h
  clear h
  obtain ⟨⟨⟩, eu38, h⟩ := h2
  have h2 := kr_ob2 h
  clear h
  obtain ⟨v40, S39, eS39, h⟩ := h2
  refine r_callV (M1 := m_M_may) (κ := 23) (As := [.int x1]) eu38 (s_M_may eS39) mok_M_may rfl (by decide) rfl w1703 w1705 w42 (by decide) (kr_c8 kr_c0) d_M_publish_155 (kr_k1 ?_) kr_kn
  refine r_if_ne (tgt := 163) d_M_publish_158 rfl (fun c => ?_) (fun c => ?_)
  · replace h := kr_ip c h
    refine r_iconst (v := (0 : Int32)) (by decide) d_M_publish_161 ?_
    cases h
    exact r_iret rfl d_M_publish_162
  · replace h := kr_in_ c h
    refine r_iconst (v := (0 : Int32)) (by decide) d_M_publish_163 ?_
    refine r_istore_n (i := 2) (lv' := [(2, .int (0 : Int32)), (0, va_rf x0), (1, .int x1)]) (by decide) rfl d_M_publish_164 ?_
    exact kr_sub [1, 0] rfl (s_M_publish_L165 kr_FU h)
set_option maxRecDepth 20000 in
set_option maxHeartbeats 4000000 in
theorem s_M_publish_C103 {k103 : AS → Option Nat → Int32 → Int32 → Option (Int32 × AS)} (hk103 : ∀ {S : AS} {x0 : Option Nat} {x1 : Int32} {x2 : Int32} {r : (Int32 × AS)}, k103 S x0 x1 x2 = some r → kr_AW m_M_publish 2 103 [(0, va_rf x0), (1, .int x1), (2, .int x2)] [] S (kr_eI r)) {S : AS} {x0 : Option Nat} {x1 : Int32} {x2 : Int32} {r : (Int32 × AS)} (h : f_M_publish_C103 k103 S x0 x1 x2 = some r) : kr_AW m_M_publish 2 103 [(0, va_rf x0), (1, .int x1), (2, .int x2)] [] S (kr_eI r) := by
  unfold f_M_publish_C103 at h
  refine r_iload_n (i := 2) (x := x2) 2 rfl d_M_publish_103 ?_
  refine r_aload_n (i := 0) (x := x0) 0 rfl d_M_publish_104 ?_
  have h2 := kr_ob h
  clear h
  obtain ⟨v41, ev41, h⟩ := h2
  refine r_getR ev41 fk52 rfl d_M_publish_105 ?_
  refine r_bipush (v := (8 : Int32)) (by decide) d_M_publish_108 ?_
  have h2 := kr_ob h
  clear h
  obtain ⟨v42, ev42, h⟩ := h2
  refine r_iaload ev42 d_M_publish_110 ?_
  refine r_icmp_ge (tgt := 153) d_M_publish_111 rfl (fun c => ?_) (fun c => ?_)
  · replace h := kr_ip c h
    exact kr_sub [0, 1] rfl (s_M_publish_B153 h)
  · replace h := kr_in_ c h
    refine r_iload_n (i := 1) (x := x1) 1 rfl d_M_publish_114 ?_
    refine r_if_eq (tgt := 153) d_M_publish_115 rfl (fun c => ?_) (fun c => ?_)
    · replace h := kr_ip c h
      exact kr_sub [0, 1] rfl (s_M_publish_B153 h)
    · replace h := kr_in_ c h
      refine r_aload_n (i := 0) (x := x0) 0 rfl d_M_publish_118 ?_
      have h2 := kr_ob h
      clear h
      obtain ⟨v43, ev43, h⟩ := h2
      refine r_getR ev43 fk53 rfl d_M_publish_119 ?_
      refine r_bipush (v := (96 : Int32)) (by decide) d_M_publish_122 ?_
      refine r_iload_n (i := 2) (x := x2) 2 rfl d_M_publish_124 ?_
      refine r_iadd d_M_publish_125 ?_
      have h2 := kr_ob h
      clear h
      obtain ⟨v44, ev44, h⟩ := h2
      refine r_iaload ev44 d_M_publish_126 ?_
      have h2 := kr_ob2 h
      clear h
      obtain ⟨v46, S45, eS45, h⟩ := h2
      refine r_callS (M1 := m_M_isTest) (As := [.int v44]) (s_M_isTest eS45) mok_M_isTest rfl w1777 w1778 (by decide) (kr_c8 kr_c0) d_M_publish_127 (kr_k1 ?_) kr_kn
      refine r_if_eq (tgt := 141) d_M_publish_130 rfl (fun c => ?_) (fun c => ?_)
      · replace h := kr_ip c h
        exact kr_sub [0, 2] rfl (s_M_publish_B141 hk103 h)
      · replace h := kr_in_ c h
        refine r_aload_n (i := 0) (x := x0) 0 rfl d_M_publish_133 ?_
        refine r_iload_n (i := 2) (x := x2) 2 rfl d_M_publish_134 ?_
        have h2 := kr_ob h
        clear h
        obtain ⟨⟨⟩, eu47, h⟩ := h2
        have h2 := kr_ob2 h
        clear h
        obtain ⟨v49, S48, eS48, h⟩ := h2
        refine r_callV (M1 := m_M_circles) (κ := 23) (As := [.int x2]) eu47 (s_M_circles eS48) mok_M_circles rfl (by decide) rfl w1780 w1782 w50 (by decide) (kr_c8 kr_c0) d_M_publish_135 (kr_k1 ?_) kr_kn
        refine r_if_ne (tgt := 145) d_M_publish_138 rfl (fun c => ?_) (fun c => ?_)
        · replace h := kr_ip c h
          exact kr_sub [0, 2] rfl (s_M_publish_B141 hk103 h)
        · replace h := kr_in_ c h
          refine r_iconst (v := (0 : Int32)) (by decide) d_M_publish_145 ?_
          exact kr_sub [0, 2] rfl (s_M_publish_B146 hk103 h)
theorem s_M_publish_L103 (n : Nat) : ∀ {S : AS} {x0 : Option Nat} {x1 : Int32} {x2 : Int32} {r : (Int32 × AS)}, f_M_publish_L103 n S x0 x1 x2 = some r → kr_AW m_M_publish 2 103 [(0, va_rf x0), (1, .int x1), (2, .int x2)] [] S (kr_eI r) := by
  induction n with
  | zero => intro S x0 x1 x2 r h; cases h
  | succ n ih => intro S x0 x1 x2 r h; exact s_M_publish_C103 (fun {_} {_} {_} {_} {_} h => ih h) h
set_option maxRecDepth 20000 in
set_option maxHeartbeats 4000000 in
theorem s_M_publish_C27 {k27 : AS → Option Nat → Int32 → Int32 → Option (Int32 × AS)} (hk27 : ∀ {S : AS} {x0 : Option Nat} {x1 : Int32} {x2 : Int32} {r : (Int32 × AS)}, k27 S x0 x1 x2 = some r → kr_AW m_M_publish 2 27 [(0, va_rf x0), (1, .int x1), (2, .int x2)] [] S (kr_eI r)) {S : AS} {x0 : Option Nat} {x1 : Int32} {x2 : Int32} {r : (Int32 × AS)} (h : f_M_publish_C27 k27 S x0 x1 x2 = some r) : kr_AW m_M_publish 2 27 [(0, va_rf x0), (1, .int x1), (2, .int x2)] [] S (kr_eI r) := by
  unfold f_M_publish_C27 at h
  refine r_iload_n (i := 2) (x := x2) 2 rfl d_M_publish_27 ?_
  refine r_aload_n (i := 0) (x := x0) 0 rfl d_M_publish_28 ?_
  have h2 := kr_ob h
  clear h
  obtain ⟨v50, ev50, h⟩ := h2
  refine r_getR ev50 fk52 rfl d_M_publish_29 ?_
  refine r_bipush (v := (8 : Int32)) (by decide) d_M_publish_32 ?_
  have h2 := kr_ob h
  clear h
  obtain ⟨v51, ev51, h⟩ := h2
  refine r_iaload ev51 d_M_publish_34 ?_
  refine r_icmp_ge (tgt := 101) d_M_publish_35 rfl (fun c => ?_) (fun c => ?_)
  · replace h := kr_ip c h
    refine r_iconst (v := (0 : Int32)) (by decide) d_M_publish_101 ?_
    refine r_istore_n (i := 2) (lv' := [(2, .int (0 : Int32)), (0, va_rf x0), (1, .int x1)]) (by decide) rfl d_M_publish_102 ?_
    exact kr_sub [1, 2, 0] rfl (s_M_publish_L103 kr_FU h)
  · replace h := kr_in_ c h
    refine r_bipush (v := (96 : Int32)) (by decide) d_M_publish_38 ?_
    refine r_iload_n (i := 2) (x := x2) 2 rfl d_M_publish_40 ?_
    refine r_iadd d_M_publish_41 ?_
    have h2 := kr_ob h
    clear h
    obtain ⟨i52, ei52, h⟩ := h2
    refine kr_nmI ei52 ?_
    refine r_istore_n (i := 3) (lv' := [(3, .int i52), (0, va_rf x0), (1, .int x1), (2, .int x2)]) (by decide) rfl d_M_publish_42 ?_
    refine r_iload_n (i := 1) (x := x1) 2 rfl d_M_publish_43 ?_
    refine r_if_eq (tgt := 93) d_M_publish_44 rfl (fun c => ?_) (fun c => ?_)
    · replace h := kr_ip c h
      exact kr_sub [1, 3] rfl (s_M_publish_B93 hk27 h)
    · replace h := kr_in_ c h
      refine r_aload_n (i := 0) (x := x0) 1 rfl d_M_publish_47 ?_
      have h2 := kr_ob h
      clear h
      obtain ⟨v53, ev53, h⟩ := h2
      refine r_getR ev53 fk53 rfl d_M_publish_48 ?_
      refine r_iload_n (i := 3) (x := i52) 0 rfl d_M_publish_51 ?_
      have h2 := kr_ob h
      clear h
      obtain ⟨v54, ev54, h⟩ := h2
      refine r_iaload ev54 d_M_publish_52 ?_
      refine r_iconst (v := (5 : Int32)) (by decide) d_M_publish_53 ?_
      refine r_icmp_ge (tgt := 89) d_M_publish_54 rfl (fun c => ?_) (fun c => ?_)
      · replace h := kr_ip c h
        exact kr_sub [1, 3] rfl (s_M_publish_B89 hk27 h)
      · replace h := kr_in_ c h
        refine r_aload_n (i := 0) (x := x0) 1 rfl d_M_publish_57 ?_
        have h2 := kr_ob h
        clear h
        obtain ⟨v55, ev55, h⟩ := h2
        refine r_getR ev55 fk56 rfl d_M_publish_58 ?_
        refine r_iload_n (i := 3) (x := i52) 0 rfl d_M_publish_61 ?_
        have h2 := kr_ob h
        clear h
        obtain ⟨v56, ev56, h⟩ := h2
        refine r_iaload ev56 d_M_publish_62 ?_
        refine r_aload_n (i := 0) (x := x0) 1 rfl d_M_publish_63 ?_
        have h2 := kr_ob h
        clear h
        obtain ⟨v57, ev57, h⟩ := h2
        refine r_getR ev57 fk52 rfl d_M_publish_64 ?_
        refine r_bipush (v := (8 : Int32)) (by decide) d_M_publish_67 ?_
        have h2 := kr_ob h
        clear h
        obtain ⟨v58, ev58, h⟩ := h2
        refine r_iaload ev58 d_M_publish_69 ?_
        refine r_icmp_ge (tgt := 93) d_M_publish_70 rfl (fun c => ?_) (fun c => ?_)
        · replace h := kr_ip c h
          exact kr_sub [1, 3] rfl (s_M_publish_B93 hk27 h)
        · replace h := kr_in_ c h
          refine r_aload_n (i := 0) (x := x0) 1 rfl d_M_publish_73 ?_
          have h2 := kr_ob h
          clear h
          obtain ⟨v59, ev59, h⟩ := h2
          refine r_getR ev59 fk57 rfl d_M_publish_74 ?_
          refine r_iload_n (i := 3) (x := i52) 0 rfl d_M_publish_77 ?_
          have h2 := kr_ob h
          clear h
          obtain ⟨v60, ev60, h⟩ := h2
          refine r_iaload ev60 d_M_publish_78 ?_
          refine r_aload_n (i := 0) (x := x0) 1 rfl d_M_publish_79 ?_
          have h2 := kr_ob h
          clear h
          obtain ⟨v61, ev61, h⟩ := h2
          refine r_getR ev61 fk52 rfl d_M_publish_80 ?_
          refine r_bipush (v := (8 : Int32)) (by decide) d_M_publish_83 ?_
          have h2 := kr_ob h
          clear h
          obtain ⟨v62, ev62, h⟩ := h2
          refine r_iaload ev62 d_M_publish_85 ?_
          refine r_icmp_ge (tgt := 93) d_M_publish_86 rfl (fun c => ?_) (fun c => ?_)
          · replace h := kr_ip c h
            exact kr_sub [1, 3] rfl (s_M_publish_B93 hk27 h)
          · replace h := kr_in_ c h
            exact kr_sub [1, 3] rfl (s_M_publish_B89 hk27 h)
theorem s_M_publish_L27 (n : Nat) : ∀ {S : AS} {x0 : Option Nat} {x1 : Int32} {x2 : Int32} {r : (Int32 × AS)}, f_M_publish_L27 n S x0 x1 x2 = some r → kr_AW m_M_publish 2 27 [(0, va_rf x0), (1, .int x1), (2, .int x2)] [] S (kr_eI r) := by
  induction n with
  | zero => intro S x0 x1 x2 r h; cases h
  | succ n ih => intro S x0 x1 x2 r h; exact s_M_publish_C27 (fun {_} {_} {_} {_} {_} h => ih h) h
set_option maxRecDepth 20000 in
set_option maxHeartbeats 4000000 in
theorem s_M_publish_B24 {S : AS} {x0 : Option Nat} {y0 : Int32} {r : (Int32 × AS)} (h : f_M_publish_B24 S x0 y0 = some r) : kr_AW m_M_publish 2 24 [(0, va_rf x0)] [.int y0] S (kr_eI r) := by
  unfold f_M_publish_B24 at h
  refine r_istore_n (i := 1) (lv' := [(1, .int y0), (0, va_rf x0)]) (by decide) (by show kr_st _ 1 _ = _; simp [kr_st, kr_rfcat, kr_icat]) d_M_publish_24 ?_
  refine r_iconst (v := (0 : Int32)) (by decide) d_M_publish_25 ?_
  refine r_istore_n (i := 2) (lv' := [(2, .int (0 : Int32)), (1, .int y0), (0, va_rf x0)]) (by decide) rfl d_M_publish_26 ?_
  exact kr_sub [2, 1, 0] rfl (s_M_publish_L27 kr_FU h)
set_option maxRecDepth 20000 in
set_option maxHeartbeats 4000000 in
theorem s_M_publish_B23 {S : AS} {x0 : Option Nat} {r : (Int32 × AS)} (h : f_M_publish_B23 S x0 = some r) : kr_AW m_M_publish 2 23 [(0, va_rf x0)] [] S (kr_eI r) := by
  unfold f_M_publish_B23 at h
  refine r_iconst (v := (0 : Int32)) (by decide) d_M_publish_23 ?_
  exact kr_sub [0] rfl (s_M_publish_B24 h)
set_option maxRecDepth 20000 in
set_option maxHeartbeats 4000000 in
theorem s_M_publish {S : AS} {a0 : Option Nat} {r : (Int32 × AS)} (h : f_M_publish S a0 = some r) : kr_Con m_M_publish 2 [va_rf a0] S (kr_eI r) := by
  refine kr_con rfl rfl (by decide +kernel) (by simp [lg_sl, kr_rfcat, kr_icat, m_M_publish, mL]) ?_
  rw [show lv_args 0 [va_rf a0] = [(0, va_rf a0)] from by simp [lv_args, kr_rfcat, kr_icat]]
  unfold f_M_publish at h
  refine r_aload_n (i := 0) (x := a0) 0 rfl d_M_publish_0 ?_
  have h2 := kr_ob h
  clear h
  obtain ⟨v63, ev63, h⟩ := h2
  refine r_getR ev63 fk52 rfl d_M_publish_1 ?_
  refine r_bipush (v := (8 : Int32)) (by decide) d_M_publish_4 ?_
  have h2 := kr_ob h
  clear h
  obtain ⟨v64, ev64, h⟩ := h2
  refine r_iaload ev64 d_M_publish_6 ?_
  refine r_if_le (tgt := 23) d_M_publish_7 rfl (fun c => ?_) (fun c => ?_)
  · replace h := kr_ip c h
    exact kr_sub [0] rfl (s_M_publish_B23 h)
  · replace h := kr_in_ c h
    refine r_aload_n (i := 0) (x := a0) 0 rfl d_M_publish_10 ?_
    have h2 := kr_ob h
    clear h
    obtain ⟨v65, ev65, h⟩ := h2
    refine r_getI ev65 fk140 rfl d_M_publish_11 ?_
    refine r_bipush (v := (8 : Int32)) (by decide) d_M_publish_14 ?_
    refine r_icmp_ge (tgt := 23) d_M_publish_16 rfl (fun c => ?_) (fun c => ?_)
    · replace h := kr_ip c h
      exact kr_sub [0] rfl (s_M_publish_B23 h)
    · replace h := kr_in_ c h
      refine r_iconst (v := (1 : Int32)) (by decide) d_M_publish_19 ?_
      refine r_goto (tgt := 24) d_M_publish_20 rfl ?_
      exact kr_sub [0] rfl (s_M_publish_B24 h)
/-! KeyringCourtModel.levelOf(I)I -/
def f_M_levelOf (S : AS) (a0 : Int32) : Option (Int32 × AS) :=
  some (((a0 &&& (1 : Int32)) + (a0 &&& (2 : Int32))) + ((3 : Int32) * ((a0 >>> ((2 : Int32) &&& 31)) &&& (1 : Int32))), S)
set_option maxRecDepth 20000 in
set_option maxHeartbeats 4000000 in
theorem s_M_levelOf {S : AS} {a0 : Int32} {r : (Int32 × AS)} (h : f_M_levelOf S a0 = some r) : kr_Con m_M_levelOf 0 [.int a0] S (kr_eI r) := by
  refine kr_con rfl rfl (by decide +kernel) (by simp [lg_sl, kr_rfcat, kr_icat, m_M_levelOf, mL]) ?_
  rw [show lv_args 0 [.int a0] = [(0, .int a0)] from by simp [lv_args, kr_rfcat, kr_icat]]
  unfold f_M_levelOf at h
  refine r_iload_n (i := 0) (x := a0) 0 rfl d_M_levelOf_0 ?_
  refine r_iconst (v := (1 : Int32)) (by decide) d_M_levelOf_1 ?_
  refine r_iand d_M_levelOf_2 ?_
  refine r_iload_n (i := 0) (x := a0) 0 rfl d_M_levelOf_3 ?_
  refine r_iconst (v := (2 : Int32)) (by decide) d_M_levelOf_4 ?_
  refine r_iand d_M_levelOf_5 ?_
  refine r_iadd d_M_levelOf_6 ?_
  refine r_iconst (v := (3 : Int32)) (by decide) d_M_levelOf_7 ?_
  refine r_iload_n (i := 0) (x := a0) 0 rfl d_M_levelOf_8 ?_
  refine r_iconst (v := (2 : Int32)) (by decide) d_M_levelOf_9 ?_
  refine r_ishr d_M_levelOf_10 ?_
  refine r_iconst (v := (1 : Int32)) (by decide) d_M_levelOf_11 ?_
  refine r_iand d_M_levelOf_12 ?_
  refine r_imul d_M_levelOf_13 ?_
  refine r_iadd d_M_levelOf_14 ?_
  cases h
  exact r_iret rfl d_M_levelOf_15
/-! KeyringCourtModel.meet(II)V -/
def f_M_meet (S : AS) (a0 : Option Nat) (a1 : Int32) (a2 : Int32) : Option AS :=
  if a1 < 0 then
  some S
  else
  (gR S 23 16 a0).bind fun v1 =>
  (bZ S v1 (((8 : Int32) * a1) + a2) (1 : Int32)).bind fun S2 =>
  some S2
set_option maxRecDepth 20000 in
set_option maxHeartbeats 4000000 in
theorem s_M_meet {S : AS} {a0 : Option Nat} {a1 : Int32} {a2 : Int32} {r : AS} (h : f_M_meet S a0 a1 a2 = some r) : kr_Con m_M_meet 0 [va_rf a0, .int a1, .int a2] S (kr_eV r) := by
  refine kr_con rfl rfl (by decide +kernel) (by simp [lg_sl, kr_rfcat, kr_icat, m_M_meet, mL]) ?_
  rw [show lv_args 0 [va_rf a0, .int a1, .int a2] = [(0, va_rf a0), (1, .int a1), (2, .int a2)] from by simp [lv_args, kr_rfcat, kr_icat]]
  unfold f_M_meet at h
  refine r_iload_n (i := 1) (x := a1) 1 rfl d_M_meet_0 ?_
  refine r_if_lt (tgt := 16) d_M_meet_1 rfl (fun c => ?_) (fun c => ?_)
  · replace h := kr_ip c h
    cases h
    exact r_vret rfl d_M_meet_16
  · replace h := kr_in_ c h
    refine r_aload_n (i := 0) (x := a0) 0 rfl d_M_meet_4 ?_
    have h2 := kr_ob h
    clear h
    obtain ⟨v1, ev1, h⟩ := h2
    refine r_getR ev1 fk58 rfl d_M_meet_5 ?_
    refine r_bipush (v := (8 : Int32)) (by decide) d_M_meet_8 ?_
    refine r_iload_n (i := 1) (x := a1) 1 rfl d_M_meet_10 ?_
    refine r_imul d_M_meet_11 ?_
    refine r_iload_n (i := 2) (x := a2) 2 rfl d_M_meet_12 ?_
    refine r_iadd d_M_meet_13 ?_
    refine r_iconst (v := (1 : Int32)) (by decide) d_M_meet_14 ?_
    have h2 := kr_ob h
    clear h
    obtain ⟨S2, eS2, h⟩ := h2
    refine r_bastore eS2 d_M_meet_15 ?_
    cases h
    exact r_vret rfl d_M_meet_16
/-! KeyringCourtModel.weakest(I)I -/
def f_M_weakest_B212 (k50 : AS → Option Nat → Int32 → Int32 → Option (Int32 × AS)) (k58 : AS → Option Nat → Int32 → Int32 → Int32 → Option (Int32 × AS)) (S : AS) (x0 : Option Nat) (x1 : Int32) (x2 : Int32) (x3 : Int32) : Option (Int32 × AS) :=
  (some (x3 + (1 : Int32))).bind fun i1 =>
  k58 S x0 x1 x2 i1
def f_M_weakest_B199 (k50 : AS → Option Nat → Int32 → Int32 → Option (Int32 × AS)) (k58 : AS → Option Nat → Int32 → Int32 → Int32 → Option (Int32 × AS)) (S : AS) (x0 : Option Nat) (x1 : Int32) (x2 : Int32) (x3 : Int32) (x4 : Int32) (x5 : Int32) : Option (Int32 × AS) :=
  (gR S 23 15 x0).bind fun v2 =>
  (aI S 40 v2 x4).bind fun v3 =>
  (kr_rv S 23 x0).bind fun u4 =>
  (f_M_meet S x0 v3 x5).bind fun S5 =>
  f_M_weakest_B212 k50 k58 S5 x0 x1 x2 x3
def f_M_weakest_B189 (k50 : AS → Option Nat → Int32 → Int32 → Option (Int32 × AS)) (k58 : AS → Option Nat → Int32 → Int32 → Int32 → Option (Int32 × AS)) (S : AS) (x0 : Option Nat) (x1 : Int32) (x2 : Int32) (x3 : Int32) (x4 : Int32) (x5 : Int32) (x6 : Int32) (x7 : Int32) : Option (Int32 × AS) :=
  if x6 = 0 then
  f_M_weakest_B199 k50 k58 S x0 x1 x2 x3 x4 x5
  else
  if x7 = 0 then
  f_M_weakest_B199 k50 k58 S x0 x1 x2 x3 x4 x5
  else
  f_M_weakest_B212 k50 k58 S x0 x1 x2 x3
def f_M_weakest_B186 (k50 : AS → Option Nat → Int32 → Int32 → Option (Int32 × AS)) (k58 : AS → Option Nat → Int32 → Int32 → Int32 → Option (Int32 × AS)) (S : AS) (x0 : Option Nat) (x1 : Int32) (x2 : Int32) (x3 : Int32) (x4 : Int32) (x5 : Int32) (x6 : Int32) (x7 : Int32) (y0 : Option Nat) (y1 : Int32) (y2 : Int32) : Option (Int32 × AS) :=
  (kr_rv S 23 y0).bind fun u6 =>
  (f_M_meet S y0 y1 y2).bind fun S7 =>
  f_M_weakest_B189 k50 k58 S7 x0 x1 x2 x3 x4 x5 x6 x7
def f_M_weakest_B151 (k50 : AS → Option Nat → Int32 → Int32 → Option (Int32 × AS)) (k58 : AS → Option Nat → Int32 → Int32 → Int32 → Option (Int32 × AS)) (S : AS) (x0 : Option Nat) (x1 : Int32) (x2 : Int32) (x3 : Int32) (x4 : Int32) (x5 : Int32) (x6 : Int32) (x7 : Int32) : Option (Int32 × AS) :=
  (gR S 23 14 x0).bind fun v8 =>
  (aI S 40 v8 x4).bind fun v9 =>
  (gR S 23 11 x0).bind fun v10 =>
  (aI S 40 v10 x4).bind fun v11 =>
  if v11 = 0 then
  (gR S 23 12 x0).bind fun v12 =>
  (aI S 40 v12 x4).bind fun v13 =>
  f_M_weakest_B186 k50 k58 S x0 x1 x2 x3 x4 x5 x6 x7 x0 v9 (x5 ||| ((1 : Int32) <<< (v13 &&& 31)))
  else
  f_M_weakest_B186 k50 k58 S x0 x1 x2 x3 x4 x5 x6 x7 x0 v9 x5
def f_M_weakest_B139 (k50 : AS → Option Nat → Int32 → Int32 → Option (Int32 × AS)) (k58 : AS → Option Nat → Int32 → Int32 → Int32 → Option (Int32 × AS)) (S : AS) (x0 : Option Nat) (x1 : Int32) (x2 : Int32) (x3 : Int32) (x4 : Int32) (x5 : Int32) (x6 : Int32) (y0 : Int32) : Option (Int32 × AS) :=
  if x6 = 0 then
  f_M_weakest_B151 k50 k58 S x0 x1 x2 x3 x4 x5 x6 y0
  else
  if y0 = 0 then
  f_M_weakest_B189 k50 k58 S x0 x1 x2 x3 x4 x5 x6 y0
  else
  f_M_weakest_B151 k50 k58 S x0 x1 x2 x3 x4 x5 x6 y0
def f_M_weakest_B117 (k50 : AS → Option Nat → Int32 → Int32 → Option (Int32 × AS)) (k58 : AS → Option Nat → Int32 → Int32 → Int32 → Option (Int32 × AS)) (S : AS) (x0 : Option Nat) (x1 : Int32) (x2 : Int32) (x3 : Int32) (x4 : Int32) (x5 : Int32) (y0 : Int32) : Option (Int32 × AS) :=
  kr_b2 (f_M_levelOf S x5) fun v15 S14 =>
  (gR S14 23 12 x0).bind fun v16 =>
  (aI S14 40 v16 x4).bind fun v17 =>
  if v15 < v17 then
  f_M_weakest_B139 k50 k58 S14 x0 x1 x2 x3 x4 x5 y0 (0 : Int32)
  else
  f_M_weakest_B139 k50 k58 S14 x0 x1 x2 x3 x4 x5 y0 (1 : Int32)
def f_M_weakest_C58 (k50 : AS → Option Nat → Int32 → Int32 → Option (Int32 × AS)) (k58 : AS → Option Nat → Int32 → Int32 → Int32 → Option (Int32 × AS)) (S : AS) (x0 : Option Nat) (x1 : Int32) (x2 : Int32) (x3 : Int32) : Option (Int32 × AS) :=
  if (96 : Int32) ≤ x3 then
  (some (x2 + (1 : Int32))).bind fun i18 =>
  k50 S x0 x1 i18
  else
  (some (((12 : Int32) * x1) + (x3 / (8 : Int32)))).bind fun i19 =>
  (some (x3 - x3 / (8 : Int32) * (8 : Int32))).bind fun i20 =>
  (gR S 23 16 x0).bind fun v21 =>
  (aI S 41 v21 x3).bind fun v22 =>
  if v22 = 0 then
  f_M_weakest_B212 k50 k58 S x0 x1 x2 x3
  else
  (gR S 23 11 x0).bind fun v23 =>
  (aI S 40 v23 i19).bind fun v24 =>
  if (5 : Int32) ≤ v24 then
  f_M_weakest_B212 k50 k58 S x0 x1 x2 x3
  else
  (gR S 23 11 x0).bind fun v25 =>
  (aI S 40 v25 i19).bind fun v26 =>
  if v26 = (4 : Int32) then
  f_M_weakest_B117 k50 k58 S x0 x1 x2 x3 i19 i20 (1 : Int32)
  else
  f_M_weakest_B117 k50 k58 S x0 x1 x2 x3 i19 i20 (0 : Int32)
def f_M_weakest_L58 (k50 : AS → Option Nat → Int32 → Int32 → Option (Int32 × AS)) : Nat → AS → Option Nat → Int32 → Int32 → Int32 → Option (Int32 × AS)
  | 0, S, x0, x1, x2, x3 => none
  | n + 1, S, x0, x1, x2, x3 => f_M_weakest_C58 k50 (f_M_weakest_L58 k50 n) S x0 x1 x2 x3
def f_M_weakest_B300 (k228 : AS → Option Nat → Int32 → Int32 → Int32 → Option (Int32 × AS)) (S : AS) (x0 : Option Nat) (x1 : Int32) (x3 : Int32) (y0 : Int32) : Option (Int32 × AS) :=
  (some (x3 + (1 : Int32))).bind fun i27 =>
  k228 S x0 x1 y0 i27
def f_M_weakest_B289 (k228 : AS → Option Nat → Int32 → Int32 → Int32 → Option (Int32 × AS)) (S : AS) (x0 : Option Nat) (x1 : Int32) (x3 : Int32) : Option (Int32 × AS) :=
  kr_b2 (f_M_levelOf S (x3 - x3 / (8 : Int32) * (8 : Int32))) fun v29 S28 =>
  f_M_weakest_B300 k228 S28 x0 x1 x3 v29
def f_M_weakest_B299 (k228 : AS → Option Nat → Int32 → Int32 → Int32 → Option (Int32 × AS)) (S : AS) (x0 : Option Nat) (x1 : Int32) (x2 : Int32) (x3 : Int32) : Option (Int32 × AS) :=
  f_M_weakest_B300 k228 S x0 x1 x3 x2
def f_M_weakest_B266 (k228 : AS → Option Nat → Int32 → Int32 → Int32 → Option (Int32 × AS)) (S : AS) (x0 : Option Nat) (x1 : Int32) (x2 : Int32) (x3 : Int32) (y0 : Int32) : Option (Int32 × AS) :=
  if y0 = 0 then
  f_M_weakest_B299 k228 S x0 x1 x2 x3
  else
  if x2 = (-1 : Int32) then
  f_M_weakest_B289 k228 S x0 x1 x3
  else
  kr_b2 (f_M_levelOf S (x3 - x3 / (8 : Int32) * (8 : Int32))) fun v31 S30 =>
  if x2 ≤ v31 then
  f_M_weakest_B299 k228 S30 x0 x1 x2 x3
  else
  f_M_weakest_B289 k228 S30 x0 x1 x3
def f_M_weakest_B265 (k228 : AS → Option Nat → Int32 → Int32 → Int32 → Option (Int32 × AS)) (S : AS) (x0 : Option Nat) (x1 : Int32) (x2 : Int32) (x3 : Int32) : Option (Int32 × AS) :=
  f_M_weakest_B266 k228 S x0 x1 x2 x3 (0 : Int32)
def f_M_weakest_C228 (k228 : AS → Option Nat → Int32 → Int32 → Int32 → Option (Int32 × AS)) (S : AS) (x0 : Option Nat) (x1 : Int32) (x2 : Int32) (x3 : Int32) : Option (Int32 × AS) :=
  if (96 : Int32) ≤ x3 then
  some (x2, S)
  else
  (gR S 23 16 x0).bind fun v32 =>
  (aI S 41 v32 x3).bind fun v33 =>
  if v33 = 0 then
  f_M_weakest_B265 k228 S x0 x1 x2 x3
  else
  (gR S 23 11 x0).bind fun v34 =>
  (aI S 40 v34 (((12 : Int32) * x1) + (x3 / (8 : Int32)))).bind fun v35 =>
  if v35 = (5 : Int32) then
  f_M_weakest_B266 k228 S x0 x1 x2 x3 (1 : Int32)
  else
  f_M_weakest_B265 k228 S x0 x1 x2 x3
def f_M_weakest_L228 : Nat → AS → Option Nat → Int32 → Int32 → Int32 → Option (Int32 × AS)
  | 0, S, x0, x1, x2, x3 => none
  | n + 1, S, x0, x1, x2, x3 => f_M_weakest_C228 (f_M_weakest_L228 n) S x0 x1 x2 x3
def f_M_weakest_C50 (k50 : AS → Option Nat → Int32 → Int32 → Option (Int32 × AS)) (S : AS) (x0 : Option Nat) (x1 : Int32) (x2 : Int32) : Option (Int32 × AS) :=
  if (96 : Int32) ≤ x2 then
  f_M_weakest_L228 kr_FU S x0 x1 (-1 : Int32) (0 : Int32)
  else
  f_M_weakest_L58 k50 kr_FU S x0 x1 x2 (0 : Int32)
def f_M_weakest_L50 : Nat → AS → Option Nat → Int32 → Int32 → Option (Int32 × AS)
  | 0, S, x0, x1, x2 => none
  | n + 1, S, x0, x1, x2 => f_M_weakest_C50 (f_M_weakest_L50 n) S x0 x1 x2
def f_M_weakest_C22 (k22 : AS → Option Nat → Int32 → Int32 → Option (Int32 × AS)) (S : AS) (x0 : Option Nat) (x1 : Int32) (x2 : Int32) : Option (Int32 × AS) :=
  if (96 : Int32) ≤ x2 then
  (gR S 23 16 x0).bind fun v36 =>
  (bZ S v36 (0 : Int32) (1 : Int32)).bind fun S37 =>
  f_M_weakest_L50 kr_FU S37 x0 x1 (0 : Int32)
  else
  (gR S 23 16 x0).bind fun v38 =>
  (bZ S v38 x2 (0 : Int32)).bind fun S39 =>
  (some (x2 + (1 : Int32))).bind fun i40 =>
  k22 S39 x0 x1 i40
def f_M_weakest_L22 : Nat → AS → Option Nat → Int32 → Int32 → Option (Int32 × AS)
  | 0, S, x0, x1, x2 => none
  | n + 1, S, x0, x1, x2 => f_M_weakest_C22 (f_M_weakest_L22 n) S x0 x1 x2
def f_M_weakest (S : AS) (a0 : Option Nat) (a1 : Int32) : Option (Int32 × AS) :=
  (gI S 23 9 a0).bind fun v41 =>
  kr_b2 (f_M_isIn S a1 (0 : Int32) (v41 - (1 : Int32))) fun v43 S42 =>
  (kr_rv S42 23 a0).bind fun u44 =>
  kr_b2 (f_M_may S42 a0 v43) fun v46 S45 =>
  if v46 = 0 then
  some ((0 : Int32), S45)
  else
  f_M_weakest_L22 kr_FU S45 a0 a1 (0 : Int32)
set_option maxRecDepth 20000 in
set_option maxHeartbeats 4000000 in
theorem s_M_weakest_B212 {k50 : AS → Option Nat → Int32 → Int32 → Option (Int32 × AS)} (hk50 : ∀ {S : AS} {x0 : Option Nat} {x1 : Int32} {x2 : Int32} {r : (Int32 × AS)}, k50 S x0 x1 x2 = some r → kr_AW m_M_weakest 1 50 [(0, va_rf x0), (1, .int x1), (2, .int x2)] [] S (kr_eI r)) {k58 : AS → Option Nat → Int32 → Int32 → Int32 → Option (Int32 × AS)} (hk58 : ∀ {S : AS} {x0 : Option Nat} {x1 : Int32} {x2 : Int32} {x3 : Int32} {r : (Int32 × AS)}, k58 S x0 x1 x2 x3 = some r → kr_AW m_M_weakest 1 58 [(0, va_rf x0), (1, .int x1), (2, .int x2), (3, .int x3)] [] S (kr_eI r)) {S : AS} {x0 : Option Nat} {x1 : Int32} {x2 : Int32} {x3 : Int32} {r : (Int32 × AS)} (h : f_M_weakest_B212 k50 k58 S x0 x1 x2 x3 = some r) : kr_AW m_M_weakest 1 212 [(0, va_rf x0), (1, .int x1), (2, .int x2), (3, .int x3)] [] S (kr_eI r) := by
  unfold f_M_weakest_B212 at h
  have h2 := kr_ob h
  clear h
  obtain ⟨i1, ei1, h⟩ := h2
  refine r_iinc (v := i1) (lv' := [(3, .int i1), (0, va_rf x0), (1, .int x1), (2, .int x2)]) 3 rfl (kr_inc (by decide) ei1) (by decide) rfl d_M_weakest_212 ?_
  refine r_goto (tgt := 58) d_M_weakest_215 rfl ?_
  exact kr_sub [1, 2, 3, 0] rfl (hk58 h)
set_option maxRecDepth 20000 in
set_option maxHeartbeats 4000000 in
theorem s_M_weakest_B199 {k50 : AS → Option Nat → Int32 → Int32 → Option (Int32 × AS)} (hk50 : ∀ {S : AS} {x0 : Option Nat} {x1 : Int32} {x2 : Int32} {r : (Int32 × AS)}, k50 S x0 x1 x2 = some r → kr_AW m_M_weakest 1 50 [(0, va_rf x0), (1, .int x1), (2, .int x2)] [] S (kr_eI r)) {k58 : AS → Option Nat → Int32 → Int32 → Int32 → Option (Int32 × AS)} (hk58 : ∀ {S : AS} {x0 : Option Nat} {x1 : Int32} {x2 : Int32} {x3 : Int32} {r : (Int32 × AS)}, k58 S x0 x1 x2 x3 = some r → kr_AW m_M_weakest 1 58 [(0, va_rf x0), (1, .int x1), (2, .int x2), (3, .int x3)] [] S (kr_eI r)) {S : AS} {x0 : Option Nat} {x1 : Int32} {x2 : Int32} {x3 : Int32} {x4 : Int32} {x5 : Int32} {r : (Int32 × AS)} (h : f_M_weakest_B199 k50 k58 S x0 x1 x2 x3 x4 x5 = some r) : kr_AW m_M_weakest 1 199 [(0, va_rf x0), (1, .int x1), (2, .int x2), (3, .int x3), (4, .int x4), (5, .int x5)] [] S (kr_eI r) := by
  unfold f_M_weakest_B199 at h
  refine r_aload_n (i := 0) (x := x0) 0 rfl d_M_weakest_199 ?_
  refine r_aload_n (i := 0) (x := x0) 0 rfl d_M_weakest_200 ?_
  have h2 := kr_ob h
  clear h
  obtain ⟨v2, ev2, h⟩ := h2
  refine r_getR ev2 fk57 rfl d_M_weakest_201 ?_
  refine r_iload (i := 4) (x := x4) 4 rfl d_M_weakest_204 ?_
  have h2 := kr_ob h
  clear h
  obtain ⟨v3, ev3, h⟩ := h2
  refine r_iaload ev3 d_M_weakest_206 ?_
  refine r_iload (i := 5) (x := x5) 5 rfl d_M_weakest_207 ?_
  have h2 := kr_ob h
  clear h
  obtain ⟨⟨⟩, eu4, h⟩ := h2
  have h2 := kr_ob h
  clear h
  obtain ⟨S5, eS5, h⟩ := h2
  refine r_callV (M1 := m_M_meet) (κ := 23) (As := [.int v3, .int x5]) eu4 (s_M_meet eS5) mok_M_meet rfl (by decide) rfl w1791 w1793 w51 (by decide) (kr_c8 kr_c0) d_M_weakest_209 (kr_k0 ?_) kr_kn
  exact kr_sub [0, 1, 2, 3] rfl (s_M_weakest_B212 hk50 hk58 h)
set_option maxRecDepth 20000 in
set_option maxHeartbeats 4000000 in
theorem s_M_weakest_B189 {k50 : AS → Option Nat → Int32 → Int32 → Option (Int32 × AS)} (hk50 : ∀ {S : AS} {x0 : Option Nat} {x1 : Int32} {x2 : Int32} {r : (Int32 × AS)}, k50 S x0 x1 x2 = some r → kr_AW m_M_weakest 1 50 [(0, va_rf x0), (1, .int x1), (2, .int x2)] [] S (kr_eI r)) {k58 : AS → Option Nat → Int32 → Int32 → Int32 → Option (Int32 × AS)} (hk58 : ∀ {S : AS} {x0 : Option Nat} {x1 : Int32} {x2 : Int32} {x3 : Int32} {r : (Int32 × AS)}, k58 S x0 x1 x2 x3 = some r → kr_AW m_M_weakest 1 58 [(0, va_rf x0), (1, .int x1), (2, .int x2), (3, .int x3)] [] S (kr_eI r)) {S : AS} {x0 : Option Nat} {x1 : Int32} {x2 : Int32} {x3 : Int32} {x4 : Int32} {x5 : Int32} {x6 : Int32} {x7 : Int32} {r : (Int32 × AS)} (h : f_M_weakest_B189 k50 k58 S x0 x1 x2 x3 x4 x5 x6 x7 = some r) : kr_AW m_M_weakest 1 189 [(0, va_rf x0), (1, .int x1), (2, .int x2), (3, .int x3), (4, .int x4), (5, .int x5), (6, .int x6), (7, .int x7)] [] S (kr_eI r) := by
  unfold f_M_weakest_B189 at h
  refine r_iload (i := 6) (x := x6) 6 rfl d_M_weakest_189 ?_
  refine r_if_eq (tgt := 199) d_M_weakest_191 rfl (fun c => ?_) (fun c => ?_)
  · replace h := kr_ip c h
    exact kr_sub [0, 1, 2, 3, 4, 5] rfl (s_M_weakest_B199 hk50 hk58 h)
  · replace h := kr_in_ c h
    refine r_iload (i := 7) (x := x7) 7 rfl d_M_weakest_194 ?_
    refine r_if_ne (tgt := 212) d_M_weakest_196 rfl (fun c => ?_) (fun c => ?_)
    · replace h := kr_ip c h
      exact kr_sub [0, 1, 2, 3, 4, 5] rfl (s_M_weakest_B199 hk50 hk58 h)
    · replace h := kr_in_ c h
      exact kr_sub [0, 1, 2, 3] rfl (s_M_weakest_B212 hk50 hk58 h)
set_option maxRecDepth 20000 in
set_option maxHeartbeats 4000000 in
theorem s_M_weakest_B186 {k50 : AS → Option Nat → Int32 → Int32 → Option (Int32 × AS)} (hk50 : ∀ {S : AS} {x0 : Option Nat} {x1 : Int32} {x2 : Int32} {r : (Int32 × AS)}, k50 S x0 x1 x2 = some r → kr_AW m_M_weakest 1 50 [(0, va_rf x0), (1, .int x1), (2, .int x2)] [] S (kr_eI r)) {k58 : AS → Option Nat → Int32 → Int32 → Int32 → Option (Int32 × AS)} (hk58 : ∀ {S : AS} {x0 : Option Nat} {x1 : Int32} {x2 : Int32} {x3 : Int32} {r : (Int32 × AS)}, k58 S x0 x1 x2 x3 = some r → kr_AW m_M_weakest 1 58 [(0, va_rf x0), (1, .int x1), (2, .int x2), (3, .int x3)] [] S (kr_eI r)) {S : AS} {x0 : Option Nat} {x1 : Int32} {x2 : Int32} {x3 : Int32} {x4 : Int32} {x5 : Int32} {x6 : Int32} {x7 : Int32} {y0 : Option Nat} {y1 : Int32} {y2 : Int32} {r : (Int32 × AS)} (h : f_M_weakest_B186 k50 k58 S x0 x1 x2 x3 x4 x5 x6 x7 y0 y1 y2 = some r) : kr_AW m_M_weakest 1 186 [(0, va_rf x0), (1, .int x1), (2, .int x2), (3, .int x3), (4, .int x4), (5, .int x5), (6, .int x6), (7, .int x7)] [.int y2, .int y1, va_rf y0] S (kr_eI r) := by
  unfold f_M_weakest_B186 at h
  have h2 := kr_ob h
  clear h
  obtain ⟨⟨⟩, eu6, h⟩ := h2
  have h2 := kr_ob h
  clear h
  obtain ⟨S7, eS7, h⟩ := h2
  refine r_callV (M1 := m_M_meet) (κ := 23) (As := [.int y1, .int y2]) eu6 (s_M_meet eS7) mok_M_meet rfl (by decide) rfl w1791 w1793 w51 (by decide) (kr_c8 kr_c0) d_M_weakest_186 (kr_k0 ?_) kr_kn
  exact kr_sub [0, 1, 2, 3, 4, 5, 6, 7] rfl (s_M_weakest_B189 hk50 hk58 h)
set_option maxRecDepth 20000 in
set_option maxHeartbeats 4000000 in
theorem s_M_weakest_B151 {k50 : AS → Option Nat → Int32 → Int32 → Option (Int32 × AS)} (hk50 : ∀ {S : AS} {x0 : Option Nat} {x1 : Int32} {x2 : Int32} {r : (Int32 × AS)}, k50 S x0 x1 x2 = some r → kr_AW m_M_weakest 1 50 [(0, va_rf x0), (1, .int x1), (2, .int x2)] [] S (kr_eI r)) {k58 : AS → Option Nat → Int32 → Int32 → Int32 → Option (Int32 × AS)} (hk58 : ∀ {S : AS} {x0 : Option Nat} {x1 : Int32} {x2 : Int32} {x3 : Int32} {r : (Int32 × AS)}, k58 S x0 x1 x2 x3 = some r → kr_AW m_M_weakest 1 58 [(0, va_rf x0), (1, .int x1), (2, .int x2), (3, .int x3)] [] S (kr_eI r)) {S : AS} {x0 : Option Nat} {x1 : Int32} {x2 : Int32} {x3 : Int32} {x4 : Int32} {x5 : Int32} {x6 : Int32} {x7 : Int32} {r : (Int32 × AS)} (h : f_M_weakest_B151 k50 k58 S x0 x1 x2 x3 x4 x5 x6 x7 = some r) : kr_AW m_M_weakest 1 151 [(0, va_rf x0), (1, .int x1), (2, .int x2), (3, .int x3), (4, .int x4), (5, .int x5), (6, .int x6), (7, .int x7)] [] S (kr_eI r) := by
  unfold f_M_weakest_B151 at h
  refine r_aload_n (i := 0) (x := x0) 0 rfl d_M_weakest_151 ?_
  refine r_aload_n (i := 0) (x := x0) 0 rfl d_M_weakest_152 ?_
  have h2 := kr_ob h
  clear h
  obtain ⟨v8, ev8, h⟩ := h2
  refine r_getR ev8 fk56 rfl d_M_weakest_153 ?_
  refine r_iload (i := 4) (x := x4) 4 rfl d_M_weakest_156 ?_
  have h2 := kr_ob h
  clear h
  obtain ⟨v9, ev9, h⟩ := h2
  refine r_iaload ev9 d_M_weakest_158 ?_
  refine r_aload_n (i := 0) (x := x0) 0 rfl d_M_weakest_159 ?_
  have h2 := kr_ob h
  clear h
  obtain ⟨v10, ev10, h⟩ := h2
  refine r_getR ev10 fk53 rfl d_M_weakest_160 ?_
  refine r_iload (i := 4) (x := x4) 4 rfl d_M_weakest_163 ?_
  have h2 := kr_ob h
  clear h
  obtain ⟨v11, ev11, h⟩ := h2
  refine r_iaload ev11 d_M_weakest_165 ?_
  refine r_if_ne (tgt := 184) d_M_weakest_166 rfl (fun c => ?_) (fun c => ?_)
  · replace h := kr_ip c h
    refine r_iload (i := 5) (x := x5) 5 rfl d_M_weakest_169 ?_
    refine r_iconst (v := (1 : Int32)) (by decide) d_M_weakest_171 ?_
    refine r_aload_n (i := 0) (x := x0) 0 rfl d_M_weakest_172 ?_
    have h2 := kr_ob h
    clear h
    obtain ⟨v12, ev12, h⟩ := h2
    refine r_getR ev12 fk54 rfl d_M_weakest_173 ?_
    refine r_iload (i := 4) (x := x4) 4 rfl d_M_weakest_176 ?_
    have h2 := kr_ob h
    clear h
    obtain ⟨v13, ev13, h⟩ := h2
    refine r_iaload ev13 d_M_weakest_178 ?_
    refine r_ishl d_M_weakest_179 ?_
    refine r_ior d_M_weakest_180 ?_
    refine r_goto (tgt := 186) d_M_weakest_181 rfl ?_
    exact kr_sub [0, 1, 2, 3, 4, 5, 6, 7] rfl (s_M_weakest_B186 hk50 hk58 h)
  · replace h := kr_in_ c h
    refine r_iload (i := 5) (x := x5) 5 rfl d_M_weakest_184 ?_
    exact kr_sub [0, 1, 2, 3, 4, 5, 6, 7] rfl (s_M_weakest_B186 hk50 hk58 h)
set_option maxRecDepth 20000 in
set_option maxHeartbeats 4000000 in
theorem s_M_weakest_B139 {k50 : AS → Option Nat → Int32 → Int32 → Option (Int32 × AS)} (hk50 : ∀ {S : AS} {x0 : Option Nat} {x1 : Int32} {x2 : Int32} {r : (Int32 × AS)}, k50 S x0 x1 x2 = some r → kr_AW m_M_weakest 1 50 [(0, va_rf x0), (1, .int x1), (2, .int x2)] [] S (kr_eI r)) {k58 : AS → Option Nat → Int32 → Int32 → Int32 → Option (Int32 × AS)} (hk58 : ∀ {S : AS} {x0 : Option Nat} {x1 : Int32} {x2 : Int32} {x3 : Int32} {r : (Int32 × AS)}, k58 S x0 x1 x2 x3 = some r → kr_AW m_M_weakest 1 58 [(0, va_rf x0), (1, .int x1), (2, .int x2), (3, .int x3)] [] S (kr_eI r)) {S : AS} {x0 : Option Nat} {x1 : Int32} {x2 : Int32} {x3 : Int32} {x4 : Int32} {x5 : Int32} {x6 : Int32} {y0 : Int32} {r : (Int32 × AS)} (h : f_M_weakest_B139 k50 k58 S x0 x1 x2 x3 x4 x5 x6 y0 = some r) : kr_AW m_M_weakest 1 139 [(0, va_rf x0), (1, .int x1), (2, .int x2), (3, .int x3), (4, .int x4), (5, .int x5), (6, .int x6)] [.int y0] S (kr_eI r) := by
  unfold f_M_weakest_B139 at h
  refine r_istore (i := 7) (lv' := [(7, .int y0), (0, va_rf x0), (1, .int x1), (2, .int x2), (3, .int x3), (4, .int x4), (5, .int x5), (6, .int x6)]) (by decide) rfl d_M_weakest_139 ?_
  refine r_iload (i := 6) (x := x6) 7 rfl d_M_weakest_141 ?_
  refine r_if_eq (tgt := 151) d_M_weakest_143 rfl (fun c => ?_) (fun c => ?_)
  · replace h := kr_ip c h
    exact kr_sub [1, 2, 3, 4, 5, 6, 7, 0] rfl (s_M_weakest_B151 hk50 hk58 h)
  · replace h := kr_in_ c h
    refine r_iload (i := 7) (x := y0) 0 rfl d_M_weakest_146 ?_
    refine r_if_eq (tgt := 189) d_M_weakest_148 rfl (fun c => ?_) (fun c => ?_)
    · replace h := kr_ip c h
      exact kr_sub [1, 2, 3, 4, 5, 6, 7, 0] rfl (s_M_weakest_B189 hk50 hk58 h)
    · replace h := kr_in_ c h
      exact kr_sub [1, 2, 3, 4, 5, 6, 7, 0] rfl (s_M_weakest_B151 hk50 hk58 h)
set_option maxRecDepth 20000 in
set_option maxHeartbeats 4000000 in
theorem s_M_weakest_B117 {k50 : AS → Option Nat → Int32 → Int32 → Option (Int32 × AS)} (hk50 : ∀ {S : AS} {x0 : Option Nat} {x1 : Int32} {x2 : Int32} {r : (Int32 × AS)}, k50 S x0 x1 x2 = some r → kr_AW m_M_weakest 1 50 [(0, va_rf x0), (1, .int x1), (2, .int x2)] [] S (kr_eI r)) {k58 : AS → Option Nat → Int32 → Int32 → Int32 → Option (Int32 × AS)} (hk58 : ∀ {S : AS} {x0 : Option Nat} {x1 : Int32} {x2 : Int32} {x3 : Int32} {r : (Int32 × AS)}, k58 S x0 x1 x2 x3 = some r → kr_AW m_M_weakest 1 58 [(0, va_rf x0), (1, .int x1), (2, .int x2), (3, .int x3)] [] S (kr_eI r)) {S : AS} {x0 : Option Nat} {x1 : Int32} {x2 : Int32} {x3 : Int32} {x4 : Int32} {x5 : Int32} {y0 : Int32} {r : (Int32 × AS)} (h : f_M_weakest_B117 k50 k58 S x0 x1 x2 x3 x4 x5 y0 = some r) : kr_AW m_M_weakest 1 117 [(0, va_rf x0), (1, .int x1), (2, .int x2), (3, .int x3), (4, .int x4), (5, .int x5)] [.int y0] S (kr_eI r) := by
  unfold f_M_weakest_B117 at h
  refine r_istore (i := 6) (lv' := [(6, .int y0), (0, va_rf x0), (1, .int x1), (2, .int x2), (3, .int x3), (4, .int x4), (5, .int x5)]) (by decide) rfl d_M_weakest_117 ?_
  refine r_iload (i := 5) (x := x5) 6 rfl d_M_weakest_119 ?_
  have h2 := kr_ob2 h
  clear h
  obtain ⟨v15, S14, eS14, h⟩ := h2
  refine r_callS (M1 := m_M_levelOf) (As := [.int x5]) (s_M_levelOf eS14) mok_M_levelOf rfl w1788 w1789 (by decide) (kr_c8 kr_c0) d_M_weakest_121 (kr_k1 ?_) kr_kn
  refine r_aload_n (i := 0) (x := x0) 1 rfl d_M_weakest_124 ?_
  have h2 := kr_ob h
  clear h
  obtain ⟨v16, ev16, h⟩ := h2
  refine r_getR ev16 fk54 rfl d_M_weakest_125 ?_
  refine r_iload (i := 4) (x := x4) 5 rfl d_M_weakest_128 ?_
  have h2 := kr_ob h
  clear h
  obtain ⟨v17, ev17, h⟩ := h2
  refine r_iaload ev17 d_M_weakest_130 ?_
  refine r_icmp_lt (tgt := 138) d_M_weakest_131 rfl (fun c => ?_) (fun c => ?_)
  · replace h := kr_ip c h
    refine r_iconst (v := (0 : Int32)) (by decide) d_M_weakest_138 ?_
    exact kr_sub [1, 2, 3, 4, 5, 6, 0] rfl (s_M_weakest_B139 hk50 hk58 h)
  · replace h := kr_in_ c h
    refine r_iconst (v := (1 : Int32)) (by decide) d_M_weakest_134 ?_
    refine r_goto (tgt := 139) d_M_weakest_135 rfl ?_
    exact kr_sub [1, 2, 3, 4, 5, 6, 0] rfl (s_M_weakest_B139 hk50 hk58 h)
set_option maxRecDepth 20000 in
set_option maxHeartbeats 4000000 in
theorem s_M_weakest_C58 {k50 : AS → Option Nat → Int32 → Int32 → Option (Int32 × AS)} (hk50 : ∀ {S : AS} {x0 : Option Nat} {x1 : Int32} {x2 : Int32} {r : (Int32 × AS)}, k50 S x0 x1 x2 = some r → kr_AW m_M_weakest 1 50 [(0, va_rf x0), (1, .int x1), (2, .int x2)] [] S (kr_eI r)) {k58 : AS → Option Nat → Int32 → Int32 → Int32 → Option (Int32 × AS)} (hk58 : ∀ {S : AS} {x0 : Option Nat} {x1 : Int32} {x2 : Int32} {x3 : Int32} {r : (Int32 × AS)}, k58 S x0 x1 x2 x3 = some r → kr_AW m_M_weakest 1 58 [(0, va_rf x0), (1, .int x1), (2, .int x2), (3, .int x3)] [] S (kr_eI r)) {S : AS} {x0 : Option Nat} {x1 : Int32} {x2 : Int32} {x3 : Int32} {r : (Int32 × AS)} (h : f_M_weakest_C58 k50 k58 S x0 x1 x2 x3 = some r) : kr_AW m_M_weakest 1 58 [(0, va_rf x0), (1, .int x1), (2, .int x2), (3, .int x3)] [] S (kr_eI r) := by
  unfold f_M_weakest_C58 at h
  refine r_iload_n (i := 3) (x := x3) 3 rfl d_M_weakest_58 ?_
  refine r_bipush (v := (96 : Int32)) (by decide) d_M_weakest_59 ?_
  refine r_icmp_ge (tgt := 218) d_M_weakest_61 rfl (fun c => ?_) (fun c => ?_)
  · replace h := kr_ip c h
    have h2 := kr_ob h
    clear h
    obtain ⟨i18, ei18, h⟩ := h2
    refine r_iinc (v := i18) (lv' := [(2, .int i18), (0, va_rf x0), (1, .int x1), (3, .int x3)]) 2 rfl (kr_inc (by decide) ei18) (by decide) rfl d_M_weakest_218 ?_
    refine r_goto (tgt := 50) d_M_weakest_221 rfl ?_
    exact kr_sub [1, 2, 0] rfl (hk50 h)
  · replace h := kr_in_ c h
    refine r_bipush (v := (12 : Int32)) (by decide) d_M_weakest_64 ?_
    refine r_iload_n (i := 1) (x := x1) 1 rfl d_M_weakest_66 ?_
    refine r_imul d_M_weakest_67 ?_
    refine r_iload_n (i := 3) (x := x3) 3 rfl d_M_weakest_68 ?_
    refine r_bipush (v := (8 : Int32)) (by decide) d_M_weakest_69 ?_
    refine r_idiv (by decide) d_M_weakest_71 ?_
    refine r_iadd d_M_weakest_72 ?_
    have h2 := kr_ob h
    clear h
    obtain ⟨i19, ei19, h⟩ := h2
    refine kr_nmI ei19 ?_
    refine r_istore (i := 4) (lv' := [(4, .int i19), (0, va_rf x0), (1, .int x1), (2, .int x2), (3, .int x3)]) (by decide) rfl d_M_weakest_73 ?_
    refine r_iload_n (i := 3) (x := x3) 4 rfl d_M_weakest_75 ?_
    refine r_bipush (v := (8 : Int32)) (by decide) d_M_weakest_76 ?_
    refine r_irem (by decide) d_M_weakest_78 ?_
    have h2 := kr_ob h
    clear h
    obtain ⟨i20, ei20, h⟩ := h2
    refine kr_nmI ei20 ?_
    refine r_istore (i := 5) (lv' := [(5, .int i20), (4, .int i19), (0, va_rf x0), (1, .int x1), (2, .int x2), (3, .int x3)]) (by decide) rfl d_M_weakest_79 ?_
    refine r_aload_n (i := 0) (x := x0) 2 rfl d_M_weakest_81 ?_
    have h2 := kr_ob h
    clear h
    obtain ⟨v21, ev21, h⟩ := h2
    refine r_getR ev21 fk58 rfl d_M_weakest_82 ?_
    refine r_iload_n (i := 3) (x := x3) 5 rfl d_M_weakest_85 ?_
    have h2 := kr_ob h
    clear h
    obtain ⟨v22, ev22, h⟩ := h2
    refine r_baload ev22 d_M_weakest_86 ?_
    refine r_if_eq (tgt := 212) d_M_weakest_87 rfl (fun c => ?_) (fun c => ?_)
    · replace h := kr_ip c h
      exact kr_sub [2, 3, 4, 5] rfl (s_M_weakest_B212 hk50 hk58 h)
    · replace h := kr_in_ c h
      refine r_aload_n (i := 0) (x := x0) 2 rfl d_M_weakest_90 ?_
      have h2 := kr_ob h
      clear h
      obtain ⟨v23, ev23, h⟩ := h2
      refine r_getR ev23 fk53 rfl d_M_weakest_91 ?_
      refine r_iload (i := 4) (x := i19) 1 rfl d_M_weakest_94 ?_
      have h2 := kr_ob h
      clear h
      obtain ⟨v24, ev24, h⟩ := h2
      refine r_iaload ev24 d_M_weakest_96 ?_
      refine r_iconst (v := (5 : Int32)) (by decide) d_M_weakest_97 ?_
      refine r_icmp_ge (tgt := 212) d_M_weakest_98 rfl (fun c => ?_) (fun c => ?_)
      · replace h := kr_ip c h
        exact kr_sub [2, 3, 4, 5] rfl (s_M_weakest_B212 hk50 hk58 h)
      · replace h := kr_in_ c h
        refine r_aload_n (i := 0) (x := x0) 2 rfl d_M_weakest_101 ?_
        have h2 := kr_ob h
        clear h
        obtain ⟨v25, ev25, h⟩ := h2
        refine r_getR ev25 fk53 rfl d_M_weakest_102 ?_
        refine r_iload (i := 4) (x := i19) 1 rfl d_M_weakest_105 ?_
        have h2 := kr_ob h
        clear h
        obtain ⟨v26, ev26, h⟩ := h2
        refine r_iaload ev26 d_M_weakest_107 ?_
        refine r_iconst (v := (4 : Int32)) (by decide) d_M_weakest_108 ?_
        refine r_icmp_ne (tgt := 116) d_M_weakest_109 rfl (fun c => ?_) (fun c => ?_)
        · replace h := kr_ip c h
          refine r_iconst (v := (1 : Int32)) (by decide) d_M_weakest_112 ?_
          refine r_goto (tgt := 117) d_M_weakest_113 rfl ?_
          exact kr_sub [2, 3, 4, 5, 1, 0] rfl (s_M_weakest_B117 hk50 hk58 h)
        · replace h := kr_in_ c h
          refine r_iconst (v := (0 : Int32)) (by decide) d_M_weakest_116 ?_
          exact kr_sub [2, 3, 4, 5, 1, 0] rfl (s_M_weakest_B117 hk50 hk58 h)
theorem s_M_weakest_L58 {k50 : AS → Option Nat → Int32 → Int32 → Option (Int32 × AS)} (hk50 : ∀ {S : AS} {x0 : Option Nat} {x1 : Int32} {x2 : Int32} {r : (Int32 × AS)}, k50 S x0 x1 x2 = some r → kr_AW m_M_weakest 1 50 [(0, va_rf x0), (1, .int x1), (2, .int x2)] [] S (kr_eI r)) (n : Nat) : ∀ {S : AS} {x0 : Option Nat} {x1 : Int32} {x2 : Int32} {x3 : Int32} {r : (Int32 × AS)}, f_M_weakest_L58 k50 n S x0 x1 x2 x3 = some r → kr_AW m_M_weakest 1 58 [(0, va_rf x0), (1, .int x1), (2, .int x2), (3, .int x3)] [] S (kr_eI r) := by
  induction n with
  | zero => intro S x0 x1 x2 x3 r h; cases h
  | succ n ih => intro S x0 x1 x2 x3 r h; exact s_M_weakest_C58 hk50 (fun {_} {_} {_} {_} {_} {_} h => ih h) h
set_option maxRecDepth 20000 in
set_option maxHeartbeats 4000000 in
theorem s_M_weakest_B300 {k228 : AS → Option Nat → Int32 → Int32 → Int32 → Option (Int32 × AS)} (hk228 : ∀ {S : AS} {x0 : Option Nat} {x1 : Int32} {x2 : Int32} {x3 : Int32} {r : (Int32 × AS)}, k228 S x0 x1 x2 x3 = some r → kr_AW m_M_weakest 1 228 [(0, va_rf x0), (1, .int x1), (2, .int x2), (3, .int x3)] [] S (kr_eI r)) {S : AS} {x0 : Option Nat} {x1 : Int32} {x3 : Int32} {y0 : Int32} {r : (Int32 × AS)} (h : f_M_weakest_B300 k228 S x0 x1 x3 y0 = some r) : kr_AW m_M_weakest 1 300 [(0, va_rf x0), (1, .int x1), (3, .int x3)] [.int y0] S (kr_eI r) := by
  unfold f_M_weakest_B300 at h
  refine r_istore_n (i := 2) (lv' := [(2, .int y0), (0, va_rf x0), (1, .int x1), (3, .int x3)]) (by decide) rfl d_M_weakest_300 ?_
  have h2 := kr_ob h
  clear h
  obtain ⟨i27, ei27, h⟩ := h2
  refine r_iinc (v := i27) (lv' := [(3, .int i27), (2, .int y0), (0, va_rf x0), (1, .int x1)]) 3 rfl (kr_inc (by decide) ei27) (by decide) rfl d_M_weakest_301 ?_
  refine r_goto (tgt := 228) d_M_weakest_304 rfl ?_
  exact kr_sub [2, 3, 1, 0] rfl (hk228 h)
set_option maxRecDepth 20000 in
set_option maxHeartbeats 4000000 in
theorem s_M_weakest_B289 {k228 : AS → Option Nat → Int32 → Int32 → Int32 → Option (Int32 × AS)} (hk228 : ∀ {S : AS} {x0 : Option Nat} {x1 : Int32} {x2 : Int32} {x3 : Int32} {r : (Int32 × AS)}, k228 S x0 x1 x2 x3 = some r → kr_AW m_M_weakest 1 228 [(0, va_rf x0), (1, .int x1), (2, .int x2), (3, .int x3)] [] S (kr_eI r)) {S : AS} {x0 : Option Nat} {x1 : Int32} {x3 : Int32} {r : (Int32 × AS)} (h : f_M_weakest_B289 k228 S x0 x1 x3 = some r) : kr_AW m_M_weakest 1 289 [(0, va_rf x0), (1, .int x1), (3, .int x3)] [] S (kr_eI r) := by
  unfold f_M_weakest_B289 at h
  refine r_iload_n (i := 3) (x := x3) 2 rfl d_M_weakest_289 ?_
  refine r_bipush (v := (8 : Int32)) (by decide) d_M_weakest_290 ?_
  refine r_irem (by decide) d_M_weakest_292 ?_
  have h2 := kr_ob2 h
  clear h
  obtain ⟨v29, S28, eS28, h⟩ := h2
  refine r_callS (M1 := m_M_levelOf) (As := [.int (x3 - x3 / (8 : Int32) * (8 : Int32))]) (s_M_levelOf eS28) mok_M_levelOf rfl w1788 w1789 (by decide) (kr_c8 kr_c0) d_M_weakest_293 (kr_k1 ?_) kr_kn
  refine r_goto (tgt := 300) d_M_weakest_296 rfl ?_
  exact kr_sub [0, 1, 2] rfl (s_M_weakest_B300 hk228 h)
set_option maxRecDepth 20000 in
set_option maxHeartbeats 4000000 in
theorem s_M_weakest_B299 {k228 : AS → Option Nat → Int32 → Int32 → Int32 → Option (Int32 × AS)} (hk228 : ∀ {S : AS} {x0 : Option Nat} {x1 : Int32} {x2 : Int32} {x3 : Int32} {r : (Int32 × AS)}, k228 S x0 x1 x2 x3 = some r → kr_AW m_M_weakest 1 228 [(0, va_rf x0), (1, .int x1), (2, .int x2), (3, .int x3)] [] S (kr_eI r)) {S : AS} {x0 : Option Nat} {x1 : Int32} {x2 : Int32} {x3 : Int32} {r : (Int32 × AS)} (h : f_M_weakest_B299 k228 S x0 x1 x2 x3 = some r) : kr_AW m_M_weakest 1 299 [(0, va_rf x0), (1, .int x1), (2, .int x2), (3, .int x3)] [] S (kr_eI r) := by
  unfold f_M_weakest_B299 at h
  refine r_iload_n (i := 2) (x := x2) 2 rfl d_M_weakest_299 ?_
  exact kr_sub [0, 1, 3] rfl (s_M_weakest_B300 hk228 h)
set_option maxRecDepth 20000 in
set_option maxHeartbeats 4000000 in
theorem s_M_weakest_B266 {k228 : AS → Option Nat → Int32 → Int32 → Int32 → Option (Int32 × AS)} (hk228 : ∀ {S : AS} {x0 : Option Nat} {x1 : Int32} {x2 : Int32} {x3 : Int32} {r : (Int32 × AS)}, k228 S x0 x1 x2 x3 = some r → kr_AW m_M_weakest 1 228 [(0, va_rf x0), (1, .int x1), (2, .int x2), (3, .int x3)] [] S (kr_eI r)) {S : AS} {x0 : Option Nat} {x1 : Int32} {x2 : Int32} {x3 : Int32} {y0 : Int32} {r : (Int32 × AS)} (h : f_M_weakest_B266 k228 S x0 x1 x2 x3 y0 = some r) : kr_AW m_M_weakest 1 266 [(0, va_rf x0), (1, .int x1), (2, .int x2), (3, .int x3)] [.int y0] S (kr_eI r) := by
  unfold f_M_weakest_B266 at h
  refine r_istore (i := 4) (lv' := [(4, .int y0), (0, va_rf x0), (1, .int x1), (2, .int x2), (3, .int x3)]) (by decide) rfl d_M_weakest_266 ?_
  refine r_iload (i := 4) (x := y0) 0 rfl d_M_weakest_268 ?_
  refine r_if_eq (tgt := 299) d_M_weakest_270 rfl (fun c => ?_) (fun c => ?_)
  · replace h := kr_ip c h
    exact kr_sub [1, 2, 3, 4] rfl (s_M_weakest_B299 hk228 h)
  · replace h := kr_in_ c h
    refine r_iload_n (i := 2) (x := x2) 3 rfl d_M_weakest_273 ?_
    refine r_iconst (v := (-1 : Int32)) (by decide) d_M_weakest_274 ?_
    refine r_icmp_eq (tgt := 289) d_M_weakest_275 rfl (fun c => ?_) (fun c => ?_)
    · replace h := kr_ip c h
      exact kr_sub [1, 2, 4] rfl (s_M_weakest_B289 hk228 h)
    · replace h := kr_in_ c h
      refine r_iload_n (i := 3) (x := x3) 4 rfl d_M_weakest_278 ?_
      refine r_bipush (v := (8 : Int32)) (by decide) d_M_weakest_279 ?_
      refine r_irem (by decide) d_M_weakest_281 ?_
      have h2 := kr_ob2 h
      clear h
      obtain ⟨v31, S30, eS30, h⟩ := h2
      refine r_callS (M1 := m_M_levelOf) (As := [.int (x3 - x3 / (8 : Int32) * (8 : Int32))]) (s_M_levelOf eS30) mok_M_levelOf rfl w1788 w1789 (by decide) (kr_c8 kr_c0) d_M_weakest_282 (kr_k1 ?_) kr_kn
      refine r_iload_n (i := 2) (x := x2) 3 rfl d_M_weakest_285 ?_
      refine r_icmp_ge (tgt := 299) d_M_weakest_286 rfl (fun c => ?_) (fun c => ?_)
      · replace h := kr_ip c h
        exact kr_sub [1, 2, 3, 4] rfl (s_M_weakest_B299 hk228 h)
      · replace h := kr_in_ c h
        exact kr_sub [1, 2, 4] rfl (s_M_weakest_B289 hk228 h)
set_option maxRecDepth 20000 in
set_option maxHeartbeats 4000000 in
theorem s_M_weakest_B265 {k228 : AS → Option Nat → Int32 → Int32 → Int32 → Option (Int32 × AS)} (hk228 : ∀ {S : AS} {x0 : Option Nat} {x1 : Int32} {x2 : Int32} {x3 : Int32} {r : (Int32 × AS)}, k228 S x0 x1 x2 x3 = some r → kr_AW m_M_weakest 1 228 [(0, va_rf x0), (1, .int x1), (2, .int x2), (3, .int x3)] [] S (kr_eI r)) {S : AS} {x0 : Option Nat} {x1 : Int32} {x2 : Int32} {x3 : Int32} {r : (Int32 × AS)} (h : f_M_weakest_B265 k228 S x0 x1 x2 x3 = some r) : kr_AW m_M_weakest 1 265 [(0, va_rf x0), (1, .int x1), (2, .int x2), (3, .int x3)] [] S (kr_eI r) := by
  unfold f_M_weakest_B265 at h
  refine r_iconst (v := (0 : Int32)) (by decide) d_M_weakest_265 ?_
  exact kr_sub [0, 1, 2, 3] rfl (s_M_weakest_B266 hk228 h)
set_option maxRecDepth 20000 in
set_option maxHeartbeats 4000000 in
theorem s_M_weakest_C228 {k228 : AS → Option Nat → Int32 → Int32 → Int32 → Option (Int32 × AS)} (hk228 : ∀ {S : AS} {x0 : Option Nat} {x1 : Int32} {x2 : Int32} {x3 : Int32} {r : (Int32 × AS)}, k228 S x0 x1 x2 x3 = some r → kr_AW m_M_weakest 1 228 [(0, va_rf x0), (1, .int x1), (2, .int x2), (3, .int x3)] [] S (kr_eI r)) {S : AS} {x0 : Option Nat} {x1 : Int32} {x2 : Int32} {x3 : Int32} {r : (Int32 × AS)} (h : f_M_weakest_C228 k228 S x0 x1 x2 x3 = some r) : kr_AW m_M_weakest 1 228 [(0, va_rf x0), (1, .int x1), (2, .int x2), (3, .int x3)] [] S (kr_eI r) := by
  unfold f_M_weakest_C228 at h
  refine r_iload_n (i := 3) (x := x3) 3 rfl d_M_weakest_228 ?_
  refine r_bipush (v := (96 : Int32)) (by decide) d_M_weakest_229 ?_
  refine r_icmp_ge (tgt := 307) d_M_weakest_231 rfl (fun c => ?_) (fun c => ?_)
  · replace h := kr_ip c h
    refine r_iload_n (i := 2) (x := x2) 2 rfl d_M_weakest_307 ?_
    cases h
    exact r_iret rfl d_M_weakest_308
  · replace h := kr_in_ c h
    refine r_aload_n (i := 0) (x := x0) 0 rfl d_M_weakest_234 ?_
    have h2 := kr_ob h
    clear h
    obtain ⟨v32, ev32, h⟩ := h2
    refine r_getR ev32 fk58 rfl d_M_weakest_235 ?_
    refine r_iload_n (i := 3) (x := x3) 3 rfl d_M_weakest_238 ?_
    have h2 := kr_ob h
    clear h
    obtain ⟨v33, ev33, h⟩ := h2
    refine r_baload ev33 d_M_weakest_239 ?_
    refine r_if_eq (tgt := 265) d_M_weakest_240 rfl (fun c => ?_) (fun c => ?_)
    · replace h := kr_ip c h
      exact kr_sub [0, 1, 2, 3] rfl (s_M_weakest_B265 hk228 h)
    · replace h := kr_in_ c h
      refine r_aload_n (i := 0) (x := x0) 0 rfl d_M_weakest_243 ?_
      have h2 := kr_ob h
      clear h
      obtain ⟨v34, ev34, h⟩ := h2
      refine r_getR ev34 fk53 rfl d_M_weakest_244 ?_
      refine r_bipush (v := (12 : Int32)) (by decide) d_M_weakest_247 ?_
      refine r_iload_n (i := 1) (x := x1) 1 rfl d_M_weakest_249 ?_
      refine r_imul d_M_weakest_250 ?_
      refine r_iload_n (i := 3) (x := x3) 3 rfl d_M_weakest_251 ?_
      refine r_bipush (v := (8 : Int32)) (by decide) d_M_weakest_252 ?_
      refine r_idiv (by decide) d_M_weakest_254 ?_
      refine r_iadd d_M_weakest_255 ?_
      have h2 := kr_ob h
      clear h
      obtain ⟨v35, ev35, h⟩ := h2
      refine r_iaload ev35 d_M_weakest_256 ?_
      refine r_iconst (v := (5 : Int32)) (by decide) d_M_weakest_257 ?_
      refine r_icmp_ne (tgt := 265) d_M_weakest_258 rfl (fun c => ?_) (fun c => ?_)
      · replace h := kr_ip c h
        refine r_iconst (v := (1 : Int32)) (by decide) d_M_weakest_261 ?_
        refine r_goto (tgt := 266) d_M_weakest_262 rfl ?_
        exact kr_sub [0, 1, 2, 3] rfl (s_M_weakest_B266 hk228 h)
      · replace h := kr_in_ c h
        exact kr_sub [0, 1, 2, 3] rfl (s_M_weakest_B265 hk228 h)
theorem s_M_weakest_L228 (n : Nat) : ∀ {S : AS} {x0 : Option Nat} {x1 : Int32} {x2 : Int32} {x3 : Int32} {r : (Int32 × AS)}, f_M_weakest_L228 n S x0 x1 x2 x3 = some r → kr_AW m_M_weakest 1 228 [(0, va_rf x0), (1, .int x1), (2, .int x2), (3, .int x3)] [] S (kr_eI r) := by
  induction n with
  | zero => intro S x0 x1 x2 x3 r h; cases h
  | succ n ih => intro S x0 x1 x2 x3 r h; exact s_M_weakest_C228 (fun {_} {_} {_} {_} {_} {_} h => ih h) h
set_option maxRecDepth 20000 in
set_option maxHeartbeats 4000000 in
theorem s_M_weakest_C50 {k50 : AS → Option Nat → Int32 → Int32 → Option (Int32 × AS)} (hk50 : ∀ {S : AS} {x0 : Option Nat} {x1 : Int32} {x2 : Int32} {r : (Int32 × AS)}, k50 S x0 x1 x2 = some r → kr_AW m_M_weakest 1 50 [(0, va_rf x0), (1, .int x1), (2, .int x2)] [] S (kr_eI r)) {S : AS} {x0 : Option Nat} {x1 : Int32} {x2 : Int32} {r : (Int32 × AS)} (h : f_M_weakest_C50 k50 S x0 x1 x2 = some r) : kr_AW m_M_weakest 1 50 [(0, va_rf x0), (1, .int x1), (2, .int x2)] [] S (kr_eI r) := by
  unfold f_M_weakest_C50 at h
  refine r_iload_n (i := 2) (x := x2) 2 rfl d_M_weakest_50 ?_
  refine r_bipush (v := (96 : Int32)) (by decide) d_M_weakest_51 ?_
  refine r_icmp_ge (tgt := 224) d_M_weakest_53 rfl (fun c => ?_) (fun c => ?_)
  · replace h := kr_ip c h
    refine r_iconst (v := (-1 : Int32)) (by decide) d_M_weakest_224 ?_
    refine r_istore_n (i := 2) (lv' := [(2, .int (-1 : Int32)), (0, va_rf x0), (1, .int x1)]) (by decide) rfl d_M_weakest_225 ?_
    refine r_iconst (v := (0 : Int32)) (by decide) d_M_weakest_226 ?_
    refine r_istore_n (i := 3) (lv' := [(3, .int (0 : Int32)), (2, .int (-1 : Int32)), (0, va_rf x0), (1, .int x1)]) (by decide) rfl d_M_weakest_227 ?_
    exact kr_sub [2, 3, 1, 0] rfl (s_M_weakest_L228 kr_FU h)
  · replace h := kr_in_ c h
    refine r_iconst (v := (0 : Int32)) (by decide) d_M_weakest_56 ?_
    refine r_istore_n (i := 3) (lv' := [(3, .int (0 : Int32)), (0, va_rf x0), (1, .int x1), (2, .int x2)]) (by decide) rfl d_M_weakest_57 ?_
    exact kr_sub [1, 2, 3, 0] rfl (s_M_weakest_L58 hk50 kr_FU h)
theorem s_M_weakest_L50 (n : Nat) : ∀ {S : AS} {x0 : Option Nat} {x1 : Int32} {x2 : Int32} {r : (Int32 × AS)}, f_M_weakest_L50 n S x0 x1 x2 = some r → kr_AW m_M_weakest 1 50 [(0, va_rf x0), (1, .int x1), (2, .int x2)] [] S (kr_eI r) := by
  induction n with
  | zero => intro S x0 x1 x2 r h; cases h
  | succ n ih => intro S x0 x1 x2 r h; exact s_M_weakest_C50 (fun {_} {_} {_} {_} {_} h => ih h) h
set_option maxRecDepth 20000 in
set_option maxHeartbeats 4000000 in
theorem s_M_weakest_C22 {k22 : AS → Option Nat → Int32 → Int32 → Option (Int32 × AS)} (hk22 : ∀ {S : AS} {x0 : Option Nat} {x1 : Int32} {x2 : Int32} {r : (Int32 × AS)}, k22 S x0 x1 x2 = some r → kr_AW m_M_weakest 1 22 [(0, va_rf x0), (1, .int x1), (2, .int x2)] [] S (kr_eI r)) {S : AS} {x0 : Option Nat} {x1 : Int32} {x2 : Int32} {r : (Int32 × AS)} (h : f_M_weakest_C22 k22 S x0 x1 x2 = some r) : kr_AW m_M_weakest 1 22 [(0, va_rf x0), (1, .int x1), (2, .int x2)] [] S (kr_eI r) := by
  unfold f_M_weakest_C22 at h
  refine r_iload_n (i := 2) (x := x2) 2 rfl d_M_weakest_22 ?_
  refine r_bipush (v := (96 : Int32)) (by decide) d_M_weakest_23 ?_
  refine r_icmp_ge (tgt := 41) d_M_weakest_25 rfl (fun c => ?_) (fun c => ?_)
  · replace h := kr_ip c h
    refine r_aload_n (i := 0) (x := x0) 0 rfl d_M_weakest_41 ?_
    have h2 := kr_ob h
    clear h
    obtain ⟨v36, ev36, h⟩ := h2
    refine r_getR ev36 fk58 rfl d_M_weakest_42 ?_
    refine r_iconst (v := (0 : Int32)) (by decide) d_M_weakest_45 ?_
    refine r_iconst (v := (1 : Int32)) (by decide) d_M_weakest_46 ?_
    have h2 := kr_ob h
    clear h
    obtain ⟨S37, eS37, h⟩ := h2
    refine r_bastore eS37 d_M_weakest_47 ?_
    refine r_iconst (v := (0 : Int32)) (by decide) d_M_weakest_48 ?_
    refine r_istore_n (i := 2) (lv' := [(2, .int (0 : Int32)), (0, va_rf x0), (1, .int x1)]) (by decide) rfl d_M_weakest_49 ?_
    exact kr_sub [1, 2, 0] rfl (s_M_weakest_L50 kr_FU h)
  · replace h := kr_in_ c h
    refine r_aload_n (i := 0) (x := x0) 0 rfl d_M_weakest_28 ?_
    have h2 := kr_ob h
    clear h
    obtain ⟨v38, ev38, h⟩ := h2
    refine r_getR ev38 fk58 rfl d_M_weakest_29 ?_
    refine r_iload_n (i := 2) (x := x2) 2 rfl d_M_weakest_32 ?_
    refine r_iconst (v := (0 : Int32)) (by decide) d_M_weakest_33 ?_
    have h2 := kr_ob h
    clear h
    obtain ⟨S39, eS39, h⟩ := h2
    refine r_bastore eS39 d_M_weakest_34 ?_
    have h2 := kr_ob h
    clear h
    obtain ⟨i40, ei40, h⟩ := h2
    refine r_iinc (v := i40) (lv' := [(2, .int i40), (0, va_rf x0), (1, .int x1)]) 2 rfl (kr_inc (by decide) ei40) (by decide) rfl d_M_weakest_35 ?_
    refine r_goto (tgt := 22) d_M_weakest_38 rfl ?_
    exact kr_sub [1, 2, 0] rfl (hk22 h)
theorem s_M_weakest_L22 (n : Nat) : ∀ {S : AS} {x0 : Option Nat} {x1 : Int32} {x2 : Int32} {r : (Int32 × AS)}, f_M_weakest_L22 n S x0 x1 x2 = some r → kr_AW m_M_weakest 1 22 [(0, va_rf x0), (1, .int x1), (2, .int x2)] [] S (kr_eI r) := by
  induction n with
  | zero => intro S x0 x1 x2 r h; cases h
  | succ n ih => intro S x0 x1 x2 r h; exact s_M_weakest_C22 (fun {_} {_} {_} {_} {_} h => ih h) h
set_option maxRecDepth 20000 in
set_option maxHeartbeats 4000000 in
theorem s_M_weakest {S : AS} {a0 : Option Nat} {a1 : Int32} {r : (Int32 × AS)} (h : f_M_weakest S a0 a1 = some r) : kr_Con m_M_weakest 1 [va_rf a0, .int a1] S (kr_eI r) := by
  refine kr_con rfl rfl (by decide +kernel) (by simp [lg_sl, kr_rfcat, kr_icat, m_M_weakest, mL]) ?_
  rw [show lv_args 0 [va_rf a0, .int a1] = [(0, va_rf a0), (1, .int a1)] from by simp [lv_args, kr_rfcat, kr_icat]]
  unfold f_M_weakest at h
  refine r_aload_n (i := 0) (x := a0) 0 rfl d_M_weakest_0 ?_
  refine r_iload_n (i := 1) (x := a1) 1 rfl d_M_weakest_1 ?_
  refine r_iconst (v := (0 : Int32)) (by decide) d_M_weakest_2 ?_
  refine r_aload_n (i := 0) (x := a0) 0 rfl d_M_weakest_3 ?_
  have h2 := kr_ob h
  clear h
  obtain ⟨v41, ev41, h⟩ := h2
  refine r_getI ev41 fk140 rfl d_M_weakest_4 ?_
  refine r_iconst (v := (1 : Int32)) (by decide) d_M_weakest_7 ?_
  refine r_isub d_M_weakest_8 ?_
  have h2 := kr_ob2 h
  clear h
  obtain ⟨v43, S42, eS42, h⟩ := h2
  refine r_callS (M1 := m_M_isIn) (As := [.int a1, .int (0 : Int32), .int (v41 - (1 : Int32))]) (s_M_isIn eS42) mok_M_isIn rfl w1700 w1701 (by decide) (kr_c8 (kr_cR kr_c0)) d_M_weakest_9 (kr_k1 ?_) kr_kn
  have h2 := kr_ob h
  clear h
  obtain ⟨⟨⟩, eu44, h⟩ := h2
  have h2 := kr_ob2 h
  clear h
  obtain ⟨v46, S45, eS45, h⟩ := h2
  refine r_callV (M1 := m_M_may) (κ := 23) (As := [.int v43]) eu44 (s_M_may eS45) mok_M_may rfl (by decide) rfl w1703 w1705 w42 (by decide) (kr_c8 kr_c0) d_M_weakest_12 (kr_k1 ?_) kr_kn
  refine r_if_ne (tgt := 20) d_M_weakest_15 rfl (fun c => ?_) (fun c => ?_)
  · replace h := kr_ip c h
    refine r_iconst (v := (0 : Int32)) (by decide) d_M_weakest_18 ?_
    cases h
    exact r_iret rfl d_M_weakest_19
  · replace h := kr_in_ c h
    refine r_iconst (v := (0 : Int32)) (by decide) d_M_weakest_20 ?_
    refine r_istore_n (i := 2) (lv' := [(2, .int (0 : Int32)), (0, va_rf a0), (1, .int a1)]) (by decide) rfl d_M_weakest_21 ?_
    exact kr_sub [1, 2, 0] rfl (s_M_weakest_L22 kr_FU h)
/-! KeyringCourtModel.points(IIZ)I -/
def f_M_points_B59 (S : AS) (x0 : Option Nat) (x1 : Int32) (x2 : Int32) (x3 : Int32) (y0 : Int32) : Option (Int32 × AS) :=
  if x3 = 0 then
  (gR S 23 17 x0).bind fun v1 =>
  (bI S v1 x1 x2).bind fun S2 =>
  some (y0, S2)
  else
  (gR S 23 18 x0).bind fun v3 =>
  (bI S v3 x1 x2).bind fun S4 =>
  some (y0, S4)
def f_M_points_B32 (S : AS) (x0 : Option Nat) (x1 : Int32) (x2 : Int32) (x3 : Int32) (y0 : Option Nat) (y1 : Int32) : Option (Int32 × AS) :=
  (kr_rv S 23 y0).bind fun u5 =>
  kr_b2 (f_M_may S y0 y1) fun v7 S6 =>
  if v7 = 0 then
  some ((0 : Int32), S6)
  else
  if x3 = 0 then
  (gR S6 23 17 x0).bind fun v8 =>
  (aI S6 40 v8 x1).bind fun v9 =>
  f_M_points_B59 S6 x0 x1 x2 x3 v9
  else
  (gR S6 23 18 x0).bind fun v10 =>
  (aI S6 40 v10 x1).bind fun v11 =>
  f_M_points_B59 S6 x0 x1 x2 x3 v11
def f_M_points_B31 (S : AS) (x0 : Option Nat) (x1 : Int32) (x2 : Int32) (x3 : Int32) (y0 : Option Nat) : Option (Int32 × AS) :=
  f_M_points_B32 S x0 x1 x2 x3 y0 (0 : Int32)
def f_M_points_B20 (S : AS) (x0 : Option Nat) (x1 : Int32) (x2 : Int32) (x3 : Int32) (y0 : Option Nat) (y1 : Int32) (y2 : Int32) : Option (Int32 × AS) :=
  kr_b2 (f_M_isIn S y1 y2 (5 : Int32)) fun v13 S12 =>
  if v13 = 0 then
  f_M_points_B31 S12 x0 x1 x2 x3 y0
  else
  f_M_points_B32 S12 x0 x1 x2 x3 y0 (1 : Int32)
def f_M_points (S : AS) (a0 : Option Nat) (a1 : Int32) (a2 : Int32) (a3 : Int32) : Option (Int32 × AS) :=
  kr_b2 (f_M_isIn S a1 (0 : Int32) (2 : Int32)) fun v15 S14 =>
  if v15 = 0 then
  f_M_points_B31 S14 a0 a1 a2 a3 a0
  else
  if a3 = 0 then
  f_M_points_B20 S14 a0 a1 a2 a3 a0 a2 (0 : Int32)
  else
  f_M_points_B20 S14 a0 a1 a2 a3 a0 a2 (-1 : Int32)
set_option maxRecDepth 20000 in
set_option maxHeartbeats 4000000 in
theorem s_M_points_B59 {S : AS} {x0 : Option Nat} {x1 : Int32} {x2 : Int32} {x3 : Int32} {y0 : Int32} {r : (Int32 × AS)} (h : f_M_points_B59 S x0 x1 x2 x3 y0 = some r) : kr_AW m_M_points 1 59 [(0, va_rf x0), (1, .int x1), (2, .int x2), (3, .int x3)] [.int y0] S (kr_eI r) := by
  unfold f_M_points_B59 at h
  refine r_istore (i := 4) (lv' := [(4, .int y0), (0, va_rf x0), (1, .int x1), (2, .int x2), (3, .int x3)]) (by decide) rfl d_M_points_59 ?_
  refine r_iload_n (i := 3) (x := x3) 4 rfl d_M_points_61 ?_
  refine r_if_eq (tgt := 75) d_M_points_62 rfl (fun c => ?_) (fun c => ?_)
  · replace h := kr_ip c h
    refine r_aload_n (i := 0) (x := x0) 1 rfl d_M_points_75 ?_
    have h2 := kr_ob h
    clear h
    obtain ⟨v1, ev1, h⟩ := h2
    refine r_getR ev1 fk43 rfl d_M_points_76 ?_
    refine r_iload_n (i := 1) (x := x1) 2 rfl d_M_points_79 ?_
    refine r_iload_n (i := 2) (x := x2) 3 rfl d_M_points_80 ?_
    have h2 := kr_ob h
    clear h
    obtain ⟨S2, eS2, h⟩ := h2
    refine r_iastore eS2 d_M_points_81 ?_
    refine r_iload (i := 4) (x := y0) 0 rfl d_M_points_82 ?_
    cases h
    exact r_iret rfl d_M_points_84
  · replace h := kr_in_ c h
    refine r_aload_n (i := 0) (x := x0) 1 rfl d_M_points_65 ?_
    have h2 := kr_ob h
    clear h
    obtain ⟨v3, ev3, h⟩ := h2
    refine r_getR ev3 fk42 rfl d_M_points_66 ?_
    refine r_iload_n (i := 1) (x := x1) 2 rfl d_M_points_69 ?_
    refine r_iload_n (i := 2) (x := x2) 3 rfl d_M_points_70 ?_
    have h2 := kr_ob h
    clear h
    obtain ⟨S4, eS4, h⟩ := h2
    refine r_iastore eS4 d_M_points_71 ?_
    refine r_goto (tgt := 82) d_M_points_72 rfl ?_
    refine r_iload (i := 4) (x := y0) 0 rfl d_M_points_82 ?_
    cases h
    exact r_iret rfl d_M_points_84
set_option maxRecDepth 20000 in
set_option maxHeartbeats 4000000 in
theorem s_M_points_B32 {S : AS} {x0 : Option Nat} {x1 : Int32} {x2 : Int32} {x3 : Int32} {y0 : Option Nat} {y1 : Int32} {r : (Int32 × AS)} (h : f_M_points_B32 S x0 x1 x2 x3 y0 y1 = some r) : kr_AW m_M_points 1 32 [(0, va_rf x0), (1, .int x1), (2, .int x2), (3, .int x3)] [.int y1, va_rf y0] S (kr_eI r) := by
  unfold f_M_points_B32 at h
  have h2 := kr_ob h
  clear h
  obtain ⟨⟨⟩, eu5, h⟩ := h2
  have h2 := kr_ob2 h
  clear h
  obtain ⟨v7, S6, eS6, h⟩ := h2
  refine r_callV (M1 := m_M_may) (κ := 23) (As := [.int y1]) eu5 (s_M_may eS6) mok_M_may rfl (by decide) rfl w1703 w1705 w42 (by decide) (kr_c8 kr_c0) d_M_points_32 (kr_k1 ?_) kr_kn
  refine r_if_ne (tgt := 40) d_M_points_35 rfl (fun c => ?_) (fun c => ?_)
  · replace h := kr_ip c h
    refine r_iconst (v := (0 : Int32)) (by decide) d_M_points_38 ?_
    cases h
    exact r_iret rfl d_M_points_39
  · replace h := kr_in_ c h
    refine r_iload_n (i := 3) (x := x3) 3 rfl d_M_points_40 ?_
    refine r_if_eq (tgt := 53) d_M_points_41 rfl (fun c => ?_) (fun c => ?_)
    · replace h := kr_ip c h
      refine r_aload_n (i := 0) (x := x0) 0 rfl d_M_points_53 ?_
      have h2 := kr_ob h
      clear h
      obtain ⟨v8, ev8, h⟩ := h2
      refine r_getR ev8 fk43 rfl d_M_points_54 ?_
      refine r_iload_n (i := 1) (x := x1) 1 rfl d_M_points_57 ?_
      have h2 := kr_ob h
      clear h
      obtain ⟨v9, ev9, h⟩ := h2
      refine r_iaload ev9 d_M_points_58 ?_
      exact kr_sub [0, 1, 2, 3] rfl (s_M_points_B59 h)
    · replace h := kr_in_ c h
      refine r_aload_n (i := 0) (x := x0) 0 rfl d_M_points_44 ?_
      have h2 := kr_ob h
      clear h
      obtain ⟨v10, ev10, h⟩ := h2
      refine r_getR ev10 fk42 rfl d_M_points_45 ?_
      refine r_iload_n (i := 1) (x := x1) 1 rfl d_M_points_48 ?_
      have h2 := kr_ob h
      clear h
      obtain ⟨v11, ev11, h⟩ := h2
      refine r_iaload ev11 d_M_points_49 ?_
      refine r_goto (tgt := 59) d_M_points_50 rfl ?_
      exact kr_sub [0, 1, 2, 3] rfl (s_M_points_B59 h)
set_option maxRecDepth 20000 in
set_option maxHeartbeats 4000000 in
theorem s_M_points_B31 {S : AS} {x0 : Option Nat} {x1 : Int32} {x2 : Int32} {x3 : Int32} {y0 : Option Nat} {r : (Int32 × AS)} (h : f_M_points_B31 S x0 x1 x2 x3 y0 = some r) : kr_AW m_M_points 1 31 [(0, va_rf x0), (1, .int x1), (2, .int x2), (3, .int x3)] [va_rf y0] S (kr_eI r) := by
  unfold f_M_points_B31 at h
  refine r_iconst (v := (0 : Int32)) (by decide) d_M_points_31 ?_
  exact kr_sub [0, 1, 2, 3] rfl (s_M_points_B32 h)
set_option maxRecDepth 20000 in
set_option maxHeartbeats 4000000 in
theorem s_M_points_B20 {S : AS} {x0 : Option Nat} {x1 : Int32} {x2 : Int32} {x3 : Int32} {y0 : Option Nat} {y1 : Int32} {y2 : Int32} {r : (Int32 × AS)} (h : f_M_points_B20 S x0 x1 x2 x3 y0 y1 y2 = some r) : kr_AW m_M_points 1 20 [(0, va_rf x0), (1, .int x1), (2, .int x2), (3, .int x3)] [.int y2, .int y1, va_rf y0] S (kr_eI r) := by
  unfold f_M_points_B20 at h
  refine r_iconst (v := (5 : Int32)) (by decide) d_M_points_20 ?_
  have h2 := kr_ob2 h
  clear h
  obtain ⟨v13, S12, eS12, h⟩ := h2
  refine r_callS (M1 := m_M_isIn) (As := [.int y1, .int y2, .int (5 : Int32)]) (s_M_isIn eS12) mok_M_isIn rfl w1700 w1701 (by decide) (kr_c8 (kr_cR kr_c0)) d_M_points_21 (kr_k1 ?_) kr_kn
  refine r_if_eq (tgt := 31) d_M_points_24 rfl (fun c => ?_) (fun c => ?_)
  · replace h := kr_ip c h
    exact kr_sub [0, 1, 2, 3] rfl (s_M_points_B31 h)
  · replace h := kr_in_ c h
    refine r_iconst (v := (1 : Int32)) (by decide) d_M_points_27 ?_
    refine r_goto (tgt := 32) d_M_points_28 rfl ?_
    exact kr_sub [0, 1, 2, 3] rfl (s_M_points_B32 h)
set_option maxRecDepth 20000 in
set_option maxHeartbeats 4000000 in
theorem s_M_points {S : AS} {a0 : Option Nat} {a1 : Int32} {a2 : Int32} {a3 : Int32} {r : (Int32 × AS)} (h : f_M_points S a0 a1 a2 a3 = some r) : kr_Con m_M_points 1 [va_rf a0, .int a1, .int a2, .int a3] S (kr_eI r) := by
  refine kr_con rfl rfl (by decide +kernel) (by simp [lg_sl, kr_rfcat, kr_icat, m_M_points, mL]) ?_
  rw [show lv_args 0 [va_rf a0, .int a1, .int a2, .int a3] = [(0, va_rf a0), (1, .int a1), (2, .int a2), (3, .int a3)] from by simp [lv_args, kr_rfcat, kr_icat]]
  unfold f_M_points at h
  refine r_aload_n (i := 0) (x := a0) 0 rfl d_M_points_0 ?_
  refine r_iload_n (i := 1) (x := a1) 1 rfl d_M_points_1 ?_
  refine r_iconst (v := (0 : Int32)) (by decide) d_M_points_2 ?_
  refine r_iconst (v := (2 : Int32)) (by decide) d_M_points_3 ?_
  have h2 := kr_ob2 h
  clear h
  obtain ⟨v15, S14, eS14, h⟩ := h2
  refine r_callS (M1 := m_M_isIn) (As := [.int a1, .int (0 : Int32), .int (2 : Int32)]) (s_M_isIn eS14) mok_M_isIn rfl w1700 w1701 (by decide) (kr_c8 (kr_cR kr_c0)) d_M_points_4 (kr_k1 ?_) kr_kn
  refine r_if_eq (tgt := 31) d_M_points_7 rfl (fun c => ?_) (fun c => ?_)
  · replace h := kr_ip c h
    exact kr_sub [0, 1, 2, 3] rfl (s_M_points_B31 h)
  · replace h := kr_in_ c h
    refine r_iload_n (i := 2) (x := a2) 2 rfl d_M_points_10 ?_
    refine r_iload_n (i := 3) (x := a3) 3 rfl d_M_points_11 ?_
    refine r_if_eq (tgt := 19) d_M_points_12 rfl (fun c => ?_) (fun c => ?_)
    · replace h := kr_ip c h
      refine r_iconst (v := (0 : Int32)) (by decide) d_M_points_19 ?_
      exact kr_sub [0, 1, 2, 3] rfl (s_M_points_B20 h)
    · replace h := kr_in_ c h
      refine r_iconst (v := (-1 : Int32)) (by decide) d_M_points_15 ?_
      refine r_goto (tgt := 20) d_M_points_16 rfl ?_
      exact kr_sub [0, 1, 2, 3] rfl (s_M_points_B20 h)
/-! KeyringCourtModel.wrongs(I)I -/
def f_M_wrongs_B35 (k4 : AS → Option Nat → Int32 → Int32 → Int32 → Option (Int32 × AS)) (S : AS) (x0 : Option Nat) (x1 : Int32) (x3 : Int32) (y0 : Int32) (y1 : Int32) : Option (Int32 × AS) :=
  (some (y0 + y1)).bind fun i1 =>
  (some (x3 + (1 : Int32))).bind fun i2 =>
  k4 S x0 x1 i1 i2
def f_M_wrongs_C4 (k4 : AS → Option Nat → Int32 → Int32 → Int32 → Option (Int32 × AS)) (S : AS) (x0 : Option Nat) (x1 : Int32) (x2 : Int32) (x3 : Int32) : Option (Int32 × AS) :=
  if (3 : Int32) ≤ x3 then
  some (x2, S)
  else
  (gI S 23 0 x0).bind fun v3 =>
  (gR S 23 4 x0).bind fun v4 =>
  (aI S 40 v4 (((3 : Int32) * x1) + x3)).bind fun v5 =>
  if (60 : Int32) ≤ (v3 - v5) then
  f_M_wrongs_B35 k4 S x0 x1 x3 x2 (0 : Int32)
  else
  f_M_wrongs_B35 k4 S x0 x1 x3 x2 (1 : Int32)
def f_M_wrongs_L4 : Nat → AS → Option Nat → Int32 → Int32 → Int32 → Option (Int32 × AS)
  | 0, S, x0, x1, x2, x3 => none
  | n + 1, S, x0, x1, x2, x3 => f_M_wrongs_C4 (f_M_wrongs_L4 n) S x0 x1 x2 x3
def f_M_wrongs (S : AS) (a0 : Option Nat) (a1 : Int32) : Option (Int32 × AS) :=
  f_M_wrongs_L4 kr_FU S a0 a1 (0 : Int32) (0 : Int32)
set_option maxRecDepth 20000 in
set_option maxHeartbeats 4000000 in
theorem s_M_wrongs_B35 {k4 : AS → Option Nat → Int32 → Int32 → Int32 → Option (Int32 × AS)} (hk4 : ∀ {S : AS} {x0 : Option Nat} {x1 : Int32} {x2 : Int32} {x3 : Int32} {r : (Int32 × AS)}, k4 S x0 x1 x2 x3 = some r → kr_AW m_M_wrongs 0 4 [(0, va_rf x0), (1, .int x1), (2, .int x2), (3, .int x3)] [] S (kr_eI r)) {S : AS} {x0 : Option Nat} {x1 : Int32} {x3 : Int32} {y0 : Int32} {y1 : Int32} {r : (Int32 × AS)} (h : f_M_wrongs_B35 k4 S x0 x1 x3 y0 y1 = some r) : kr_AW m_M_wrongs 0 35 [(0, va_rf x0), (1, .int x1), (3, .int x3)] [.int y1, .int y0] S (kr_eI r) := by
  unfold f_M_wrongs_B35 at h
  refine r_iadd d_M_wrongs_35 ?_
  have h2 := kr_ob h
  clear h
  obtain ⟨i1, ei1, h⟩ := h2
  refine kr_nmI ei1 ?_
  refine r_istore_n (i := 2) (lv' := [(2, .int i1), (0, va_rf x0), (1, .int x1), (3, .int x3)]) (by decide) rfl d_M_wrongs_36 ?_
  have h2 := kr_ob h
  clear h
  obtain ⟨i2, ei2, h⟩ := h2
  refine r_iinc (v := i2) (lv' := [(3, .int i2), (2, .int i1), (0, va_rf x0), (1, .int x1)]) 3 rfl (kr_inc (by decide) ei2) (by decide) rfl d_M_wrongs_37 ?_
  refine r_goto (tgt := 4) d_M_wrongs_40 rfl ?_
  exact kr_sub [2, 3, 1, 0] rfl (hk4 h)
set_option maxRecDepth 20000 in
set_option maxHeartbeats 4000000 in
theorem s_M_wrongs_C4 {k4 : AS → Option Nat → Int32 → Int32 → Int32 → Option (Int32 × AS)} (hk4 : ∀ {S : AS} {x0 : Option Nat} {x1 : Int32} {x2 : Int32} {x3 : Int32} {r : (Int32 × AS)}, k4 S x0 x1 x2 x3 = some r → kr_AW m_M_wrongs 0 4 [(0, va_rf x0), (1, .int x1), (2, .int x2), (3, .int x3)] [] S (kr_eI r)) {S : AS} {x0 : Option Nat} {x1 : Int32} {x2 : Int32} {x3 : Int32} {r : (Int32 × AS)} (h : f_M_wrongs_C4 k4 S x0 x1 x2 x3 = some r) : kr_AW m_M_wrongs 0 4 [(0, va_rf x0), (1, .int x1), (2, .int x2), (3, .int x3)] [] S (kr_eI r) := by
  unfold f_M_wrongs_C4 at h
  refine r_iload_n (i := 3) (x := x3) 3 rfl d_M_wrongs_4 ?_
  refine r_iconst (v := (3 : Int32)) (by decide) d_M_wrongs_5 ?_
  refine r_icmp_ge (tgt := 43) d_M_wrongs_6 rfl (fun c => ?_) (fun c => ?_)
  · replace h := kr_ip c h
    refine r_iload_n (i := 2) (x := x2) 2 rfl d_M_wrongs_43 ?_
    cases h
    exact r_iret rfl d_M_wrongs_44
  · replace h := kr_in_ c h
    refine r_iload_n (i := 2) (x := x2) 2 rfl d_M_wrongs_9 ?_
    refine r_aload_n (i := 0) (x := x0) 0 rfl d_M_wrongs_10 ?_
    have h2 := kr_ob h
    clear h
    obtain ⟨v3, ev3, h⟩ := h2
    refine r_getI ev3 fk130 rfl d_M_wrongs_11 ?_
    refine r_aload_n (i := 0) (x := x0) 0 rfl d_M_wrongs_14 ?_
    have h2 := kr_ob h
    clear h
    obtain ⟨v4, ev4, h⟩ := h2
    refine r_getR ev4 fk44 rfl d_M_wrongs_15 ?_
    refine r_iconst (v := (3 : Int32)) (by decide) d_M_wrongs_18 ?_
    refine r_iload_n (i := 1) (x := x1) 1 rfl d_M_wrongs_19 ?_
    refine r_imul d_M_wrongs_20 ?_
    refine r_iload_n (i := 3) (x := x3) 3 rfl d_M_wrongs_21 ?_
    refine r_iadd d_M_wrongs_22 ?_
    have h2 := kr_ob h
    clear h
    obtain ⟨v5, ev5, h⟩ := h2
    refine r_iaload ev5 d_M_wrongs_23 ?_
    refine r_isub d_M_wrongs_24 ?_
    refine r_bipush (v := (60 : Int32)) (by decide) d_M_wrongs_25 ?_
    refine r_icmp_ge (tgt := 34) d_M_wrongs_27 rfl (fun c => ?_) (fun c => ?_)
    · replace h := kr_ip c h
      refine r_iconst (v := (0 : Int32)) (by decide) d_M_wrongs_34 ?_
      exact kr_sub [0, 1, 3] rfl (s_M_wrongs_B35 hk4 h)
    · replace h := kr_in_ c h
      refine r_iconst (v := (1 : Int32)) (by decide) d_M_wrongs_30 ?_
      refine r_goto (tgt := 35) d_M_wrongs_31 rfl ?_
      exact kr_sub [0, 1, 3] rfl (s_M_wrongs_B35 hk4 h)
theorem s_M_wrongs_L4 (n : Nat) : ∀ {S : AS} {x0 : Option Nat} {x1 : Int32} {x2 : Int32} {x3 : Int32} {r : (Int32 × AS)}, f_M_wrongs_L4 n S x0 x1 x2 x3 = some r → kr_AW m_M_wrongs 0 4 [(0, va_rf x0), (1, .int x1), (2, .int x2), (3, .int x3)] [] S (kr_eI r) := by
  induction n with
  | zero => intro S x0 x1 x2 x3 r h; cases h
  | succ n ih => intro S x0 x1 x2 x3 r h; exact s_M_wrongs_C4 (fun {_} {_} {_} {_} {_} {_} h => ih h) h
set_option maxRecDepth 20000 in
set_option maxHeartbeats 4000000 in
theorem s_M_wrongs {S : AS} {a0 : Option Nat} {a1 : Int32} {r : (Int32 × AS)} (h : f_M_wrongs S a0 a1 = some r) : kr_Con m_M_wrongs 0 [va_rf a0, .int a1] S (kr_eI r) := by
  refine kr_con rfl rfl (by decide +kernel) (by simp [lg_sl, kr_rfcat, kr_icat, m_M_wrongs, mL]) ?_
  rw [show lv_args 0 [va_rf a0, .int a1] = [(0, va_rf a0), (1, .int a1)] from by simp [lv_args, kr_rfcat, kr_icat]]
  unfold f_M_wrongs at h
  refine r_iconst (v := (0 : Int32)) (by decide) d_M_wrongs_0 ?_
  refine r_istore_n (i := 2) (lv' := [(2, .int (0 : Int32)), (0, va_rf a0), (1, .int a1)]) (by decide) rfl d_M_wrongs_1 ?_
  refine r_iconst (v := (0 : Int32)) (by decide) d_M_wrongs_2 ?_
  refine r_istore_n (i := 3) (lv' := [(3, .int (0 : Int32)), (2, .int (0 : Int32)), (0, va_rf a0), (1, .int a1)]) (by decide) rfl d_M_wrongs_3 ?_
  exact kr_sub [2, 3, 1, 0] rfl (s_M_wrongs_L4 kr_FU h)
/-! KeyringCourtModel.pointsOf(IZ)I -/
def f_M_pointsOf_B23 (S : AS) (x0 : Option Nat) (x1 : Int32) : Option (Int32 × AS) :=
  (gR S 23 17 x0).bind fun v1 =>
  (aI S 40 v1 x1).bind fun v2 =>
  some (v2, S)
def f_M_pointsOf (S : AS) (a0 : Option Nat) (a1 : Int32) (a2 : Int32) : Option (Int32 × AS) :=
  if a2 = 0 then
  f_M_pointsOf_B23 S a0 a1
  else
  (gR S 23 18 a0).bind fun v3 =>
  (aI S 40 v3 a1).bind fun v4 =>
  if v4 = (-1 : Int32) then
  f_M_pointsOf_B23 S a0 a1
  else
  (gR S 23 18 a0).bind fun v5 =>
  (aI S 40 v5 a1).bind fun v6 =>
  some (v6, S)
set_option maxRecDepth 20000 in
set_option maxHeartbeats 4000000 in
theorem s_M_pointsOf_B23 {S : AS} {x0 : Option Nat} {x1 : Int32} {r : (Int32 × AS)} (h : f_M_pointsOf_B23 S x0 x1 = some r) : kr_AW m_M_pointsOf 0 23 [(0, va_rf x0), (1, .int x1)] [] S (kr_eI r) := by
  unfold f_M_pointsOf_B23 at h
  refine r_aload_n (i := 0) (x := x0) 0 rfl d_M_pointsOf_23 ?_
  have h2 := kr_ob h
  clear h
  obtain ⟨v1, ev1, h⟩ := h2
  refine r_getR ev1 fk43 rfl d_M_pointsOf_24 ?_
  refine r_iload_n (i := 1) (x := x1) 1 rfl d_M_pointsOf_27 ?_
  have h2 := kr_ob h
  clear h
  obtain ⟨v2, ev2, h⟩ := h2
  refine r_iaload ev2 d_M_pointsOf_28 ?_
  cases h
  exact r_iret rfl d_M_pointsOf_29
set_option maxRecDepth 20000 in
set_option maxHeartbeats 4000000 in
theorem s_M_pointsOf {S : AS} {a0 : Option Nat} {a1 : Int32} {a2 : Int32} {r : (Int32 × AS)} (h : f_M_pointsOf S a0 a1 a2 = some r) : kr_Con m_M_pointsOf 0 [va_rf a0, .int a1, .int a2] S (kr_eI r) := by
  refine kr_con rfl rfl (by decide +kernel) (by simp [lg_sl, kr_rfcat, kr_icat, m_M_pointsOf, mL]) ?_
  rw [show lv_args 0 [va_rf a0, .int a1, .int a2] = [(0, va_rf a0), (1, .int a1), (2, .int a2)] from by simp [lv_args, kr_rfcat, kr_icat]]
  unfold f_M_pointsOf at h
  refine r_iload_n (i := 2) (x := a2) 2 rfl d_M_pointsOf_0 ?_
  refine r_if_eq (tgt := 23) d_M_pointsOf_1 rfl (fun c => ?_) (fun c => ?_)
  · replace h := kr_ip c h
    exact kr_sub [0, 1] rfl (s_M_pointsOf_B23 h)
  · replace h := kr_in_ c h
    refine r_aload_n (i := 0) (x := a0) 0 rfl d_M_pointsOf_4 ?_
    have h2 := kr_ob h
    clear h
    obtain ⟨v3, ev3, h⟩ := h2
    refine r_getR ev3 fk42 rfl d_M_pointsOf_5 ?_
    refine r_iload_n (i := 1) (x := a1) 1 rfl d_M_pointsOf_8 ?_
    have h2 := kr_ob h
    clear h
    obtain ⟨v4, ev4, h⟩ := h2
    refine r_iaload ev4 d_M_pointsOf_9 ?_
    refine r_iconst (v := (-1 : Int32)) (by decide) d_M_pointsOf_10 ?_
    refine r_icmp_eq (tgt := 23) d_M_pointsOf_11 rfl (fun c => ?_) (fun c => ?_)
    · replace h := kr_ip c h
      exact kr_sub [0, 1] rfl (s_M_pointsOf_B23 h)
    · replace h := kr_in_ c h
      refine r_aload_n (i := 0) (x := a0) 0 rfl d_M_pointsOf_14 ?_
      have h2 := kr_ob h
      clear h
      obtain ⟨v5, ev5, h⟩ := h2
      refine r_getR ev5 fk42 rfl d_M_pointsOf_15 ?_
      refine r_iload_n (i := 1) (x := a1) 1 rfl d_M_pointsOf_18 ?_
      have h2 := kr_ob h
      clear h
      obtain ⟨v6, ev6, h⟩ := h2
      refine r_iaload ev6 d_M_pointsOf_19 ?_
      refine r_goto (tgt := 29) d_M_pointsOf_20 rfl ?_
      cases h
      exact r_iret rfl d_M_pointsOf_29
/-! KeyringCourtModel.riskOf(IZ)I -/
def f_M_riskOf_B52 (S : AS) (x0 : Option Nat) (x1 : Int32) (x2 : Int32) (x3 : Int32) (y0 : Int32) (y1 : Int32) : Option (Int32 × AS) :=
  (some (y0 + y1)).bind fun i1 =>
  (gR S 23 6 x0).bind fun v2 =>
  (gR S 23 22 x0).bind fun v3 =>
  (aI S 40 v3 x1).bind fun v4 =>
  (aI S 41 v2 (((6 : Int32) * x3) + v4)).bind fun v5 =>
  if v5 = 0 then
  (kr_rv S 23 x0).bind fun u6 =>
  kr_b2 (f_M_pointsOf S x0 (1 : Int32) x2) fun v8 S7 =>
  some (i1 + v8, S7)
  else
  some (i1 + (0 : Int32), S)
def f_M_riskOf (S : AS) (a0 : Option Nat) (a1 : Int32) (a2 : Int32) : Option (Int32 × AS) :=
  (gR S 23 20 a0).bind fun v9 =>
  (aI S 40 v9 a1).bind fun v10 =>
  (kr_rv S 23 a0).bind fun u11 =>
  kr_b2 (f_M_wrongs S a0 v10) fun v13 S12 =>
  (kr_rv S12 23 a0).bind fun u14 =>
  kr_b2 (f_M_pointsOf S12 a0 (2 : Int32) a2) fun v16 S15 =>
  (some (v13 * v16)).bind fun i17 =>
  (gR S15 23 5 a0).bind fun v18 =>
  (gR S15 23 21 a0).bind fun v19 =>
  (aI S15 40 v19 a1).bind fun v20 =>
  (aI S15 41 v18 (((6 : Int32) * v10) + v20)).bind fun v21 =>
  if v21 = 0 then
  (kr_rv S15 23 a0).bind fun u22 =>
  kr_b2 (f_M_pointsOf S15 a0 (0 : Int32) a2) fun v24 S23 =>
  f_M_riskOf_B52 S23 a0 a1 a2 v10 i17 v24
  else
  f_M_riskOf_B52 S15 a0 a1 a2 v10 i17 (0 : Int32)
set_option maxRecDepth 20000 in
set_option maxHeartbeats 4000000 in
theorem s_M_riskOf_B52 {S : AS} {x0 : Option Nat} {x1 : Int32} {x2 : Int32} {x3 : Int32} {y0 : Int32} {y1 : Int32} {r : (Int32 × AS)} (h : f_M_riskOf_B52 S x0 x1 x2 x3 y0 y1 = some r) : kr_AW m_M_riskOf 1 52 [(0, va_rf x0), (1, .int x1), (2, .int x2), (3, .int x3)] [.int y1, .int y0] S (kr_eI r) := by
  unfold f_M_riskOf_B52 at h
  refine r_iadd d_M_riskOf_52 ?_
  have h2 := kr_ob h
  clear h
  obtain ⟨i1, ei1, h⟩ := h2
  refine kr_nmI ei1 ?_
  refine r_istore (i := 4) (lv' := [(4, .int i1), (0, va_rf x0), (1, .int x1), (2, .int x2), (3, .int x3)]) (by decide) rfl d_M_riskOf_53 ?_
  refine r_iload (i := 4) (x := i1) 0 rfl d_M_riskOf_55 ?_
  refine r_aload_n (i := 0) (x := x0) 1 rfl d_M_riskOf_57 ?_
  have h2 := kr_ob h
  clear h
  obtain ⟨v2, ev2, h⟩ := h2
  refine r_getR ev2 fk49 rfl d_M_riskOf_58 ?_
  refine r_bipush (v := (6 : Int32)) (by decide) d_M_riskOf_61 ?_
  refine r_iload_n (i := 3) (x := x3) 4 rfl d_M_riskOf_63 ?_
  refine r_imul d_M_riskOf_64 ?_
  refine r_aload_n (i := 0) (x := x0) 1 rfl d_M_riskOf_65 ?_
  have h2 := kr_ob h
  clear h
  obtain ⟨v3, ev3, h⟩ := h2
  refine r_getR ev3 fk61 rfl d_M_riskOf_66 ?_
  refine r_iload_n (i := 1) (x := x1) 2 rfl d_M_riskOf_69 ?_
  have h2 := kr_ob h
  clear h
  obtain ⟨v4, ev4, h⟩ := h2
  refine r_iaload ev4 d_M_riskOf_70 ?_
  refine r_iadd d_M_riskOf_71 ?_
  have h2 := kr_ob h
  clear h
  obtain ⟨v5, ev5, h⟩ := h2
  refine r_baload ev5 d_M_riskOf_72 ?_
  refine r_if_eq (tgt := 80) d_M_riskOf_73 rfl (fun c => ?_) (fun c => ?_)
  · replace h := kr_ip c h
    refine r_aload_n (i := 0) (x := x0) 1 rfl d_M_riskOf_80 ?_
    refine r_iconst (v := (1 : Int32)) (by decide) d_M_riskOf_81 ?_
    refine r_iload_n (i := 2) (x := x2) 3 rfl d_M_riskOf_82 ?_
    have h2 := kr_ob h
    clear h
    obtain ⟨⟨⟩, eu6, h⟩ := h2
    have h2 := kr_ob2 h
    clear h
    obtain ⟨v8, S7, eS7, h⟩ := h2
    refine r_callV (M1 := m_M_pointsOf) (κ := 23) (As := [.int (1 : Int32), .int x2]) eu6 (s_M_pointsOf eS7) mok_M_pointsOf rfl (by decide) rfl w1819 w1821 w56 (by decide) (kr_c8 (kr_cI kr_c0)) d_M_riskOf_83 (kr_k1 ?_) kr_kn
    refine r_iadd d_M_riskOf_86 ?_
    cases h
    exact r_iret rfl d_M_riskOf_87
  · replace h := kr_in_ c h
    refine r_iconst (v := (0 : Int32)) (by decide) d_M_riskOf_76 ?_
    refine r_goto (tgt := 86) d_M_riskOf_77 rfl ?_
    refine r_iadd d_M_riskOf_86 ?_
    cases h
    exact r_iret rfl d_M_riskOf_87
set_option maxRecDepth 20000 in
set_option maxHeartbeats 4000000 in
theorem s_M_riskOf {S : AS} {a0 : Option Nat} {a1 : Int32} {a2 : Int32} {r : (Int32 × AS)} (h : f_M_riskOf S a0 a1 a2 = some r) : kr_Con m_M_riskOf 1 [va_rf a0, .int a1, .int a2] S (kr_eI r) := by
  refine kr_con rfl rfl (by decide +kernel) (by simp [lg_sl, kr_rfcat, kr_icat, m_M_riskOf, mL]) ?_
  rw [show lv_args 0 [va_rf a0, .int a1, .int a2] = [(0, va_rf a0), (1, .int a1), (2, .int a2)] from by simp [lv_args, kr_rfcat, kr_icat]]
  unfold f_M_riskOf at h
  refine r_aload_n (i := 0) (x := a0) 0 rfl d_M_riskOf_0 ?_
  have h2 := kr_ob h
  clear h
  obtain ⟨v9, ev9, h⟩ := h2
  refine r_getR ev9 fk59 rfl d_M_riskOf_1 ?_
  refine r_iload_n (i := 1) (x := a1) 1 rfl d_M_riskOf_4 ?_
  have h2 := kr_ob h
  clear h
  obtain ⟨v10, ev10, h⟩ := h2
  refine r_iaload ev10 d_M_riskOf_5 ?_
  refine r_istore_n (i := 3) (lv' := [(3, .int v10), (0, va_rf a0), (1, .int a1), (2, .int a2)]) (by decide) rfl d_M_riskOf_6 ?_
  refine r_aload_n (i := 0) (x := a0) 1 rfl d_M_riskOf_7 ?_
  refine r_iload_n (i := 3) (x := v10) 0 rfl d_M_riskOf_8 ?_
  have h2 := kr_ob h
  clear h
  obtain ⟨⟨⟩, eu11, h⟩ := h2
  have h2 := kr_ob2 h
  clear h
  obtain ⟨v13, S12, eS12, h⟩ := h2
  refine r_callV (M1 := m_M_wrongs) (κ := 23) (As := [.int v10]) eu11 (s_M_wrongs eS12) mok_M_wrongs rfl (by decide) rfl w1815 w1817 w55 (by decide) (kr_c8 kr_c0) d_M_riskOf_9 (kr_k1 ?_) kr_kn
  refine r_aload_n (i := 0) (x := a0) 1 rfl d_M_riskOf_12 ?_
  refine r_iconst (v := (2 : Int32)) (by decide) d_M_riskOf_13 ?_
  refine r_iload_n (i := 2) (x := a2) 3 rfl d_M_riskOf_14 ?_
  have h2 := kr_ob h
  clear h
  obtain ⟨⟨⟩, eu14, h⟩ := h2
  have h2 := kr_ob2 h
  clear h
  obtain ⟨v16, S15, eS15, h⟩ := h2
  refine r_callV (M1 := m_M_pointsOf) (κ := 23) (As := [.int (2 : Int32), .int a2]) eu14 (s_M_pointsOf eS15) mok_M_pointsOf rfl (by decide) rfl w1819 w1821 w56 (by decide) (kr_c8 (kr_cI kr_c0)) d_M_riskOf_15 (kr_k1 ?_) kr_kn
  refine r_imul d_M_riskOf_18 ?_
  have h2 := kr_ob h
  clear h
  obtain ⟨i17, ei17, h⟩ := h2
  refine kr_nmI ei17 ?_
  refine r_istore (i := 4) (lv' := [(4, .int i17), (3, .int v10), (0, va_rf a0), (1, .int a1), (2, .int a2)]) (by decide) rfl d_M_riskOf_19 ?_
  refine r_iload (i := 4) (x := i17) 0 rfl d_M_riskOf_21 ?_
  refine r_aload_n (i := 0) (x := a0) 2 rfl d_M_riskOf_23 ?_
  have h2 := kr_ob h
  clear h
  obtain ⟨v18, ev18, h⟩ := h2
  refine r_getR ev18 fk48 rfl d_M_riskOf_24 ?_
  refine r_bipush (v := (6 : Int32)) (by decide) d_M_riskOf_27 ?_
  refine r_iload_n (i := 3) (x := v10) 1 rfl d_M_riskOf_29 ?_
  refine r_imul d_M_riskOf_30 ?_
  refine r_aload_n (i := 0) (x := a0) 2 rfl d_M_riskOf_31 ?_
  have h2 := kr_ob h
  clear h
  obtain ⟨v19, ev19, h⟩ := h2
  refine r_getR ev19 fk60 rfl d_M_riskOf_32 ?_
  refine r_iload_n (i := 1) (x := a1) 3 rfl d_M_riskOf_35 ?_
  have h2 := kr_ob h
  clear h
  obtain ⟨v20, ev20, h⟩ := h2
  refine r_iaload ev20 d_M_riskOf_36 ?_
  refine r_iadd d_M_riskOf_37 ?_
  have h2 := kr_ob h
  clear h
  obtain ⟨v21, ev21, h⟩ := h2
  refine r_baload ev21 d_M_riskOf_38 ?_
  refine r_if_eq (tgt := 46) d_M_riskOf_39 rfl (fun c => ?_) (fun c => ?_)
  · replace h := kr_ip c h
    refine r_aload_n (i := 0) (x := a0) 2 rfl d_M_riskOf_46 ?_
    refine r_iconst (v := (0 : Int32)) (by decide) d_M_riskOf_47 ?_
    refine r_iload_n (i := 2) (x := a2) 4 rfl d_M_riskOf_48 ?_
    have h2 := kr_ob h
    clear h
    obtain ⟨⟨⟩, eu22, h⟩ := h2
    have h2 := kr_ob2 h
    clear h
    obtain ⟨v24, S23, eS23, h⟩ := h2
    refine r_callV (M1 := m_M_pointsOf) (κ := 23) (As := [.int (0 : Int32), .int a2]) eu22 (s_M_pointsOf eS23) mok_M_pointsOf rfl (by decide) rfl w1819 w1821 w56 (by decide) (kr_c8 (kr_cI kr_c0)) d_M_riskOf_49 (kr_k1 ?_) kr_kn
    exact kr_sub [2, 3, 4, 1] rfl (s_M_riskOf_B52 h)
  · replace h := kr_in_ c h
    refine r_iconst (v := (0 : Int32)) (by decide) d_M_riskOf_42 ?_
    refine r_goto (tgt := 52) d_M_riskOf_43 rfl ?_
    exact kr_sub [2, 3, 4, 1] rfl (s_M_riskOf_B52 h)
/-! KeyringCourtModel.shownIn(I)I -/
def f_M_shownIn_B31 (k4 : AS → Option Nat → Int32 → Int32 → Int32 → Option (Int32 × AS)) (S : AS) (x0 : Option Nat) (x1 : Int32) (x3 : Int32) (y0 : Int32) (y1 : Int32) : Option (Int32 × AS) :=
  (some (y0 ||| y1)).bind fun i1 =>
  (some (x3 + (1 : Int32))).bind fun i2 =>
  k4 S x0 x1 i1 i2
def f_M_shownIn_C4 (k4 : AS → Option Nat → Int32 → Int32 → Int32 → Option (Int32 × AS)) (S : AS) (x0 : Option Nat) (x1 : Int32) (x2 : Int32) (x3 : Int32) : Option (Int32 × AS) :=
  if (3 : Int32) ≤ x3 then
  some (x2, S)
  else
  (gR S 23 29 x0).bind fun v3 =>
  (aI S 40 v3 (((3 : Int32) * x1) + x3)).bind fun v4 =>
  if v4 = (-1 : Int32) then
  f_M_shownIn_B31 k4 S x0 x1 x3 x2 (0 : Int32)
  else
  f_M_shownIn_B31 k4 S x0 x1 x3 x2 ((1 : Int32) <<< (x3 &&& 31))
def f_M_shownIn_L4 : Nat → AS → Option Nat → Int32 → Int32 → Int32 → Option (Int32 × AS)
  | 0, S, x0, x1, x2, x3 => none
  | n + 1, S, x0, x1, x2, x3 => f_M_shownIn_C4 (f_M_shownIn_L4 n) S x0 x1 x2 x3
def f_M_shownIn (S : AS) (a0 : Option Nat) (a1 : Int32) : Option (Int32 × AS) :=
  f_M_shownIn_L4 kr_FU S a0 a1 (0 : Int32) (0 : Int32)
set_option maxRecDepth 20000 in
set_option maxHeartbeats 4000000 in
theorem s_M_shownIn_B31 {k4 : AS → Option Nat → Int32 → Int32 → Int32 → Option (Int32 × AS)} (hk4 : ∀ {S : AS} {x0 : Option Nat} {x1 : Int32} {x2 : Int32} {x3 : Int32} {r : (Int32 × AS)}, k4 S x0 x1 x2 x3 = some r → kr_AW m_M_shownIn 0 4 [(0, va_rf x0), (1, .int x1), (2, .int x2), (3, .int x3)] [] S (kr_eI r)) {S : AS} {x0 : Option Nat} {x1 : Int32} {x3 : Int32} {y0 : Int32} {y1 : Int32} {r : (Int32 × AS)} (h : f_M_shownIn_B31 k4 S x0 x1 x3 y0 y1 = some r) : kr_AW m_M_shownIn 0 31 [(0, va_rf x0), (1, .int x1), (3, .int x3)] [.int y1, .int y0] S (kr_eI r) := by
  unfold f_M_shownIn_B31 at h
  refine r_ior d_M_shownIn_31 ?_
  have h2 := kr_ob h
  clear h
  obtain ⟨i1, ei1, h⟩ := h2
  refine kr_nmI ei1 ?_
  refine r_istore_n (i := 2) (lv' := [(2, .int i1), (0, va_rf x0), (1, .int x1), (3, .int x3)]) (by decide) rfl d_M_shownIn_32 ?_
  have h2 := kr_ob h
  clear h
  obtain ⟨i2, ei2, h⟩ := h2
  refine r_iinc (v := i2) (lv' := [(3, .int i2), (2, .int i1), (0, va_rf x0), (1, .int x1)]) 3 rfl (kr_inc (by decide) ei2) (by decide) rfl d_M_shownIn_33 ?_
  refine r_goto (tgt := 4) d_M_shownIn_36 rfl ?_
  exact kr_sub [2, 3, 1, 0] rfl (hk4 h)
set_option maxRecDepth 20000 in
set_option maxHeartbeats 4000000 in
theorem s_M_shownIn_C4 {k4 : AS → Option Nat → Int32 → Int32 → Int32 → Option (Int32 × AS)} (hk4 : ∀ {S : AS} {x0 : Option Nat} {x1 : Int32} {x2 : Int32} {x3 : Int32} {r : (Int32 × AS)}, k4 S x0 x1 x2 x3 = some r → kr_AW m_M_shownIn 0 4 [(0, va_rf x0), (1, .int x1), (2, .int x2), (3, .int x3)] [] S (kr_eI r)) {S : AS} {x0 : Option Nat} {x1 : Int32} {x2 : Int32} {x3 : Int32} {r : (Int32 × AS)} (h : f_M_shownIn_C4 k4 S x0 x1 x2 x3 = some r) : kr_AW m_M_shownIn 0 4 [(0, va_rf x0), (1, .int x1), (2, .int x2), (3, .int x3)] [] S (kr_eI r) := by
  unfold f_M_shownIn_C4 at h
  refine r_iload_n (i := 3) (x := x3) 3 rfl d_M_shownIn_4 ?_
  refine r_iconst (v := (3 : Int32)) (by decide) d_M_shownIn_5 ?_
  refine r_icmp_ge (tgt := 39) d_M_shownIn_6 rfl (fun c => ?_) (fun c => ?_)
  · replace h := kr_ip c h
    refine r_iload_n (i := 2) (x := x2) 2 rfl d_M_shownIn_39 ?_
    cases h
    exact r_iret rfl d_M_shownIn_40
  · replace h := kr_in_ c h
    refine r_iload_n (i := 2) (x := x2) 2 rfl d_M_shownIn_9 ?_
    refine r_aload_n (i := 0) (x := x0) 0 rfl d_M_shownIn_10 ?_
    have h2 := kr_ob h
    clear h
    obtain ⟨v3, ev3, h⟩ := h2
    refine r_getR ev3 fk68 rfl d_M_shownIn_11 ?_
    refine r_iconst (v := (3 : Int32)) (by decide) d_M_shownIn_14 ?_
    refine r_iload_n (i := 1) (x := x1) 1 rfl d_M_shownIn_15 ?_
    refine r_imul d_M_shownIn_16 ?_
    refine r_iload_n (i := 3) (x := x3) 3 rfl d_M_shownIn_17 ?_
    refine r_iadd d_M_shownIn_18 ?_
    have h2 := kr_ob h
    clear h
    obtain ⟨v4, ev4, h⟩ := h2
    refine r_iaload ev4 d_M_shownIn_19 ?_
    refine r_iconst (v := (-1 : Int32)) (by decide) d_M_shownIn_20 ?_
    refine r_icmp_eq (tgt := 30) d_M_shownIn_21 rfl (fun c => ?_) (fun c => ?_)
    · replace h := kr_ip c h
      refine r_iconst (v := (0 : Int32)) (by decide) d_M_shownIn_30 ?_
      exact kr_sub [0, 1, 3] rfl (s_M_shownIn_B31 hk4 h)
    · replace h := kr_in_ c h
      refine r_iconst (v := (1 : Int32)) (by decide) d_M_shownIn_24 ?_
      refine r_iload_n (i := 3) (x := x3) 3 rfl d_M_shownIn_25 ?_
      refine r_ishl d_M_shownIn_26 ?_
      refine r_goto (tgt := 31) d_M_shownIn_27 rfl ?_
      exact kr_sub [0, 1, 3] rfl (s_M_shownIn_B31 hk4 h)
theorem s_M_shownIn_L4 (n : Nat) : ∀ {S : AS} {x0 : Option Nat} {x1 : Int32} {x2 : Int32} {x3 : Int32} {r : (Int32 × AS)}, f_M_shownIn_L4 n S x0 x1 x2 x3 = some r → kr_AW m_M_shownIn 0 4 [(0, va_rf x0), (1, .int x1), (2, .int x2), (3, .int x3)] [] S (kr_eI r) := by
  induction n with
  | zero => intro S x0 x1 x2 x3 r h; cases h
  | succ n ih => intro S x0 x1 x2 x3 r h; exact s_M_shownIn_C4 (fun {_} {_} {_} {_} {_} {_} h => ih h) h
set_option maxRecDepth 20000 in
set_option maxHeartbeats 4000000 in
theorem s_M_shownIn {S : AS} {a0 : Option Nat} {a1 : Int32} {r : (Int32 × AS)} (h : f_M_shownIn S a0 a1 = some r) : kr_Con m_M_shownIn 0 [va_rf a0, .int a1] S (kr_eI r) := by
  refine kr_con rfl rfl (by decide +kernel) (by simp [lg_sl, kr_rfcat, kr_icat, m_M_shownIn, mL]) ?_
  rw [show lv_args 0 [va_rf a0, .int a1] = [(0, va_rf a0), (1, .int a1)] from by simp [lv_args, kr_rfcat, kr_icat]]
  unfold f_M_shownIn at h
  refine r_iconst (v := (0 : Int32)) (by decide) d_M_shownIn_0 ?_
  refine r_istore_n (i := 2) (lv' := [(2, .int (0 : Int32)), (0, va_rf a0), (1, .int a1)]) (by decide) rfl d_M_shownIn_1 ?_
  refine r_iconst (v := (0 : Int32)) (by decide) d_M_shownIn_2 ?_
  refine r_istore_n (i := 3) (lv' := [(3, .int (0 : Int32)), (2, .int (0 : Int32)), (0, va_rf a0), (1, .int a1)]) (by decide) rfl d_M_shownIn_3 ?_
  exact kr_sub [2, 3, 1, 0] rfl (s_M_shownIn_L4 kr_FU h)
/-! KeyringCourtModel.holds(II)Z -/
def f_M_holds (S : AS) (a0 : Option Nat) (a1 : Int32) (a2 : Int32) : Option (Int32 × AS) :=
  (gR S 23 20 a0).bind fun v1 =>
  (aI S 40 v1 a1).bind fun v2 =>
  (gR S 23 11 a0).bind fun v3 =>
  (aI S 40 v3 a2).bind fun v4 =>
  if v4 = (1 : Int32) then
  (gR S 23 5 a0).bind fun v5 =>
  (gR S 23 21 a0).bind fun v6 =>
  (aI S 40 v6 a1).bind fun v7 =>
  (aI S 41 v5 (((6 : Int32) * v2) + v7)).bind fun v8 =>
  (kr_z v8).bind fun u9 =>
  some (v8, S)
  else
  (gR S 23 11 a0).bind fun v10 =>
  (aI S 40 v10 a2).bind fun v11 =>
  if v11 = (2 : Int32) then
  (kr_rv S 23 a0).bind fun u12 =>
  kr_b2 (f_M_riskOf S a0 a1 (0 : Int32)) fun v14 S13 =>
  (gR S13 23 12 a0).bind fun v15 =>
  (aI S13 40 v15 a2).bind fun v16 =>
  if v14 < v16 then
  some ((0 : Int32), S13)
  else
  some ((1 : Int32), S13)
  else
  (gR S 23 11 a0).bind fun v17 =>
  (aI S 40 v17 a2).bind fun v18 =>
  if v18 = (3 : Int32) then
  (gR S 23 1 a0).bind fun v19 =>
  (gR S 23 12 a0).bind fun v20 =>
  (aI S 40 v20 a2).bind fun v21 =>
  (aI S 40 v19 (((3 : Int32) * v2) + v21)).bind fun v22 =>
  if v22 = (1 : Int32) then
  some ((1 : Int32), S)
  else
  some ((0 : Int32), S)
  else
  (kr_rv S 23 a0).bind fun u23 =>
  kr_b2 (f_M_shownIn S a0 a1) fun v25 S24 =>
  kr_b2 (f_M_levelOf S24 v25) fun v27 S26 =>
  (gR S26 23 12 a0).bind fun v28 =>
  (aI S26 40 v28 a2).bind fun v29 =>
  if v27 < v29 then
  some ((0 : Int32), S26)
  else
  some ((1 : Int32), S26)
set_option maxRecDepth 20000 in
set_option maxHeartbeats 4000000 in
theorem s_M_holds {S : AS} {a0 : Option Nat} {a1 : Int32} {a2 : Int32} {r : (Int32 × AS)} (h : f_M_holds S a0 a1 a2 = some r) : kr_Con m_M_holds 2 [va_rf a0, .int a1, .int a2] S (kr_eI r) := by
  refine kr_con rfl rfl (by decide +kernel) (by simp [lg_sl, kr_rfcat, kr_icat, m_M_holds, mL]) ?_
  rw [show lv_args 0 [va_rf a0, .int a1, .int a2] = [(0, va_rf a0), (1, .int a1), (2, .int a2)] from by simp [lv_args, kr_rfcat, kr_icat]]
  unfold f_M_holds at h
  refine r_aload_n (i := 0) (x := a0) 0 rfl d_M_holds_0 ?_
  have h2 := kr_ob h
  clear h
  obtain ⟨v1, ev1, h⟩ := h2
  refine r_getR ev1 fk59 rfl d_M_holds_1 ?_
  refine r_iload_n (i := 1) (x := a1) 1 rfl d_M_holds_4 ?_
  have h2 := kr_ob h
  clear h
  obtain ⟨v2, ev2, h⟩ := h2
  refine r_iaload ev2 d_M_holds_5 ?_
  refine r_istore_n (i := 3) (lv' := [(3, .int v2), (0, va_rf a0), (1, .int a1), (2, .int a2)]) (by decide) rfl d_M_holds_6 ?_
  refine r_aload_n (i := 0) (x := a0) 1 rfl d_M_holds_7 ?_
  have h2 := kr_ob h
  clear h
  obtain ⟨v3, ev3, h⟩ := h2
  refine r_getR ev3 fk53 rfl d_M_holds_8 ?_
  refine r_iload_n (i := 2) (x := a2) 3 rfl d_M_holds_11 ?_
  have h2 := kr_ob h
  clear h
  obtain ⟨v4, ev4, h⟩ := h2
  refine r_iaload ev4 d_M_holds_12 ?_
  refine r_iconst (v := (1 : Int32)) (by decide) d_M_holds_13 ?_
  refine r_icmp_ne (tgt := 34) d_M_holds_14 rfl (fun c => ?_) (fun c => ?_)
  · replace h := kr_ip c h
    refine r_aload_n (i := 0) (x := a0) 1 rfl d_M_holds_17 ?_
    have h2 := kr_ob h
    clear h
    obtain ⟨v5, ev5, h⟩ := h2
    refine r_getR ev5 fk48 rfl d_M_holds_18 ?_
    refine r_bipush (v := (6 : Int32)) (by decide) d_M_holds_21 ?_
    refine r_iload_n (i := 3) (x := v2) 0 rfl d_M_holds_23 ?_
    refine r_imul d_M_holds_24 ?_
    refine r_aload_n (i := 0) (x := a0) 1 rfl d_M_holds_25 ?_
    have h2 := kr_ob h
    clear h
    obtain ⟨v6, ev6, h⟩ := h2
    refine r_getR ev6 fk60 rfl d_M_holds_26 ?_
    refine r_iload_n (i := 1) (x := a1) 2 rfl d_M_holds_29 ?_
    have h2 := kr_ob h
    clear h
    obtain ⟨v7, ev7, h⟩ := h2
    refine r_iaload ev7 d_M_holds_30 ?_
    refine r_iadd d_M_holds_31 ?_
    have h2 := kr_ob h
    clear h
    obtain ⟨v8, ev8, h⟩ := h2
    refine r_baload ev8 d_M_holds_32 ?_
    have h2 := kr_ob h
    clear h
    obtain ⟨⟨⟩, eu9, h⟩ := h2
    cases h
    exact r_zret rfl eu9 d_M_holds_33
  · replace h := kr_in_ c h
    refine r_aload_n (i := 0) (x := a0) 1 rfl d_M_holds_34 ?_
    have h2 := kr_ob h
    clear h
    obtain ⟨v10, ev10, h⟩ := h2
    refine r_getR ev10 fk53 rfl d_M_holds_35 ?_
    refine r_iload_n (i := 2) (x := a2) 3 rfl d_M_holds_38 ?_
    have h2 := kr_ob h
    clear h
    obtain ⟨v11, ev11, h⟩ := h2
    refine r_iaload ev11 d_M_holds_39 ?_
    refine r_iconst (v := (2 : Int32)) (by decide) d_M_holds_40 ?_
    refine r_icmp_ne (tgt := 65) d_M_holds_41 rfl (fun c => ?_) (fun c => ?_)
    · replace h := kr_ip c h
      refine r_aload_n (i := 0) (x := a0) 1 rfl d_M_holds_44 ?_
      refine r_iload_n (i := 1) (x := a1) 2 rfl d_M_holds_45 ?_
      refine r_iconst (v := (0 : Int32)) (by decide) d_M_holds_46 ?_
      have h2 := kr_ob h
      clear h
      obtain ⟨⟨⟩, eu12, h⟩ := h2
      have h2 := kr_ob2 h
      clear h
      obtain ⟨v14, S13, eS13, h⟩ := h2
      refine r_callV (M1 := m_M_riskOf) (κ := 23) (As := [.int a1, .int (0 : Int32)]) eu12 (s_M_riskOf eS13) mok_M_riskOf rfl (by decide) rfl w1811 w1813 w54 (by decide) (kr_c8 kr_c0) d_M_holds_47 (kr_k1 ?_) kr_kn
      refine r_aload_n (i := 0) (x := a0) 1 rfl d_M_holds_50 ?_
      have h2 := kr_ob h
      clear h
      obtain ⟨v15, ev15, h⟩ := h2
      refine r_getR ev15 fk54 rfl d_M_holds_51 ?_
      refine r_iload_n (i := 2) (x := a2) 3 rfl d_M_holds_54 ?_
      have h2 := kr_ob h
      clear h
      obtain ⟨v16, ev16, h⟩ := h2
      refine r_iaload ev16 d_M_holds_55 ?_
      refine r_icmp_lt (tgt := 63) d_M_holds_56 rfl (fun c => ?_) (fun c => ?_)
      · replace h := kr_ip c h
        refine r_iconst (v := (0 : Int32)) (by decide) d_M_holds_63 ?_
        cases h
        exact r_zret rfl rfl d_M_holds_64
      · replace h := kr_in_ c h
        refine r_iconst (v := (1 : Int32)) (by decide) d_M_holds_59 ?_
        refine r_goto (tgt := 64) d_M_holds_60 rfl ?_
        cases h
        exact r_zret rfl rfl d_M_holds_64
    · replace h := kr_in_ c h
      refine r_aload_n (i := 0) (x := a0) 1 rfl d_M_holds_65 ?_
      have h2 := kr_ob h
      clear h
      obtain ⟨v17, ev17, h⟩ := h2
      refine r_getR ev17 fk53 rfl d_M_holds_66 ?_
      refine r_iload_n (i := 2) (x := a2) 3 rfl d_M_holds_69 ?_
      have h2 := kr_ob h
      clear h
      obtain ⟨v18, ev18, h⟩ := h2
      refine r_iaload ev18 d_M_holds_70 ?_
      refine r_iconst (v := (3 : Int32)) (by decide) d_M_holds_71 ?_
      refine r_icmp_ne (tgt := 102) d_M_holds_72 rfl (fun c => ?_) (fun c => ?_)
      · replace h := kr_ip c h
        refine r_aload_n (i := 0) (x := a0) 1 rfl d_M_holds_75 ?_
        have h2 := kr_ob h
        clear h
        obtain ⟨v19, ev19, h⟩ := h2
        refine r_getR ev19 fk45 rfl d_M_holds_76 ?_
        refine r_iconst (v := (3 : Int32)) (by decide) d_M_holds_79 ?_
        refine r_iload_n (i := 3) (x := v2) 0 rfl d_M_holds_80 ?_
        refine r_imul d_M_holds_81 ?_
        refine r_aload_n (i := 0) (x := a0) 1 rfl d_M_holds_82 ?_
        have h2 := kr_ob h
        clear h
        obtain ⟨v20, ev20, h⟩ := h2
        refine r_getR ev20 fk54 rfl d_M_holds_83 ?_
        refine r_iload_n (i := 2) (x := a2) 3 rfl d_M_holds_86 ?_
        have h2 := kr_ob h
        clear h
        obtain ⟨v21, ev21, h⟩ := h2
        refine r_iaload ev21 d_M_holds_87 ?_
        refine r_iadd d_M_holds_88 ?_
        have h2 := kr_ob h
        clear h
        obtain ⟨v22, ev22, h⟩ := h2
        refine r_iaload ev22 d_M_holds_89 ?_
        refine r_iconst (v := (1 : Int32)) (by decide) d_M_holds_90 ?_
        refine r_icmp_ne (tgt := 98) d_M_holds_91 rfl (fun c => ?_) (fun c => ?_)
        · replace h := kr_ip c h
          refine r_iconst (v := (1 : Int32)) (by decide) d_M_holds_94 ?_
          refine r_goto (tgt := 124) d_M_holds_95 rfl ?_
          cases h
          exact r_zret rfl rfl d_M_holds_124
        · replace h := kr_in_ c h
          refine r_iconst (v := (0 : Int32)) (by decide) d_M_holds_98 ?_
          refine r_goto (tgt := 124) d_M_holds_99 rfl ?_
          cases h
          exact r_zret rfl rfl d_M_holds_124
      · replace h := kr_in_ c h
        refine r_aload_n (i := 0) (x := a0) 1 rfl d_M_holds_102 ?_
        refine r_iload_n (i := 1) (x := a1) 2 rfl d_M_holds_103 ?_
        have h2 := kr_ob h
        clear h
        obtain ⟨⟨⟩, eu23, h⟩ := h2
        have h2 := kr_ob2 h
        clear h
        obtain ⟨v25, S24, eS24, h⟩ := h2
        refine r_callV (M1 := m_M_shownIn) (κ := 23) (As := [.int a1]) eu23 (s_M_shownIn eS24) mok_M_shownIn rfl (by decide) rfl w1823 w1825 w57 (by decide) (kr_c8 kr_c0) d_M_holds_104 (kr_k1 ?_) kr_kn
        have h2 := kr_ob2 h
        clear h
        obtain ⟨v27, S26, eS26, h⟩ := h2
        refine r_callS (M1 := m_M_levelOf) (As := [.int v25]) (s_M_levelOf eS26) mok_M_levelOf rfl w1788 w1789 (by decide) (kr_c8 kr_c0) d_M_holds_107 (kr_k1 ?_) kr_kn
        refine r_aload_n (i := 0) (x := a0) 1 rfl d_M_holds_110 ?_
        have h2 := kr_ob h
        clear h
        obtain ⟨v28, ev28, h⟩ := h2
        refine r_getR ev28 fk54 rfl d_M_holds_111 ?_
        refine r_iload_n (i := 2) (x := a2) 3 rfl d_M_holds_114 ?_
        have h2 := kr_ob h
        clear h
        obtain ⟨v29, ev29, h⟩ := h2
        refine r_iaload ev29 d_M_holds_115 ?_
        refine r_icmp_lt (tgt := 123) d_M_holds_116 rfl (fun c => ?_) (fun c => ?_)
        · replace h := kr_ip c h
          refine r_iconst (v := (0 : Int32)) (by decide) d_M_holds_123 ?_
          cases h
          exact r_zret rfl rfl d_M_holds_124
        · replace h := kr_in_ c h
          refine r_iconst (v := (1 : Int32)) (by decide) d_M_holds_119 ?_
          refine r_goto (tgt := 124) d_M_holds_120 rfl ?_
          cases h
          exact r_zret rfl rfl d_M_holds_124
/-! KeyringCourtModel.newSession(II)I -/
def f_M_newSession_C49 (k49 : AS → Option Nat → Int32 → Int32 → Option (Int32 × AS)) (S : AS) (x0 : Option Nat) (x3 : Int32) (x4 : Int32) : Option (Int32 × AS) :=
  if (3 : Int32) ≤ x4 then
  (gI S 23 30 x0).bind fun v1 =>
  (pI S 23 30 x0 (v1 + (1 : Int32))).bind fun S2 =>
  (kr_rv S2 23 x0).bind fun u3 =>
  (f_M_write S2 x0 (0 : Int32) x3).bind fun S4 =>
  some (x3, S4)
  else
  (gR S 23 36 x0).bind fun v5 =>
  (bI S v5 (((3 : Int32) * x3) + x4) (-1 : Int32)).bind fun S6 =>
  (some (x4 + (1 : Int32))).bind fun i7 =>
  k49 S6 x0 x3 i7
def f_M_newSession_L49 : Nat → AS → Option Nat → Int32 → Int32 → Option (Int32 × AS)
  | 0, S, x0, x3, x4 => none
  | n + 1, S, x0, x3, x4 => f_M_newSession_C49 (f_M_newSession_L49 n) S x0 x3 x4
def f_M_newSession (S : AS) (a0 : Option Nat) (a1 : Int32) (a2 : Int32) : Option (Int32 × AS) :=
  (gI S 23 30 a0).bind fun v8 =>
  (gR S 23 31 a0).bind fun v9 =>
  (bI S v9 v8 a1).bind fun S10 =>
  (gR S10 23 32 a0).bind fun v11 =>
  (gI S10 23 0 a0).bind fun v12 =>
  (bI S10 v11 v8 v12).bind fun S13 =>
  (gR S13 23 33 a0).bind fun v14 =>
  (gI S13 23 0 a0).bind fun v15 =>
  (bI S13 v14 v8 v15).bind fun S16 =>
  (gR S16 23 34 a0).bind fun v17 =>
  (bI S16 v17 v8 a2).bind fun S18 =>
  (gR S18 23 35 a0).bind fun v19 =>
  (bZ S18 v19 v8 (1 : Int32)).bind fun S20 =>
  f_M_newSession_L49 kr_FU S20 a0 v8 (0 : Int32)
set_option maxRecDepth 20000 in
set_option maxHeartbeats 4000000 in
theorem s_M_newSession_C49 {k49 : AS → Option Nat → Int32 → Int32 → Option (Int32 × AS)} (hk49 : ∀ {S : AS} {x0 : Option Nat} {x3 : Int32} {x4 : Int32} {r : (Int32 × AS)}, k49 S x0 x3 x4 = some r → kr_AW m_M_newSession 1 49 [(0, va_rf x0), (3, .int x3), (4, .int x4)] [] S (kr_eI r)) {S : AS} {x0 : Option Nat} {x3 : Int32} {x4 : Int32} {r : (Int32 × AS)} (h : f_M_newSession_C49 k49 S x0 x3 x4 = some r) : kr_AW m_M_newSession 1 49 [(0, va_rf x0), (3, .int x3), (4, .int x4)] [] S (kr_eI r) := by
  unfold f_M_newSession_C49 at h
  refine r_iload (i := 4) (x := x4) 2 rfl d_M_newSession_49 ?_
  refine r_iconst (v := (3 : Int32)) (by decide) d_M_newSession_51 ?_
  refine r_icmp_ge (tgt := 73) d_M_newSession_52 rfl (fun c => ?_) (fun c => ?_)
  · replace h := kr_ip c h
    refine r_aload_n (i := 0) (x := x0) 0 rfl d_M_newSession_73 ?_
    refine r_dup (kr_rfcat _) d_M_newSession_74 ?_
    have h2 := kr_ob h
    clear h
    obtain ⟨v1, ev1, h⟩ := h2
    refine r_getI ev1 fk133 rfl d_M_newSession_75 ?_
    refine r_iconst (v := (1 : Int32)) (by decide) d_M_newSession_78 ?_
    refine r_iadd d_M_newSession_79 ?_
    have h2 := kr_ob h
    clear h
    obtain ⟨S2, eS2, h⟩ := h2
    refine r_putI eS2 fk133 (Or.inl rfl) rfl d_M_newSession_80 ?_
    refine r_aload_n (i := 0) (x := x0) 0 rfl d_M_newSession_83 ?_
    refine r_iconst (v := (0 : Int32)) (by decide) d_M_newSession_84 ?_
    refine r_iload_n (i := 3) (x := x3) 1 rfl d_M_newSession_85 ?_
    have h2 := kr_ob h
    clear h
    obtain ⟨⟨⟩, eu3, h⟩ := h2
    have h2 := kr_ob h
    clear h
    obtain ⟨S4, eS4, h⟩ := h2
    refine r_callV (M1 := m_M_write) (κ := 23) (As := [.int (0 : Int32), .int x3]) eu3 (s_M_write eS4) mok_M_write rfl (by decide) rfl w1724 w1726 w44 (by decide) (kr_c8 kr_c0) d_M_newSession_86 (kr_k0 ?_) kr_kn
    refine r_iload_n (i := 3) (x := x3) 1 rfl d_M_newSession_89 ?_
    cases h
    exact r_iret rfl d_M_newSession_90
  · replace h := kr_in_ c h
    refine r_aload_n (i := 0) (x := x0) 0 rfl d_M_newSession_55 ?_
    have h2 := kr_ob h
    clear h
    obtain ⟨v5, ev5, h⟩ := h2
    refine r_getR ev5 fk74 rfl d_M_newSession_56 ?_
    refine r_iconst (v := (3 : Int32)) (by decide) d_M_newSession_59 ?_
    refine r_iload_n (i := 3) (x := x3) 1 rfl d_M_newSession_60 ?_
    refine r_imul d_M_newSession_61 ?_
    refine r_iload (i := 4) (x := x4) 2 rfl d_M_newSession_62 ?_
    refine r_iadd d_M_newSession_64 ?_
    refine r_iconst (v := (-1 : Int32)) (by decide) d_M_newSession_65 ?_
    have h2 := kr_ob h
    clear h
    obtain ⟨S6, eS6, h⟩ := h2
    refine r_iastore eS6 d_M_newSession_66 ?_
    have h2 := kr_ob h
    clear h
    obtain ⟨i7, ei7, h⟩ := h2
    refine r_iinc (v := i7) (lv' := [(4, .int i7), (0, va_rf x0), (3, .int x3)]) 2 rfl (kr_inc (by decide) ei7) (by decide) rfl d_M_newSession_67 ?_
    refine r_goto (tgt := 49) d_M_newSession_70 rfl ?_
    exact kr_sub [1, 2, 0] rfl (hk49 h)
theorem s_M_newSession_L49 (n : Nat) : ∀ {S : AS} {x0 : Option Nat} {x3 : Int32} {x4 : Int32} {r : (Int32 × AS)}, f_M_newSession_L49 n S x0 x3 x4 = some r → kr_AW m_M_newSession 1 49 [(0, va_rf x0), (3, .int x3), (4, .int x4)] [] S (kr_eI r) := by
  induction n with
  | zero => intro S x0 x3 x4 r h; cases h
  | succ n ih => intro S x0 x3 x4 r h; exact s_M_newSession_C49 (fun {_} {_} {_} {_} {_} h => ih h) h
set_option maxRecDepth 20000 in
set_option maxHeartbeats 4000000 in
theorem s_M_newSession {S : AS} {a0 : Option Nat} {a1 : Int32} {a2 : Int32} {r : (Int32 × AS)} (h : f_M_newSession S a0 a1 a2 = some r) : kr_Con m_M_newSession 1 [va_rf a0, .int a1, .int a2] S (kr_eI r) := by
  refine kr_con rfl rfl (by decide +kernel) (by simp [lg_sl, kr_rfcat, kr_icat, m_M_newSession, mL]) ?_
  rw [show lv_args 0 [va_rf a0, .int a1, .int a2] = [(0, va_rf a0), (1, .int a1), (2, .int a2)] from by simp [lv_args, kr_rfcat, kr_icat]]
  unfold f_M_newSession at h
  refine r_aload_n (i := 0) (x := a0) 0 rfl d_M_newSession_0 ?_
  have h2 := kr_ob h
  clear h
  obtain ⟨v8, ev8, h⟩ := h2
  refine r_getI ev8 fk133 rfl d_M_newSession_1 ?_
  refine r_istore_n (i := 3) (lv' := [(3, .int v8), (0, va_rf a0), (1, .int a1), (2, .int a2)]) (by decide) rfl d_M_newSession_4 ?_
  refine r_aload_n (i := 0) (x := a0) 1 rfl d_M_newSession_5 ?_
  have h2 := kr_ob h
  clear h
  obtain ⟨v9, ev9, h⟩ := h2
  refine r_getR ev9 fk69 rfl d_M_newSession_6 ?_
  refine r_iload_n (i := 3) (x := v8) 0 rfl d_M_newSession_9 ?_
  refine r_iload_n (i := 1) (x := a1) 2 rfl d_M_newSession_10 ?_
  have h2 := kr_ob h
  clear h
  obtain ⟨S10, eS10, h⟩ := h2
  refine r_iastore eS10 d_M_newSession_11 ?_
  refine r_aload_n (i := 0) (x := a0) 1 rfl d_M_newSession_12 ?_
  have h2 := kr_ob h
  clear h
  obtain ⟨v11, ev11, h⟩ := h2
  refine r_getR ev11 fk70 rfl d_M_newSession_13 ?_
  refine r_iload_n (i := 3) (x := v8) 0 rfl d_M_newSession_16 ?_
  refine r_aload_n (i := 0) (x := a0) 1 rfl d_M_newSession_17 ?_
  have h2 := kr_ob h
  clear h
  obtain ⟨v12, ev12, h⟩ := h2
  refine r_getI ev12 fk130 rfl d_M_newSession_18 ?_
  have h2 := kr_ob h
  clear h
  obtain ⟨S13, eS13, h⟩ := h2
  refine r_iastore eS13 d_M_newSession_21 ?_
  refine r_aload_n (i := 0) (x := a0) 1 rfl d_M_newSession_22 ?_
  have h2 := kr_ob h
  clear h
  obtain ⟨v14, ev14, h⟩ := h2
  refine r_getR ev14 fk71 rfl d_M_newSession_23 ?_
  refine r_iload_n (i := 3) (x := v8) 0 rfl d_M_newSession_26 ?_
  refine r_aload_n (i := 0) (x := a0) 1 rfl d_M_newSession_27 ?_
  have h2 := kr_ob h
  clear h
  obtain ⟨v15, ev15, h⟩ := h2
  refine r_getI ev15 fk130 rfl d_M_newSession_28 ?_
  have h2 := kr_ob h
  clear h
  obtain ⟨S16, eS16, h⟩ := h2
  refine r_iastore eS16 d_M_newSession_31 ?_
  refine r_aload_n (i := 0) (x := a0) 1 rfl d_M_newSession_32 ?_
  have h2 := kr_ob h
  clear h
  obtain ⟨v17, ev17, h⟩ := h2
  refine r_getR ev17 fk72 rfl d_M_newSession_33 ?_
  refine r_iload_n (i := 3) (x := v8) 0 rfl d_M_newSession_36 ?_
  refine r_iload_n (i := 2) (x := a2) 3 rfl d_M_newSession_37 ?_
  have h2 := kr_ob h
  clear h
  obtain ⟨S18, eS18, h⟩ := h2
  refine r_iastore eS18 d_M_newSession_38 ?_
  refine r_aload_n (i := 0) (x := a0) 1 rfl d_M_newSession_39 ?_
  have h2 := kr_ob h
  clear h
  obtain ⟨v19, ev19, h⟩ := h2
  refine r_getR ev19 fk73 rfl d_M_newSession_40 ?_
  refine r_iload_n (i := 3) (x := v8) 0 rfl d_M_newSession_43 ?_
  refine r_iconst (v := (1 : Int32)) (by decide) d_M_newSession_44 ?_
  have h2 := kr_ob h
  clear h
  obtain ⟨S20, eS20, h⟩ := h2
  refine r_bastore eS20 d_M_newSession_45 ?_
  refine r_iconst (v := (0 : Int32)) (by decide) d_M_newSession_46 ?_
  refine r_istore (i := 4) (lv' := [(4, .int (0 : Int32)), (3, .int v8), (0, va_rf a0), (1, .int a1), (2, .int a2)]) (by decide) rfl d_M_newSession_47 ?_
  exact kr_sub [2, 1, 0] rfl (s_M_newSession_L49 kr_FU h)
/-! KeyringCourtModel.grant(I)V -/
def f_M_grant_C45 (k45 : AS → Option Nat → Int32 → Int32 → Int32 → Option AS) (S : AS) (x0 : Option Nat) (x1 : Int32) (x2 : Int32) (x3 : Int32) : Option AS :=
  if (3 : Int32) ≤ x3 then
  (gR S 23 5 x0).bind fun v1 =>
  (gR S 23 21 x0).bind fun v2 =>
  (aI S 40 v2 x1).bind fun v3 =>
  (bZ S v1 (((6 : Int32) * x2) + v3) (1 : Int32)).bind fun S4 =>
  (gR S4 23 6 x0).bind fun v5 =>
  (gR S4 23 22 x0).bind fun v6 =>
  (aI S4 40 v6 x1).bind fun v7 =>
  (bZ S4 v5 (((6 : Int32) * x2) + v7) (1 : Int32)).bind fun S8 =>
  some S8
  else
  (gR S 23 36 x0).bind fun v9 =>
  (gR S 23 28 x0).bind fun v10 =>
  (aI S 40 v10 x1).bind fun v11 =>
  (gR S 23 29 x0).bind fun v12 =>
  (aI S 40 v12 (((3 : Int32) * x1) + x3)).bind fun v13 =>
  (bI S v9 (((3 : Int32) * v11) + x3) v13).bind fun S14 =>
  (some (x3 + (1 : Int32))).bind fun i15 =>
  k45 S14 x0 x1 x2 i15
def f_M_grant_L45 : Nat → AS → Option Nat → Int32 → Int32 → Int32 → Option AS
  | 0, S, x0, x1, x2, x3 => none
  | n + 1, S, x0, x1, x2, x3 => f_M_grant_C45 (f_M_grant_L45 n) S x0 x1 x2 x3
def f_M_grant (S : AS) (a0 : Option Nat) (a1 : Int32) : Option AS :=
  (gI S 23 30 a0).bind fun v16 =>
  if v16 = (60 : Int32) then
  (gR S 23 25 a0).bind fun v17 =>
  (bI S v17 a1 (2 : Int32)).bind fun S18 =>
  some S18
  else
  (gR S 23 20 a0).bind fun v19 =>
  (aI S 40 v19 a1).bind fun v20 =>
  (gR S 23 25 a0).bind fun v21 =>
  (bI S v21 a1 (1 : Int32)).bind fun S22 =>
  (gR S22 23 28 a0).bind fun v23 =>
  (kr_rv S22 23 a0).bind fun u24 =>
  kr_b2 (f_M_newSession S22 a0 v20 (-1 : Int32)) fun v26 S25 =>
  (bI S25 v23 a1 v26).bind fun S27 =>
  f_M_grant_L45 kr_FU S27 a0 a1 v20 (0 : Int32)
set_option maxRecDepth 20000 in
set_option maxHeartbeats 4000000 in
theorem s_M_grant_C45 {k45 : AS → Option Nat → Int32 → Int32 → Int32 → Option AS} (hk45 : ∀ {S : AS} {x0 : Option Nat} {x1 : Int32} {x2 : Int32} {x3 : Int32} {r : AS}, k45 S x0 x1 x2 x3 = some r → kr_AW m_M_grant 2 45 [(0, va_rf x0), (1, .int x1), (2, .int x2), (3, .int x3)] [] S (kr_eV r)) {S : AS} {x0 : Option Nat} {x1 : Int32} {x2 : Int32} {x3 : Int32} {r : AS} (h : f_M_grant_C45 k45 S x0 x1 x2 x3 = some r) : kr_AW m_M_grant 2 45 [(0, va_rf x0), (1, .int x1), (2, .int x2), (3, .int x3)] [] S (kr_eV r) := by
  unfold f_M_grant_C45 at h
  refine r_iload_n (i := 3) (x := x3) 3 rfl d_M_grant_45 ?_
  refine r_iconst (v := (3 : Int32)) (by decide) d_M_grant_46 ?_
  refine r_icmp_ge (tgt := 81) d_M_grant_47 rfl (fun c => ?_) (fun c => ?_)
  · replace h := kr_ip c h
    refine r_aload_n (i := 0) (x := x0) 0 rfl d_M_grant_81 ?_
    have h2 := kr_ob h
    clear h
    obtain ⟨v1, ev1, h⟩ := h2
    refine r_getR ev1 fk48 rfl d_M_grant_82 ?_
    refine r_bipush (v := (6 : Int32)) (by decide) d_M_grant_85 ?_
    refine r_iload_n (i := 2) (x := x2) 2 rfl d_M_grant_87 ?_
    refine r_imul d_M_grant_88 ?_
    refine r_aload_n (i := 0) (x := x0) 0 rfl d_M_grant_89 ?_
    have h2 := kr_ob h
    clear h
    obtain ⟨v2, ev2, h⟩ := h2
    refine r_getR ev2 fk60 rfl d_M_grant_90 ?_
    refine r_iload_n (i := 1) (x := x1) 1 rfl d_M_grant_93 ?_
    have h2 := kr_ob h
    clear h
    obtain ⟨v3, ev3, h⟩ := h2
    refine r_iaload ev3 d_M_grant_94 ?_
    refine r_iadd d_M_grant_95 ?_
    refine r_iconst (v := (1 : Int32)) (by decide) d_M_grant_96 ?_
    have h2 := kr_ob h
    clear h
    obtain ⟨S4, eS4, h⟩ := h2
    refine r_bastore eS4 d_M_grant_97 ?_
    refine r_aload_n (i := 0) (x := x0) 0 rfl d_M_grant_98 ?_
    have h2 := kr_ob h
    clear h
    obtain ⟨v5, ev5, h⟩ := h2
    refine r_getR ev5 fk49 rfl d_M_grant_99 ?_
    refine r_bipush (v := (6 : Int32)) (by decide) d_M_grant_102 ?_
    refine r_iload_n (i := 2) (x := x2) 2 rfl d_M_grant_104 ?_
    refine r_imul d_M_grant_105 ?_
    refine r_aload_n (i := 0) (x := x0) 0 rfl d_M_grant_106 ?_
    have h2 := kr_ob h
    clear h
    obtain ⟨v6, ev6, h⟩ := h2
    refine r_getR ev6 fk61 rfl d_M_grant_107 ?_
    refine r_iload_n (i := 1) (x := x1) 1 rfl d_M_grant_110 ?_
    have h2 := kr_ob h
    clear h
    obtain ⟨v7, ev7, h⟩ := h2
    refine r_iaload ev7 d_M_grant_111 ?_
    refine r_iadd d_M_grant_112 ?_
    refine r_iconst (v := (1 : Int32)) (by decide) d_M_grant_113 ?_
    have h2 := kr_ob h
    clear h
    obtain ⟨S8, eS8, h⟩ := h2
    refine r_bastore eS8 d_M_grant_114 ?_
    cases h
    exact r_vret rfl d_M_grant_115
  · replace h := kr_in_ c h
    refine r_aload_n (i := 0) (x := x0) 0 rfl d_M_grant_50 ?_
    have h2 := kr_ob h
    clear h
    obtain ⟨v9, ev9, h⟩ := h2
    refine r_getR ev9 fk74 rfl d_M_grant_51 ?_
    refine r_iconst (v := (3 : Int32)) (by decide) d_M_grant_54 ?_
    refine r_aload_n (i := 0) (x := x0) 0 rfl d_M_grant_55 ?_
    have h2 := kr_ob h
    clear h
    obtain ⟨v10, ev10, h⟩ := h2
    refine r_getR ev10 fk67 rfl d_M_grant_56 ?_
    refine r_iload_n (i := 1) (x := x1) 1 rfl d_M_grant_59 ?_
    have h2 := kr_ob h
    clear h
    obtain ⟨v11, ev11, h⟩ := h2
    refine r_iaload ev11 d_M_grant_60 ?_
    refine r_imul d_M_grant_61 ?_
    refine r_iload_n (i := 3) (x := x3) 3 rfl d_M_grant_62 ?_
    refine r_iadd d_M_grant_63 ?_
    refine r_aload_n (i := 0) (x := x0) 0 rfl d_M_grant_64 ?_
    have h2 := kr_ob h
    clear h
    obtain ⟨v12, ev12, h⟩ := h2
    refine r_getR ev12 fk68 rfl d_M_grant_65 ?_
    refine r_iconst (v := (3 : Int32)) (by decide) d_M_grant_68 ?_
    refine r_iload_n (i := 1) (x := x1) 1 rfl d_M_grant_69 ?_
    refine r_imul d_M_grant_70 ?_
    refine r_iload_n (i := 3) (x := x3) 3 rfl d_M_grant_71 ?_
    refine r_iadd d_M_grant_72 ?_
    have h2 := kr_ob h
    clear h
    obtain ⟨v13, ev13, h⟩ := h2
    refine r_iaload ev13 d_M_grant_73 ?_
    have h2 := kr_ob h
    clear h
    obtain ⟨S14, eS14, h⟩ := h2
    refine r_iastore eS14 d_M_grant_74 ?_
    have h2 := kr_ob h
    clear h
    obtain ⟨i15, ei15, h⟩ := h2
    refine r_iinc (v := i15) (lv' := [(3, .int i15), (0, va_rf x0), (1, .int x1), (2, .int x2)]) 3 rfl (kr_inc (by decide) ei15) (by decide) rfl d_M_grant_75 ?_
    refine r_goto (tgt := 45) d_M_grant_78 rfl ?_
    exact kr_sub [1, 2, 3, 0] rfl (hk45 h)
theorem s_M_grant_L45 (n : Nat) : ∀ {S : AS} {x0 : Option Nat} {x1 : Int32} {x2 : Int32} {x3 : Int32} {r : AS}, f_M_grant_L45 n S x0 x1 x2 x3 = some r → kr_AW m_M_grant 2 45 [(0, va_rf x0), (1, .int x1), (2, .int x2), (3, .int x3)] [] S (kr_eV r) := by
  induction n with
  | zero => intro S x0 x1 x2 x3 r h; cases h
  | succ n ih => intro S x0 x1 x2 x3 r h; exact s_M_grant_C45 (fun {_} {_} {_} {_} {_} {_} h => ih h) h
set_option maxRecDepth 20000 in
set_option maxHeartbeats 4000000 in
theorem s_M_grant {S : AS} {a0 : Option Nat} {a1 : Int32} {r : AS} (h : f_M_grant S a0 a1 = some r) : kr_Con m_M_grant 2 [va_rf a0, .int a1] S (kr_eV r) := by
  refine kr_con rfl rfl (by decide +kernel) (by simp [lg_sl, kr_rfcat, kr_icat, m_M_grant, mL]) ?_
  rw [show lv_args 0 [va_rf a0, .int a1] = [(0, va_rf a0), (1, .int a1)] from by simp [lv_args, kr_rfcat, kr_icat]]
  unfold f_M_grant at h
  refine r_aload_n (i := 0) (x := a0) 0 rfl d_M_grant_0 ?_
  have h2 := kr_ob h
  clear h
  obtain ⟨v16, ev16, h⟩ := h2
  refine r_getI ev16 fk133 rfl d_M_grant_1 ?_
  refine r_bipush (v := (60 : Int32)) (by decide) d_M_grant_4 ?_
  refine r_icmp_ne (tgt := 17) d_M_grant_6 rfl (fun c => ?_) (fun c => ?_)
  · replace h := kr_ip c h
    refine r_aload_n (i := 0) (x := a0) 0 rfl d_M_grant_9 ?_
    have h2 := kr_ob h
    clear h
    obtain ⟨v17, ev17, h⟩ := h2
    refine r_getR ev17 fk64 rfl d_M_grant_10 ?_
    refine r_iload_n (i := 1) (x := a1) 1 rfl d_M_grant_13 ?_
    refine r_iconst (v := (2 : Int32)) (by decide) d_M_grant_14 ?_
    have h2 := kr_ob h
    clear h
    obtain ⟨S18, eS18, h⟩ := h2
    refine r_iastore eS18 d_M_grant_15 ?_
    cases h
    exact r_vret rfl d_M_grant_16
  · replace h := kr_in_ c h
    refine r_aload_n (i := 0) (x := a0) 0 rfl d_M_grant_17 ?_
    have h2 := kr_ob h
    clear h
    obtain ⟨v19, ev19, h⟩ := h2
    refine r_getR ev19 fk59 rfl d_M_grant_18 ?_
    refine r_iload_n (i := 1) (x := a1) 1 rfl d_M_grant_21 ?_
    have h2 := kr_ob h
    clear h
    obtain ⟨v20, ev20, h⟩ := h2
    refine r_iaload ev20 d_M_grant_22 ?_
    refine r_istore_n (i := 2) (lv' := [(2, .int v20), (0, va_rf a0), (1, .int a1)]) (by decide) rfl d_M_grant_23 ?_
    refine r_aload_n (i := 0) (x := a0) 1 rfl d_M_grant_24 ?_
    have h2 := kr_ob h
    clear h
    obtain ⟨v21, ev21, h⟩ := h2
    refine r_getR ev21 fk64 rfl d_M_grant_25 ?_
    refine r_iload_n (i := 1) (x := a1) 2 rfl d_M_grant_28 ?_
    refine r_iconst (v := (1 : Int32)) (by decide) d_M_grant_29 ?_
    have h2 := kr_ob h
    clear h
    obtain ⟨S22, eS22, h⟩ := h2
    refine r_iastore eS22 d_M_grant_30 ?_
    refine r_aload_n (i := 0) (x := a0) 1 rfl d_M_grant_31 ?_
    have h2 := kr_ob h
    clear h
    obtain ⟨v23, ev23, h⟩ := h2
    refine r_getR ev23 fk67 rfl d_M_grant_32 ?_
    refine r_iload_n (i := 1) (x := a1) 2 rfl d_M_grant_35 ?_
    refine r_aload_n (i := 0) (x := a0) 1 rfl d_M_grant_36 ?_
    refine r_iload_n (i := 2) (x := v20) 0 rfl d_M_grant_37 ?_
    refine r_iconst (v := (-1 : Int32)) (by decide) d_M_grant_38 ?_
    have h2 := kr_ob h
    clear h
    obtain ⟨⟨⟩, eu24, h⟩ := h2
    have h2 := kr_ob2 h
    clear h
    obtain ⟨v26, S25, eS25, h⟩ := h2
    refine r_callV (M1 := m_M_newSession) (κ := 23) (As := [.int v20, .int (-1 : Int32)]) eu24 (s_M_newSession eS25) mok_M_newSession rfl (by decide) rfl w1831 w1833 w59 (by decide) (kr_c8 (kr_cI (kr_cR kr_c0))) d_M_grant_39 (kr_k1 ?_) kr_kn
    have h2 := kr_ob h
    clear h
    obtain ⟨S27, eS27, h⟩ := h2
    refine r_iastore eS27 d_M_grant_42 ?_
    refine r_iconst (v := (0 : Int32)) (by decide) d_M_grant_43 ?_
    refine r_istore_n (i := 3) (lv' := [(3, .int (0 : Int32)), (2, .int v20), (0, va_rf a0), (1, .int a1)]) (by decide) rfl d_M_grant_44 ?_
    exact kr_sub [2, 3, 1, 0] rfl (s_M_grant_L45 kr_FU h)
/-! KeyringCourtModel.go(II)V -/
def f_M_go_B60 (k15 : AS → Option Nat → Int32 → Int32 → Int32 → Option AS) (S : AS) (x0 : Option Nat) (x1 : Int32) (y0 : Int32) : Option AS :=
  (gR S 23 23 x0).bind fun v1 =>
  (aI S 40 v1 x1).bind fun v2 =>
  (some (((12 : Int32) * v2) + y0)).bind fun i3 =>
  k15 S x0 x1 y0 i3
def f_M_go_B108 (S : AS) (x0 : Option Nat) (x1 : Int32) : Option AS :=
  (gR S 23 25 x0).bind fun v4 =>
  (bI S v4 x1 (2 : Int32)).bind fun S5 =>
  some S5
def f_M_go_B77 (S : AS) (x0 : Option Nat) (x1 : Int32) (x3 : Int32) (x4 : Int32) : Option AS :=
  (gR S 23 24 x0).bind fun v6 =>
  (bI S v6 x1 x3).bind fun S7 =>
  (gR S7 23 26 x0).bind fun v8 =>
  (bI S7 v8 x1 (0 : Int32)).bind fun S9 =>
  if x3 = (-1 : Int32) then
  f_M_go_B108 S9 x0 x1
  else
  (gR S9 23 11 x0).bind fun v10 =>
  (aI S9 40 v10 x4).bind fun v11 =>
  if v11 = (6 : Int32) then
  f_M_go_B108 S9 x0 x1
  else
  (gR S9 23 11 x0).bind fun v12 =>
  (aI S9 40 v12 x4).bind fun v13 =>
  if v13 = (5 : Int32) then
  (kr_rv S9 23 x0).bind fun u14 =>
  (f_M_grant S9 x0 x1).bind fun S15 =>
  some S15
  else
  some S9
def f_M_go_C15 (k15 : AS → Option Nat → Int32 → Int32 → Int32 → Option AS) (S : AS) (x0 : Option Nat) (x1 : Int32) (x3 : Int32) (x4 : Int32) : Option AS :=
  if x3 = (-1 : Int32) then
  f_M_go_B77 S x0 x1 x3 x4
  else
  (gR S 23 11 x0).bind fun v16 =>
  (aI S 40 v16 x4).bind fun v17 =>
  kr_b2 (f_M_isTest S v17) fun v19 S18 =>
  if v19 = 0 then
  f_M_go_B77 S18 x0 x1 x3 x4
  else
  (kr_rv S18 23 x0).bind fun u20 =>
  kr_b2 (f_M_holds S18 x0 x1 x4) fun v22 S21 =>
  if v22 = 0 then
  (gR S21 23 15 x0).bind fun v23 =>
  (aI S21 40 v23 x4).bind fun v24 =>
  f_M_go_B60 k15 S21 x0 x1 v24
  else
  (gR S21 23 14 x0).bind fun v25 =>
  (aI S21 40 v25 x4).bind fun v26 =>
  f_M_go_B60 k15 S21 x0 x1 v26
def f_M_go_L15 : Nat → AS → Option Nat → Int32 → Int32 → Int32 → Option AS
  | 0, S, x0, x1, x3, x4 => none
  | n + 1, S, x0, x1, x3, x4 => f_M_go_C15 (f_M_go_L15 n) S x0 x1 x3 x4
def f_M_go (S : AS) (a0 : Option Nat) (a1 : Int32) (a2 : Int32) : Option AS :=
  (gR S 23 23 a0).bind fun v27 =>
  (aI S 40 v27 a1).bind fun v28 =>
  (some (((12 : Int32) * v28) + a2)).bind fun i29 =>
  f_M_go_L15 kr_FU S a0 a1 a2 i29
set_option maxRecDepth 20000 in
set_option maxHeartbeats 4000000 in
theorem s_M_go_B60 {k15 : AS → Option Nat → Int32 → Int32 → Int32 → Option AS} (hk15 : ∀ {S : AS} {x0 : Option Nat} {x1 : Int32} {x3 : Int32} {x4 : Int32} {r : AS}, k15 S x0 x1 x3 x4 = some r → kr_AW m_M_go 3 15 [(0, va_rf x0), (1, .int x1), (3, .int x3), (4, .int x4)] [] S (kr_eV r)) {S : AS} {x0 : Option Nat} {x1 : Int32} {y0 : Int32} {r : AS} (h : f_M_go_B60 k15 S x0 x1 y0 = some r) : kr_AW m_M_go 3 60 [(0, va_rf x0), (1, .int x1)] [.int y0] S (kr_eV r) := by
  unfold f_M_go_B60 at h
  refine r_istore_n (i := 3) (lv' := [(3, .int y0), (0, va_rf x0), (1, .int x1)]) (by decide) rfl d_M_go_60 ?_
  refine r_bipush (v := (12 : Int32)) (by decide) d_M_go_61 ?_
  refine r_aload_n (i := 0) (x := x0) 1 rfl d_M_go_63 ?_
  have h2 := kr_ob h
  clear h
  obtain ⟨v1, ev1, h⟩ := h2
  refine r_getR ev1 fk62 rfl d_M_go_64 ?_
  refine r_iload_n (i := 1) (x := x1) 2 rfl d_M_go_67 ?_
  have h2 := kr_ob h
  clear h
  obtain ⟨v2, ev2, h⟩ := h2
  refine r_iaload ev2 d_M_go_68 ?_
  refine r_imul d_M_go_69 ?_
  refine r_iload_n (i := 3) (x := y0) 0 rfl d_M_go_70 ?_
  refine r_iadd d_M_go_71 ?_
  have h2 := kr_ob h
  clear h
  obtain ⟨i3, ei3, h⟩ := h2
  refine kr_nmI ei3 ?_
  refine r_istore (i := 4) (lv' := [(4, .int i3), (3, .int y0), (0, va_rf x0), (1, .int x1)]) (by decide) rfl d_M_go_72 ?_
  refine r_goto (tgt := 15) d_M_go_74 rfl ?_
  exact kr_sub [2, 3, 1, 0] rfl (hk15 h)
set_option maxRecDepth 20000 in
set_option maxHeartbeats 4000000 in
theorem s_M_go_B108 {S : AS} {x0 : Option Nat} {x1 : Int32} {r : AS} (h : f_M_go_B108 S x0 x1 = some r) : kr_AW m_M_go 3 108 [(0, va_rf x0), (1, .int x1)] [] S (kr_eV r) := by
  unfold f_M_go_B108 at h
  refine r_aload_n (i := 0) (x := x0) 0 rfl d_M_go_108 ?_
  have h2 := kr_ob h
  clear h
  obtain ⟨v4, ev4, h⟩ := h2
  refine r_getR ev4 fk64 rfl d_M_go_109 ?_
  refine r_iload_n (i := 1) (x := x1) 1 rfl d_M_go_112 ?_
  refine r_iconst (v := (2 : Int32)) (by decide) d_M_go_113 ?_
  have h2 := kr_ob h
  clear h
  obtain ⟨S5, eS5, h⟩ := h2
  refine r_iastore eS5 d_M_go_114 ?_
  refine r_goto (tgt := 134) d_M_go_115 rfl ?_
  cases h
  exact r_vret rfl d_M_go_134
set_option maxRecDepth 20000 in
set_option maxHeartbeats 4000000 in
theorem s_M_go_B77 {S : AS} {x0 : Option Nat} {x1 : Int32} {x3 : Int32} {x4 : Int32} {r : AS} (h : f_M_go_B77 S x0 x1 x3 x4 = some r) : kr_AW m_M_go 3 77 [(0, va_rf x0), (1, .int x1), (3, .int x3), (4, .int x4)] [] S (kr_eV r) := by
  unfold f_M_go_B77 at h
  refine r_aload_n (i := 0) (x := x0) 0 rfl d_M_go_77 ?_
  have h2 := kr_ob h
  clear h
  obtain ⟨v6, ev6, h⟩ := h2
  refine r_getR ev6 fk63 rfl d_M_go_78 ?_
  refine r_iload_n (i := 1) (x := x1) 1 rfl d_M_go_81 ?_
  refine r_iload_n (i := 3) (x := x3) 2 rfl d_M_go_82 ?_
  have h2 := kr_ob h
  clear h
  obtain ⟨S7, eS7, h⟩ := h2
  refine r_iastore eS7 d_M_go_83 ?_
  refine r_aload_n (i := 0) (x := x0) 0 rfl d_M_go_84 ?_
  have h2 := kr_ob h
  clear h
  obtain ⟨v8, ev8, h⟩ := h2
  refine r_getR ev8 fk65 rfl d_M_go_85 ?_
  refine r_iload_n (i := 1) (x := x1) 1 rfl d_M_go_88 ?_
  refine r_iconst (v := (0 : Int32)) (by decide) d_M_go_89 ?_
  have h2 := kr_ob h
  clear h
  obtain ⟨S9, eS9, h⟩ := h2
  refine r_iastore eS9 d_M_go_90 ?_
  refine r_iload_n (i := 3) (x := x3) 2 rfl d_M_go_91 ?_
  refine r_iconst (v := (-1 : Int32)) (by decide) d_M_go_92 ?_
  refine r_icmp_eq (tgt := 108) d_M_go_93 rfl (fun c => ?_) (fun c => ?_)
  · replace h := kr_ip c h
    exact kr_sub [0, 1] rfl (s_M_go_B108 h)
  · replace h := kr_in_ c h
    refine r_aload_n (i := 0) (x := x0) 0 rfl d_M_go_96 ?_
    have h2 := kr_ob h
    clear h
    obtain ⟨v10, ev10, h⟩ := h2
    refine r_getR ev10 fk53 rfl d_M_go_97 ?_
    refine r_iload (i := 4) (x := x4) 3 rfl d_M_go_100 ?_
    have h2 := kr_ob h
    clear h
    obtain ⟨v11, ev11, h⟩ := h2
    refine r_iaload ev11 d_M_go_102 ?_
    refine r_bipush (v := (6 : Int32)) (by decide) d_M_go_103 ?_
    refine r_icmp_ne (tgt := 118) d_M_go_105 rfl (fun c => ?_) (fun c => ?_)
    · replace h := kr_ip c h
      exact kr_sub [0, 1] rfl (s_M_go_B108 h)
    · replace h := kr_in_ c h
      refine r_aload_n (i := 0) (x := x0) 0 rfl d_M_go_118 ?_
      have h2 := kr_ob h
      clear h
      obtain ⟨v12, ev12, h⟩ := h2
      refine r_getR ev12 fk53 rfl d_M_go_119 ?_
      refine r_iload (i := 4) (x := x4) 3 rfl d_M_go_122 ?_
      have h2 := kr_ob h
      clear h
      obtain ⟨v13, ev13, h⟩ := h2
      refine r_iaload ev13 d_M_go_124 ?_
      refine r_iconst (v := (5 : Int32)) (by decide) d_M_go_125 ?_
      refine r_icmp_ne (tgt := 134) d_M_go_126 rfl (fun c => ?_) (fun c => ?_)
      · replace h := kr_ip c h
        refine r_aload_n (i := 0) (x := x0) 0 rfl d_M_go_129 ?_
        refine r_iload_n (i := 1) (x := x1) 1 rfl d_M_go_130 ?_
        have h2 := kr_ob h
        clear h
        obtain ⟨⟨⟩, eu14, h⟩ := h2
        have h2 := kr_ob h
        clear h
        obtain ⟨S15, eS15, h⟩ := h2
        refine r_callV (M1 := m_M_grant) (κ := 23) (As := [.int x1]) eu14 (s_M_grant eS15) mok_M_grant rfl (by decide) rfl w1827 w1829 w58 (by decide) (kr_c8 kr_c0) d_M_go_131 (kr_k0 ?_) kr_kn
        cases h
        exact r_vret rfl d_M_go_134
      · replace h := kr_in_ c h
        cases h
        exact r_vret rfl d_M_go_134
set_option maxRecDepth 20000 in
set_option maxHeartbeats 4000000 in
theorem s_M_go_C15 {k15 : AS → Option Nat → Int32 → Int32 → Int32 → Option AS} (hk15 : ∀ {S : AS} {x0 : Option Nat} {x1 : Int32} {x3 : Int32} {x4 : Int32} {r : AS}, k15 S x0 x1 x3 x4 = some r → kr_AW m_M_go 3 15 [(0, va_rf x0), (1, .int x1), (3, .int x3), (4, .int x4)] [] S (kr_eV r)) {S : AS} {x0 : Option Nat} {x1 : Int32} {x3 : Int32} {x4 : Int32} {r : AS} (h : f_M_go_C15 k15 S x0 x1 x3 x4 = some r) : kr_AW m_M_go 3 15 [(0, va_rf x0), (1, .int x1), (3, .int x3), (4, .int x4)] [] S (kr_eV r) := by
  unfold f_M_go_C15 at h
  refine r_iload_n (i := 3) (x := x3) 2 rfl d_M_go_15 ?_
  refine r_iconst (v := (-1 : Int32)) (by decide) d_M_go_16 ?_
  refine r_icmp_eq (tgt := 77) d_M_go_17 rfl (fun c => ?_) (fun c => ?_)
  · replace h := kr_ip c h
    exact kr_sub [0, 1, 2, 3] rfl (s_M_go_B77 h)
  · replace h := kr_in_ c h
    refine r_aload_n (i := 0) (x := x0) 0 rfl d_M_go_20 ?_
    have h2 := kr_ob h
    clear h
    obtain ⟨v16, ev16, h⟩ := h2
    refine r_getR ev16 fk53 rfl d_M_go_21 ?_
    refine r_iload (i := 4) (x := x4) 3 rfl d_M_go_24 ?_
    have h2 := kr_ob h
    clear h
    obtain ⟨v17, ev17, h⟩ := h2
    refine r_iaload ev17 d_M_go_26 ?_
    have h2 := kr_ob2 h
    clear h
    obtain ⟨v19, S18, eS18, h⟩ := h2
    refine r_callS (M1 := m_M_isTest) (As := [.int v17]) (s_M_isTest eS18) mok_M_isTest rfl w1777 w1778 (by decide) (kr_c8 kr_c0) d_M_go_27 (kr_k1 ?_) kr_kn
    refine r_if_eq (tgt := 77) d_M_go_30 rfl (fun c => ?_) (fun c => ?_)
    · replace h := kr_ip c h
      exact kr_sub [0, 1, 2, 3] rfl (s_M_go_B77 h)
    · replace h := kr_in_ c h
      refine r_aload_n (i := 0) (x := x0) 0 rfl d_M_go_33 ?_
      refine r_iload_n (i := 1) (x := x1) 1 rfl d_M_go_34 ?_
      refine r_iload (i := 4) (x := x4) 3 rfl d_M_go_35 ?_
      have h2 := kr_ob h
      clear h
      obtain ⟨⟨⟩, eu20, h⟩ := h2
      have h2 := kr_ob2 h
      clear h
      obtain ⟨v22, S21, eS21, h⟩ := h2
      refine r_callV (M1 := m_M_holds) (κ := 23) (As := [.int x1, .int x4]) eu20 (s_M_holds eS21) mok_M_holds rfl (by decide) rfl w1807 w1809 w53 (by decide) (kr_c8 kr_c0) d_M_go_37 (kr_k1 ?_) kr_kn
      refine r_if_eq (tgt := 53) d_M_go_40 rfl (fun c => ?_) (fun c => ?_)
      · replace h := kr_ip c h
        refine r_aload_n (i := 0) (x := x0) 0 rfl d_M_go_53 ?_
        have h2 := kr_ob h
        clear h
        obtain ⟨v23, ev23, h⟩ := h2
        refine r_getR ev23 fk57 rfl d_M_go_54 ?_
        refine r_iload (i := 4) (x := x4) 3 rfl d_M_go_57 ?_
        have h2 := kr_ob h
        clear h
        obtain ⟨v24, ev24, h⟩ := h2
        refine r_iaload ev24 d_M_go_59 ?_
        exact kr_sub [0, 1] rfl (s_M_go_B60 hk15 h)
      · replace h := kr_in_ c h
        refine r_aload_n (i := 0) (x := x0) 0 rfl d_M_go_43 ?_
        have h2 := kr_ob h
        clear h
        obtain ⟨v25, ev25, h⟩ := h2
        refine r_getR ev25 fk56 rfl d_M_go_44 ?_
        refine r_iload (i := 4) (x := x4) 3 rfl d_M_go_47 ?_
        have h2 := kr_ob h
        clear h
        obtain ⟨v26, ev26, h⟩ := h2
        refine r_iaload ev26 d_M_go_49 ?_
        refine r_goto (tgt := 60) d_M_go_50 rfl ?_
        exact kr_sub [0, 1] rfl (s_M_go_B60 hk15 h)
theorem s_M_go_L15 (n : Nat) : ∀ {S : AS} {x0 : Option Nat} {x1 : Int32} {x3 : Int32} {x4 : Int32} {r : AS}, f_M_go_L15 n S x0 x1 x3 x4 = some r → kr_AW m_M_go 3 15 [(0, va_rf x0), (1, .int x1), (3, .int x3), (4, .int x4)] [] S (kr_eV r) := by
  induction n with
  | zero => intro S x0 x1 x3 x4 r h; cases h
  | succ n ih => intro S x0 x1 x3 x4 r h; exact s_M_go_C15 (fun {_} {_} {_} {_} {_} {_} h => ih h) h
set_option maxRecDepth 20000 in
set_option maxHeartbeats 4000000 in
theorem s_M_go {S : AS} {a0 : Option Nat} {a1 : Int32} {a2 : Int32} {r : AS} (h : f_M_go S a0 a1 a2 = some r) : kr_Con m_M_go 3 [va_rf a0, .int a1, .int a2] S (kr_eV r) := by
  refine kr_con rfl rfl (by decide +kernel) (by simp [lg_sl, kr_rfcat, kr_icat, m_M_go, mL]) ?_
  rw [show lv_args 0 [va_rf a0, .int a1, .int a2] = [(0, va_rf a0), (1, .int a1), (2, .int a2)] from by simp [lv_args, kr_rfcat, kr_icat]]
  unfold f_M_go at h
  refine r_iload_n (i := 2) (x := a2) 2 rfl d_M_go_0 ?_
  refine r_istore_n (i := 3) (lv' := [(3, .int a2), (0, va_rf a0), (1, .int a1), (2, .int a2)]) (by decide) rfl d_M_go_1 ?_
  refine r_bipush (v := (12 : Int32)) (by decide) d_M_go_2 ?_
  refine r_aload_n (i := 0) (x := a0) 1 rfl d_M_go_4 ?_
  have h2 := kr_ob h
  clear h
  obtain ⟨v27, ev27, h⟩ := h2
  refine r_getR ev27 fk62 rfl d_M_go_5 ?_
  refine r_iload_n (i := 1) (x := a1) 2 rfl d_M_go_8 ?_
  have h2 := kr_ob h
  clear h
  obtain ⟨v28, ev28, h⟩ := h2
  refine r_iaload ev28 d_M_go_9 ?_
  refine r_imul d_M_go_10 ?_
  refine r_iload_n (i := 3) (x := a2) 0 rfl d_M_go_11 ?_
  refine r_iadd d_M_go_12 ?_
  have h2 := kr_ob h
  clear h
  obtain ⟨i29, ei29, h⟩ := h2
  refine kr_nmI ei29 ?_
  refine r_istore (i := 4) (lv' := [(4, .int i29), (3, .int a2), (0, va_rf a0), (1, .int a1), (2, .int a2)]) (by decide) rfl d_M_go_13 ?_
  exact kr_sub [2, 3, 1, 0] rfl (s_M_go_L15 kr_FU h)
/-! KeyringCourtModel.begin(III)I -/
def f_M_begin_C136 (k136 : AS → Option Nat → Int32 → Int32 → Option (Int32 × AS)) (S : AS) (x0 : Option Nat) (x5 : Int32) (x6 : Int32) : Option (Int32 × AS) :=
  if (3 : Int32) ≤ x6 then
  (gI S 23 19 x0).bind fun v1 =>
  (pI S 23 19 x0 (v1 + (1 : Int32))).bind fun S2 =>
  (kr_rv S2 23 x0).bind fun u3 =>
  (f_M_go S2 x0 x5 (0 : Int32)).bind fun S4 =>
  some (x5, S4)
  else
  (gR S 23 29 x0).bind fun v5 =>
  (bI S v5 (((3 : Int32) * x5) + x6) (-1 : Int32)).bind fun S6 =>
  (some (x6 + (1 : Int32))).bind fun i7 =>
  k136 S6 x0 x5 i7
def f_M_begin_L136 : Nat → AS → Option Nat → Int32 → Int32 → Option (Int32 × AS)
  | 0, S, x0, x5, x6 => none
  | n + 1, S, x0, x5, x6 => f_M_begin_C136 (f_M_begin_L136 n) S x0 x5 x6
def f_M_begin_B66 (S : AS) (x0 : Option Nat) (x1 : Int32) (x2 : Int32) (x3 : Int32) (y0 : Option Nat) (y1 : Int32) (y2 : Int32) : Option (Int32 × AS) :=
  (kr_rv S 23 y0).bind fun u8 =>
  kr_b2 (f_M_mayBoth S y0 y1 y2) fun v10 S9 =>
  if v10 = 0 then
  some ((0 : Int32), S9)
  else
  (gI S9 23 19 x0).bind fun v11 =>
  (gR S9 23 20 x0).bind fun v12 =>
  (bI S9 v12 v11 x1).bind fun S13 =>
  (gR S13 23 21 x0).bind fun v14 =>
  (bI S13 v14 v11 x2).bind fun S15 =>
  (gR S15 23 22 x0).bind fun v16 =>
  (bI S15 v16 v11 x3).bind fun S17 =>
  (gR S17 23 23 x0).bind fun v18 =>
  (gI S17 23 9 x0).bind fun v19 =>
  (bI S17 v18 v11 (v19 - (1 : Int32))).bind fun S20 =>
  (gR S20 23 25 x0).bind fun v21 =>
  (bI S20 v21 v11 (0 : Int32)).bind fun S22 =>
  (gR S22 23 28 x0).bind fun v23 =>
  (bI S22 v23 v11 (-1 : Int32)).bind fun S24 =>
  f_M_begin_L136 kr_FU S24 x0 v11 (0 : Int32)
def f_M_begin_B65 (S : AS) (x0 : Option Nat) (x1 : Int32) (x2 : Int32) (x3 : Int32) (y0 : Option Nat) (y1 : Int32) : Option (Int32 × AS) :=
  f_M_begin_B66 S x0 x1 x2 x3 y0 y1 (0 : Int32)
def f_M_begin_B26 (S : AS) (x0 : Option Nat) (x1 : Int32) (x2 : Int32) (x3 : Int32) (y0 : Int32) : Option (Int32 × AS) :=
  if y0 = 0 then
  f_M_begin_B65 S x0 x1 x2 x3 x0 y0
  else
  (gI S 23 9 x0).bind fun v25 =>
  if v25 ≤ 0 then
  f_M_begin_B65 S x0 x1 x2 x3 x0 y0
  else
  (gR S 23 7 x0).bind fun v26 =>
  (aI S 41 v26 x1).bind fun v27 =>
  if v27 = 0 then
  (gI S 23 19 x0).bind fun v28 =>
  if (60 : Int32) ≤ v28 then
  f_M_begin_B65 S x0 x1 x2 x3 x0 y0
  else
  f_M_begin_B66 S x0 x1 x2 x3 x0 y0 (1 : Int32)
  else
  f_M_begin_B65 S x0 x1 x2 x3 x0 y0
def f_M_begin_B25 (S : AS) (x0 : Option Nat) (x1 : Int32) (x2 : Int32) (x3 : Int32) : Option (Int32 × AS) :=
  f_M_begin_B26 S x0 x1 x2 x3 (0 : Int32)
def f_M_begin (S : AS) (a0 : Option Nat) (a1 : Int32) (a2 : Int32) (a3 : Int32) : Option (Int32 × AS) :=
  kr_b2 (f_M_isSix S a1) fun v30 S29 =>
  if v30 = 0 then
  f_M_begin_B25 S29 a0 a1 a2 a3
  else
  kr_b2 (f_M_isSix S29 a2) fun v32 S31 =>
  if v32 = 0 then
  f_M_begin_B25 S31 a0 a1 a2 a3
  else
  kr_b2 (f_M_isSix S31 a3) fun v34 S33 =>
  if v34 = 0 then
  f_M_begin_B25 S33 a0 a1 a2 a3
  else
  f_M_begin_B26 S33 a0 a1 a2 a3 (1 : Int32)
set_option maxRecDepth 20000 in
set_option maxHeartbeats 4000000 in
theorem s_M_begin_C136 {k136 : AS → Option Nat → Int32 → Int32 → Option (Int32 × AS)} (hk136 : ∀ {S : AS} {x0 : Option Nat} {x5 : Int32} {x6 : Int32} {r : (Int32 × AS)}, k136 S x0 x5 x6 = some r → kr_AW m_M_begin 4 136 [(0, va_rf x0), (5, .int x5), (6, .int x6)] [] S (kr_eI r)) {S : AS} {x0 : Option Nat} {x5 : Int32} {x6 : Int32} {r : (Int32 × AS)} (h : f_M_begin_C136 k136 S x0 x5 x6 = some r) : kr_AW m_M_begin 4 136 [(0, va_rf x0), (5, .int x5), (6, .int x6)] [] S (kr_eI r) := by
  unfold f_M_begin_C136 at h
  refine r_iload (i := 6) (x := x6) 2 rfl d_M_begin_136 ?_
  refine r_iconst (v := (3 : Int32)) (by decide) d_M_begin_138 ?_
  refine r_icmp_ge (tgt := 161) d_M_begin_139 rfl (fun c => ?_) (fun c => ?_)
  · replace h := kr_ip c h
    refine r_aload_n (i := 0) (x := x0) 0 rfl d_M_begin_161 ?_
    refine r_dup (kr_rfcat _) d_M_begin_162 ?_
    have h2 := kr_ob h
    clear h
    obtain ⟨v1, ev1, h⟩ := h2
    refine r_getI ev1 fk168 rfl d_M_begin_163 ?_
    refine r_iconst (v := (1 : Int32)) (by decide) d_M_begin_166 ?_
    refine r_iadd d_M_begin_167 ?_
    have h2 := kr_ob h
    clear h
    obtain ⟨S2, eS2, h⟩ := h2
    refine r_putI eS2 fk168 (Or.inl rfl) rfl d_M_begin_168 ?_
    refine r_aload_n (i := 0) (x := x0) 0 rfl d_M_begin_171 ?_
    refine r_iload (i := 5) (x := x5) 1 rfl d_M_begin_172 ?_
    refine r_iconst (v := (0 : Int32)) (by decide) d_M_begin_174 ?_
    have h2 := kr_ob h
    clear h
    obtain ⟨⟨⟩, eu3, h⟩ := h2
    have h2 := kr_ob h
    clear h
    obtain ⟨S4, eS4, h⟩ := h2
    refine r_callV (M1 := m_M_go) (κ := 23) (As := [.int x5, .int (0 : Int32)]) eu3 (s_M_go eS4) mok_M_go rfl (by decide) rfl w1803 w1805 w52 (by decide) (kr_c8 kr_c0) d_M_begin_175 (kr_k0 ?_) kr_kn
    refine r_iload (i := 5) (x := x5) 1 rfl d_M_begin_178 ?_
    cases h
    exact r_iret rfl d_M_begin_180
  · replace h := kr_in_ c h
    refine r_aload_n (i := 0) (x := x0) 0 rfl d_M_begin_142 ?_
    have h2 := kr_ob h
    clear h
    obtain ⟨v5, ev5, h⟩ := h2
    refine r_getR ev5 fk68 rfl d_M_begin_143 ?_
    refine r_iconst (v := (3 : Int32)) (by decide) d_M_begin_146 ?_
    refine r_iload (i := 5) (x := x5) 1 rfl d_M_begin_147 ?_
    refine r_imul d_M_begin_149 ?_
    refine r_iload (i := 6) (x := x6) 2 rfl d_M_begin_150 ?_
    refine r_iadd d_M_begin_152 ?_
    refine r_iconst (v := (-1 : Int32)) (by decide) d_M_begin_153 ?_
    have h2 := kr_ob h
    clear h
    obtain ⟨S6, eS6, h⟩ := h2
    refine r_iastore eS6 d_M_begin_154 ?_
    have h2 := kr_ob h
    clear h
    obtain ⟨i7, ei7, h⟩ := h2
    refine r_iinc (v := i7) (lv' := [(6, .int i7), (0, va_rf x0), (5, .int x5)]) 2 rfl (kr_inc (by decide) ei7) (by decide) rfl d_M_begin_155 ?_
    refine r_goto (tgt := 136) d_M_begin_158 rfl ?_
    exact kr_sub [1, 2, 0] rfl (hk136 h)
theorem s_M_begin_L136 (n : Nat) : ∀ {S : AS} {x0 : Option Nat} {x5 : Int32} {x6 : Int32} {r : (Int32 × AS)}, f_M_begin_L136 n S x0 x5 x6 = some r → kr_AW m_M_begin 4 136 [(0, va_rf x0), (5, .int x5), (6, .int x6)] [] S (kr_eI r) := by
  induction n with
  | zero => intro S x0 x5 x6 r h; cases h
  | succ n ih => intro S x0 x5 x6 r h; exact s_M_begin_C136 (fun {_} {_} {_} {_} {_} h => ih h) h
set_option maxRecDepth 20000 in
set_option maxHeartbeats 4000000 in
theorem s_M_begin_B66 {S : AS} {x0 : Option Nat} {x1 : Int32} {x2 : Int32} {x3 : Int32} {y0 : Option Nat} {y1 : Int32} {y2 : Int32} {r : (Int32 × AS)} (h : f_M_begin_B66 S x0 x1 x2 x3 y0 y1 y2 = some r) : kr_AW m_M_begin 4 66 [(0, va_rf x0), (1, .int x1), (2, .int x2), (3, .int x3)] [.int y2, .int y1, va_rf y0] S (kr_eI r) := by
  unfold f_M_begin_B66 at h
  have h2 := kr_ob h
  clear h
  obtain ⟨⟨⟩, eu8, h⟩ := h2
  have h2 := kr_ob2 h
  clear h
  obtain ⟨v10, S9, eS9, h⟩ := h2
  refine r_callV (M1 := m_M_mayBoth) (κ := 23) (As := [.int y1, .int y2]) eu8 (s_M_mayBoth eS9) mok_M_mayBoth rfl (by decide) rfl w1720 w1722 w43 (by decide) (kr_c8 kr_c0) d_M_begin_66 (kr_k1 ?_) kr_kn
  refine r_if_ne (tgt := 74) d_M_begin_69 rfl (fun c => ?_) (fun c => ?_)
  · replace h := kr_ip c h
    refine r_iconst (v := (0 : Int32)) (by decide) d_M_begin_72 ?_
    cases h
    exact r_iret rfl d_M_begin_73
  · replace h := kr_in_ c h
    refine r_aload_n (i := 0) (x := x0) 0 rfl d_M_begin_74 ?_
    have h2 := kr_ob h
    clear h
    obtain ⟨v11, ev11, h⟩ := h2
    refine r_getI ev11 fk168 rfl d_M_begin_75 ?_
    refine r_istore (i := 5) (lv' := [(5, .int v11), (0, va_rf x0), (1, .int x1), (2, .int x2), (3, .int x3)]) (by decide) rfl d_M_begin_78 ?_
    refine r_aload_n (i := 0) (x := x0) 1 rfl d_M_begin_80 ?_
    have h2 := kr_ob h
    clear h
    obtain ⟨v12, ev12, h⟩ := h2
    refine r_getR ev12 fk59 rfl d_M_begin_81 ?_
    refine r_iload (i := 5) (x := v11) 0 rfl d_M_begin_84 ?_
    refine r_iload_n (i := 1) (x := x1) 2 rfl d_M_begin_86 ?_
    have h2 := kr_ob h
    clear h
    obtain ⟨S13, eS13, h⟩ := h2
    refine r_iastore eS13 d_M_begin_87 ?_
    refine r_aload_n (i := 0) (x := x0) 1 rfl d_M_begin_88 ?_
    have h2 := kr_ob h
    clear h
    obtain ⟨v14, ev14, h⟩ := h2
    refine r_getR ev14 fk60 rfl d_M_begin_89 ?_
    refine r_iload (i := 5) (x := v11) 0 rfl d_M_begin_92 ?_
    refine r_iload_n (i := 2) (x := x2) 3 rfl d_M_begin_94 ?_
    have h2 := kr_ob h
    clear h
    obtain ⟨S15, eS15, h⟩ := h2
    refine r_iastore eS15 d_M_begin_95 ?_
    refine r_aload_n (i := 0) (x := x0) 1 rfl d_M_begin_96 ?_
    have h2 := kr_ob h
    clear h
    obtain ⟨v16, ev16, h⟩ := h2
    refine r_getR ev16 fk61 rfl d_M_begin_97 ?_
    refine r_iload (i := 5) (x := v11) 0 rfl d_M_begin_100 ?_
    refine r_iload_n (i := 3) (x := x3) 4 rfl d_M_begin_102 ?_
    have h2 := kr_ob h
    clear h
    obtain ⟨S17, eS17, h⟩ := h2
    refine r_iastore eS17 d_M_begin_103 ?_
    refine r_aload_n (i := 0) (x := x0) 1 rfl d_M_begin_104 ?_
    have h2 := kr_ob h
    clear h
    obtain ⟨v18, ev18, h⟩ := h2
    refine r_getR ev18 fk62 rfl d_M_begin_105 ?_
    refine r_iload (i := 5) (x := v11) 0 rfl d_M_begin_108 ?_
    refine r_aload_n (i := 0) (x := x0) 1 rfl d_M_begin_110 ?_
    have h2 := kr_ob h
    clear h
    obtain ⟨v19, ev19, h⟩ := h2
    refine r_getI ev19 fk140 rfl d_M_begin_111 ?_
    refine r_iconst (v := (1 : Int32)) (by decide) d_M_begin_114 ?_
    refine r_isub d_M_begin_115 ?_
    have h2 := kr_ob h
    clear h
    obtain ⟨S20, eS20, h⟩ := h2
    refine r_iastore eS20 d_M_begin_116 ?_
    refine r_aload_n (i := 0) (x := x0) 1 rfl d_M_begin_117 ?_
    have h2 := kr_ob h
    clear h
    obtain ⟨v21, ev21, h⟩ := h2
    refine r_getR ev21 fk64 rfl d_M_begin_118 ?_
    refine r_iload (i := 5) (x := v11) 0 rfl d_M_begin_121 ?_
    refine r_iconst (v := (0 : Int32)) (by decide) d_M_begin_123 ?_
    have h2 := kr_ob h
    clear h
    obtain ⟨S22, eS22, h⟩ := h2
    refine r_iastore eS22 d_M_begin_124 ?_
    refine r_aload_n (i := 0) (x := x0) 1 rfl d_M_begin_125 ?_
    have h2 := kr_ob h
    clear h
    obtain ⟨v23, ev23, h⟩ := h2
    refine r_getR ev23 fk67 rfl d_M_begin_126 ?_
    refine r_iload (i := 5) (x := v11) 0 rfl d_M_begin_129 ?_
    refine r_iconst (v := (-1 : Int32)) (by decide) d_M_begin_131 ?_
    have h2 := kr_ob h
    clear h
    obtain ⟨S24, eS24, h⟩ := h2
    refine r_iastore eS24 d_M_begin_132 ?_
    refine r_iconst (v := (0 : Int32)) (by decide) d_M_begin_133 ?_
    refine r_istore (i := 6) (lv' := [(6, .int (0 : Int32)), (5, .int v11), (0, va_rf x0), (1, .int x1), (2, .int x2), (3, .int x3)]) (by decide) rfl d_M_begin_134 ?_
    exact kr_sub [2, 1, 0] rfl (s_M_begin_L136 kr_FU h)
set_option maxRecDepth 20000 in
set_option maxHeartbeats 4000000 in
theorem s_M_begin_B65 {S : AS} {x0 : Option Nat} {x1 : Int32} {x2 : Int32} {x3 : Int32} {y0 : Option Nat} {y1 : Int32} {r : (Int32 × AS)} (h : f_M_begin_B65 S x0 x1 x2 x3 y0 y1 = some r) : kr_AW m_M_begin 4 65 [(0, va_rf x0), (1, .int x1), (2, .int x2), (3, .int x3)] [.int y1, va_rf y0] S (kr_eI r) := by
  unfold f_M_begin_B65 at h
  refine r_iconst (v := (0 : Int32)) (by decide) d_M_begin_65 ?_
  exact kr_sub [0, 1, 2, 3] rfl (s_M_begin_B66 h)
set_option maxRecDepth 20000 in
set_option maxHeartbeats 4000000 in
theorem s_M_begin_B26 {S : AS} {x0 : Option Nat} {x1 : Int32} {x2 : Int32} {x3 : Int32} {y0 : Int32} {r : (Int32 × AS)} (h : f_M_begin_B26 S x0 x1 x2 x3 y0 = some r) : kr_AW m_M_begin 4 26 [(0, va_rf x0), (1, .int x1), (2, .int x2), (3, .int x3)] [.int y0] S (kr_eI r) := by
  unfold f_M_begin_B26 at h
  refine r_istore (i := 4) (lv' := [(4, .int y0), (0, va_rf x0), (1, .int x1), (2, .int x2), (3, .int x3)]) (by decide) rfl d_M_begin_26 ?_
  refine r_aload_n (i := 0) (x := x0) 1 rfl d_M_begin_28 ?_
  refine r_iload (i := 4) (x := y0) 0 rfl d_M_begin_29 ?_
  refine r_iload (i := 4) (x := y0) 0 rfl d_M_begin_31 ?_
  refine r_if_eq (tgt := 65) d_M_begin_33 rfl (fun c => ?_) (fun c => ?_)
  · replace h := kr_ip c h
    exact kr_sub [1, 2, 3, 4] rfl (s_M_begin_B65 h)
  · replace h := kr_in_ c h
    refine r_aload_n (i := 0) (x := x0) 1 rfl d_M_begin_36 ?_
    have h2 := kr_ob h
    clear h
    obtain ⟨v25, ev25, h⟩ := h2
    refine r_getI ev25 fk140 rfl d_M_begin_37 ?_
    refine r_if_le (tgt := 65) d_M_begin_40 rfl (fun c => ?_) (fun c => ?_)
    · replace h := kr_ip c h
      exact kr_sub [1, 2, 3, 4] rfl (s_M_begin_B65 h)
    · replace h := kr_in_ c h
      refine r_aload_n (i := 0) (x := x0) 1 rfl d_M_begin_43 ?_
      have h2 := kr_ob h
      clear h
      obtain ⟨v26, ev26, h⟩ := h2
      refine r_getR ev26 fk50 rfl d_M_begin_44 ?_
      refine r_iload_n (i := 1) (x := x1) 2 rfl d_M_begin_47 ?_
      have h2 := kr_ob h
      clear h
      obtain ⟨v27, ev27, h⟩ := h2
      refine r_baload ev27 d_M_begin_48 ?_
      refine r_if_ne (tgt := 65) d_M_begin_49 rfl (fun c => ?_) (fun c => ?_)
      · replace h := kr_ip c h
        refine r_aload_n (i := 0) (x := x0) 1 rfl d_M_begin_52 ?_
        have h2 := kr_ob h
        clear h
        obtain ⟨v28, ev28, h⟩ := h2
        refine r_getI ev28 fk168 rfl d_M_begin_53 ?_
        refine r_bipush (v := (60 : Int32)) (by decide) d_M_begin_56 ?_
        refine r_icmp_ge (tgt := 65) d_M_begin_58 rfl (fun c => ?_) (fun c => ?_)
        · replace h := kr_ip c h
          exact kr_sub [1, 2, 3, 4] rfl (s_M_begin_B65 h)
        · replace h := kr_in_ c h
          refine r_iconst (v := (1 : Int32)) (by decide) d_M_begin_61 ?_
          refine r_goto (tgt := 66) d_M_begin_62 rfl ?_
          exact kr_sub [1, 2, 3, 4] rfl (s_M_begin_B66 h)
      · replace h := kr_in_ c h
        exact kr_sub [1, 2, 3, 4] rfl (s_M_begin_B65 h)
set_option maxRecDepth 20000 in
set_option maxHeartbeats 4000000 in
theorem s_M_begin_B25 {S : AS} {x0 : Option Nat} {x1 : Int32} {x2 : Int32} {x3 : Int32} {r : (Int32 × AS)} (h : f_M_begin_B25 S x0 x1 x2 x3 = some r) : kr_AW m_M_begin 4 25 [(0, va_rf x0), (1, .int x1), (2, .int x2), (3, .int x3)] [] S (kr_eI r) := by
  unfold f_M_begin_B25 at h
  refine r_iconst (v := (0 : Int32)) (by decide) d_M_begin_25 ?_
  exact kr_sub [0, 1, 2, 3] rfl (s_M_begin_B26 h)
set_option maxRecDepth 20000 in
set_option maxHeartbeats 4000000 in
theorem s_M_begin {S : AS} {a0 : Option Nat} {a1 : Int32} {a2 : Int32} {a3 : Int32} {r : (Int32 × AS)} (h : f_M_begin S a0 a1 a2 a3 = some r) : kr_Con m_M_begin 4 [va_rf a0, .int a1, .int a2, .int a3] S (kr_eI r) := by
  refine kr_con rfl rfl (by decide +kernel) (by simp [lg_sl, kr_rfcat, kr_icat, m_M_begin, mL]) ?_
  rw [show lv_args 0 [va_rf a0, .int a1, .int a2, .int a3] = [(0, va_rf a0), (1, .int a1), (2, .int a2), (3, .int a3)] from by simp [lv_args, kr_rfcat, kr_icat]]
  unfold f_M_begin at h
  refine r_iload_n (i := 1) (x := a1) 1 rfl d_M_begin_0 ?_
  have h2 := kr_ob2 h
  clear h
  obtain ⟨v30, S29, eS29, h⟩ := h2
  refine r_callS (M1 := m_M_isSix) (As := [.int a1]) (s_M_isSix eS29) mok_M_isSix rfl w1748 w1749 (by decide) (kr_c8 kr_c0) d_M_begin_1 (kr_k1 ?_) kr_kn
  refine r_if_eq (tgt := 25) d_M_begin_4 rfl (fun c => ?_) (fun c => ?_)
  · replace h := kr_ip c h
    exact kr_sub [0, 1, 2, 3] rfl (s_M_begin_B25 h)
  · replace h := kr_in_ c h
    refine r_iload_n (i := 2) (x := a2) 2 rfl d_M_begin_7 ?_
    have h2 := kr_ob2 h
    clear h
    obtain ⟨v32, S31, eS31, h⟩ := h2
    refine r_callS (M1 := m_M_isSix) (As := [.int a2]) (s_M_isSix eS31) mok_M_isSix rfl w1748 w1749 (by decide) (kr_c8 kr_c0) d_M_begin_8 (kr_k1 ?_) kr_kn
    refine r_if_eq (tgt := 25) d_M_begin_11 rfl (fun c => ?_) (fun c => ?_)
    · replace h := kr_ip c h
      exact kr_sub [0, 1, 2, 3] rfl (s_M_begin_B25 h)
    · replace h := kr_in_ c h
      refine r_iload_n (i := 3) (x := a3) 3 rfl d_M_begin_14 ?_
      have h2 := kr_ob2 h
      clear h
      obtain ⟨v34, S33, eS33, h⟩ := h2
      refine r_callS (M1 := m_M_isSix) (As := [.int a3]) (s_M_isSix eS33) mok_M_isSix rfl w1748 w1749 (by decide) (kr_c8 kr_c0) d_M_begin_15 (kr_k1 ?_) kr_kn
      refine r_if_eq (tgt := 25) d_M_begin_18 rfl (fun c => ?_) (fun c => ?_)
      · replace h := kr_ip c h
        exact kr_sub [0, 1, 2, 3] rfl (s_M_begin_B25 h)
      · replace h := kr_in_ c h
        refine r_iconst (v := (1 : Int32)) (by decide) d_M_begin_21 ?_
        refine r_goto (tgt := 26) d_M_begin_22 rfl ?_
        exact kr_sub [0, 1, 2, 3] rfl (s_M_begin_B26 h)
/-! KeyringCourtModel.isAttempt(I)Z -/
def f_M_isAttempt (S : AS) (a0 : Option Nat) (a1 : Int32) : Option (Int32 × AS) :=
  (gI S 23 19 a0).bind fun v1 =>
  kr_b2 (f_M_isIn S a1 (0 : Int32) (v1 - (1 : Int32))) fun v3 S2 =>
  (kr_z v3).bind fun u4 =>
  some (v3, S2)
set_option maxRecDepth 20000 in
set_option maxHeartbeats 4000000 in
theorem s_M_isAttempt {S : AS} {a0 : Option Nat} {a1 : Int32} {r : (Int32 × AS)} (h : f_M_isAttempt S a0 a1 = some r) : kr_Con m_M_isAttempt 1 [va_rf a0, .int a1] S (kr_eI r) := by
  refine kr_con rfl rfl (by decide +kernel) (by simp [lg_sl, kr_rfcat, kr_icat, m_M_isAttempt, mL]) ?_
  rw [show lv_args 0 [va_rf a0, .int a1] = [(0, va_rf a0), (1, .int a1)] from by simp [lv_args, kr_rfcat, kr_icat]]
  unfold f_M_isAttempt at h
  refine r_iload_n (i := 1) (x := a1) 1 rfl d_M_isAttempt_0 ?_
  refine r_iconst (v := (0 : Int32)) (by decide) d_M_isAttempt_1 ?_
  refine r_aload_n (i := 0) (x := a0) 0 rfl d_M_isAttempt_2 ?_
  have h2 := kr_ob h
  clear h
  obtain ⟨v1, ev1, h⟩ := h2
  refine r_getI ev1 fk168 rfl d_M_isAttempt_3 ?_
  refine r_iconst (v := (1 : Int32)) (by decide) d_M_isAttempt_6 ?_
  refine r_isub d_M_isAttempt_7 ?_
  have h2 := kr_ob2 h
  clear h
  obtain ⟨v3, S2, eS2, h⟩ := h2
  refine r_callS (M1 := m_M_isIn) (As := [.int a1, .int (0 : Int32), .int (v1 - (1 : Int32))]) (s_M_isIn eS2) mok_M_isIn rfl w1700 w1701 (by decide) (kr_c8 kr_c0) d_M_isAttempt_8 (kr_k1 ?_) kr_kn
  have h2 := kr_ob h
  clear h
  obtain ⟨⟨⟩, eu4, h⟩ := h2
  cases h
  exact r_zret rfl eu4 d_M_isAttempt_11
/-! KeyringCourtModel.mayAll(ZZZ)Z -/
def f_M_mayAll_B26 (S : AS) (x0 : Option Nat) (y0 : Option Nat) (y1 : Int32) : Option (Int32 × AS) :=
  (pI S 23 82 y0 y1).bind fun S1 =>
  (gI S1 23 82 x0).bind fun v2 =>
  if v2 = 0 then
  some ((1 : Int32), S1)
  else
  some ((0 : Int32), S1)
def f_M_mayAll (S : AS) (a0 : Option Nat) (a1 : Int32) (a2 : Int32) (a3 : Int32) : Option (Int32 × AS) :=
  if a1 = 0 then
  f_M_mayAll_B26 S a0 a0 (1 : Int32)
  else
  if a2 = 0 then
  f_M_mayAll_B26 S a0 a0 (2 : Int32)
  else
  if a3 = 0 then
  f_M_mayAll_B26 S a0 a0 (3 : Int32)
  else
  f_M_mayAll_B26 S a0 a0 (0 : Int32)
set_option maxRecDepth 20000 in
set_option maxHeartbeats 4000000 in
theorem s_M_mayAll_B26 {S : AS} {x0 : Option Nat} {y0 : Option Nat} {y1 : Int32} {r : (Int32 × AS)} (h : f_M_mayAll_B26 S x0 y0 y1 = some r) : kr_AW m_M_mayAll 0 26 [(0, va_rf x0)] [.int y1, va_rf y0] S (kr_eI r) := by
  unfold f_M_mayAll_B26 at h
  have h2 := kr_ob h
  clear h
  obtain ⟨S1, eS1, h⟩ := h2
  refine r_putI eS1 fk128 (Or.inl rfl) rfl d_M_mayAll_26 ?_
  refine r_aload_n (i := 0) (x := x0) 0 rfl d_M_mayAll_29 ?_
  have h2 := kr_ob h
  clear h
  obtain ⟨v2, ev2, h⟩ := h2
  refine r_getI ev2 fk128 rfl d_M_mayAll_30 ?_
  refine r_if_ne (tgt := 40) d_M_mayAll_33 rfl (fun c => ?_) (fun c => ?_)
  · replace h := kr_ip c h
    refine r_iconst (v := (1 : Int32)) (by decide) d_M_mayAll_36 ?_
    refine r_goto (tgt := 41) d_M_mayAll_37 rfl ?_
    cases h
    exact r_zret rfl rfl d_M_mayAll_41
  · replace h := kr_in_ c h
    refine r_iconst (v := (0 : Int32)) (by decide) d_M_mayAll_40 ?_
    cases h
    exact r_zret rfl rfl d_M_mayAll_41
set_option maxRecDepth 20000 in
set_option maxHeartbeats 4000000 in
theorem s_M_mayAll {S : AS} {a0 : Option Nat} {a1 : Int32} {a2 : Int32} {a3 : Int32} {r : (Int32 × AS)} (h : f_M_mayAll S a0 a1 a2 a3 = some r) : kr_Con m_M_mayAll 0 [va_rf a0, .int a1, .int a2, .int a3] S (kr_eI r) := by
  refine kr_con rfl rfl (by decide +kernel) (by simp [lg_sl, kr_rfcat, kr_icat, m_M_mayAll, mL]) ?_
  rw [show lv_args 0 [va_rf a0, .int a1, .int a2, .int a3] = [(0, va_rf a0), (1, .int a1), (2, .int a2), (3, .int a3)] from by simp [lv_args, kr_rfcat, kr_icat]]
  unfold f_M_mayAll at h
  refine r_aload_n (i := 0) (x := a0) 0 rfl d_M_mayAll_0 ?_
  refine r_iload_n (i := 1) (x := a1) 1 rfl d_M_mayAll_1 ?_
  refine r_if_ne (tgt := 9) d_M_mayAll_2 rfl (fun c => ?_) (fun c => ?_)
  · replace h := kr_ip c h
    refine r_iconst (v := (1 : Int32)) (by decide) d_M_mayAll_5 ?_
    refine r_goto (tgt := 26) d_M_mayAll_6 rfl ?_
    exact kr_sub [0] rfl (s_M_mayAll_B26 h)
  · replace h := kr_in_ c h
    refine r_iload_n (i := 2) (x := a2) 2 rfl d_M_mayAll_9 ?_
    refine r_if_ne (tgt := 17) d_M_mayAll_10 rfl (fun c => ?_) (fun c => ?_)
    · replace h := kr_ip c h
      refine r_iconst (v := (2 : Int32)) (by decide) d_M_mayAll_13 ?_
      refine r_goto (tgt := 26) d_M_mayAll_14 rfl ?_
      exact kr_sub [0] rfl (s_M_mayAll_B26 h)
    · replace h := kr_in_ c h
      refine r_iload_n (i := 3) (x := a3) 3 rfl d_M_mayAll_17 ?_
      refine r_if_ne (tgt := 25) d_M_mayAll_18 rfl (fun c => ?_) (fun c => ?_)
      · replace h := kr_ip c h
        refine r_iconst (v := (3 : Int32)) (by decide) d_M_mayAll_21 ?_
        refine r_goto (tgt := 26) d_M_mayAll_22 rfl ?_
        exact kr_sub [0] rfl (s_M_mayAll_B26 h)
      · replace h := kr_in_ c h
        refine r_iconst (v := (0 : Int32)) (by decide) d_M_mayAll_25 ?_
        exact kr_sub [0] rfl (s_M_mayAll_B26 h)
/-! KeyringCourtModel.suspend(II)V -/
def f_M_suspend (S : AS) (a0 : Option Nat) (a1 : Int32) (a2 : Int32) : Option AS :=
  (gR S 23 1 a0).bind fun v1 =>
  (bI S v1 (((3 : Int32) * a1) + a2) (2 : Int32)).bind fun S2 =>
  (kr_rv S2 23 a0).bind fun u3 =>
  (f_M_write S2 a0 (4 : Int32) (((3 : Int32) * a1) + a2)).bind fun S4 =>
  some S4
set_option maxRecDepth 20000 in
set_option maxHeartbeats 4000000 in
theorem s_M_suspend {S : AS} {a0 : Option Nat} {a1 : Int32} {a2 : Int32} {r : AS} (h : f_M_suspend S a0 a1 a2 = some r) : kr_Con m_M_suspend 1 [va_rf a0, .int a1, .int a2] S (kr_eV r) := by
  refine kr_con rfl rfl (by decide +kernel) (by simp [lg_sl, kr_rfcat, kr_icat, m_M_suspend, mL]) ?_
  rw [show lv_args 0 [va_rf a0, .int a1, .int a2] = [(0, va_rf a0), (1, .int a1), (2, .int a2)] from by simp [lv_args, kr_rfcat, kr_icat]]
  unfold f_M_suspend at h
  refine r_aload_n (i := 0) (x := a0) 0 rfl d_M_suspend_0 ?_
  have h2 := kr_ob h
  clear h
  obtain ⟨v1, ev1, h⟩ := h2
  refine r_getR ev1 fk45 rfl d_M_suspend_1 ?_
  refine r_iconst (v := (3 : Int32)) (by decide) d_M_suspend_4 ?_
  refine r_iload_n (i := 1) (x := a1) 1 rfl d_M_suspend_5 ?_
  refine r_imul d_M_suspend_6 ?_
  refine r_iload_n (i := 2) (x := a2) 2 rfl d_M_suspend_7 ?_
  refine r_iadd d_M_suspend_8 ?_
  refine r_iconst (v := (2 : Int32)) (by decide) d_M_suspend_9 ?_
  have h2 := kr_ob h
  clear h
  obtain ⟨S2, eS2, h⟩ := h2
  refine r_iastore eS2 d_M_suspend_10 ?_
  refine r_aload_n (i := 0) (x := a0) 0 rfl d_M_suspend_11 ?_
  refine r_iconst (v := (4 : Int32)) (by decide) d_M_suspend_12 ?_
  refine r_iconst (v := (3 : Int32)) (by decide) d_M_suspend_13 ?_
  refine r_iload_n (i := 1) (x := a1) 1 rfl d_M_suspend_14 ?_
  refine r_imul d_M_suspend_15 ?_
  refine r_iload_n (i := 2) (x := a2) 2 rfl d_M_suspend_16 ?_
  refine r_iadd d_M_suspend_17 ?_
  have h2 := kr_ob h
  clear h
  obtain ⟨⟨⟩, eu3, h⟩ := h2
  have h2 := kr_ob h
  clear h
  obtain ⟨S4, eS4, h⟩ := h2
  refine r_callV (M1 := m_M_write) (κ := 23) (As := [.int (4 : Int32), .int (((3 : Int32) * a1) + a2)]) eu3 (s_M_write eS4) mok_M_write rfl (by decide) rfl w1724 w1726 w44 (by decide) (kr_c8 kr_c0) d_M_suspend_18 (kr_k0 ?_) kr_kn
  cases h
  exact r_vret rfl d_M_suspend_21
/-! KeyringCourtModel.answers(IIZI)Z -/
def f_M_answers_B118 (S : AS) (x0 : Option Nat) (x1 : Int32) : Option (Int32 × AS) :=
  (gR S 23 4 x0).bind fun v1 =>
  (gR S 23 4 x0).bind fun v2 =>
  (aI S 40 v2 (((3 : Int32) * x1) + (1 : Int32))).bind fun v3 =>
  (bI S v1 ((3 : Int32) * x1) v3).bind fun S4 =>
  (gR S4 23 4 x0).bind fun v5 =>
  (gR S4 23 4 x0).bind fun v6 =>
  (aI S4 40 v6 (((3 : Int32) * x1) + (2 : Int32))).bind fun v7 =>
  (bI S4 v5 (((3 : Int32) * x1) + (1 : Int32)) v7).bind fun S8 =>
  (gR S8 23 4 x0).bind fun v9 =>
  (gI S8 23 0 x0).bind fun v10 =>
  (bI S8 v9 (((3 : Int32) * x1) + (2 : Int32)) v10).bind fun S11 =>
  some ((0 : Int32), S11)
def f_M_answers_B112 (S : AS) (x0 : Option Nat) (x1 : Int32) (x2 : Int32) : Option (Int32 × AS) :=
  (kr_rv S 23 x0).bind fun u12 =>
  (f_M_suspend S x0 x1 x2).bind fun S13 =>
  f_M_answers_B118 S13 x0 x1
def f_M_answers_B94 (S : AS) (x0 : Option Nat) (x1 : Int32) (x2 : Int32) (x5 : Int32) (x6 : Int32) (y0 : Option Nat) (y1 : Int32) (y2 : Int32) (y3 : Int32) : Option (Int32 × AS) :=
  (bI S y0 y1 (y2 + y3)).bind fun S14 =>
  if x6 = 0 then
  (gR S14 23 2 x0).bind fun v15 =>
  (aI S14 40 v15 x5).bind fun v16 =>
  if v16 = (5 : Int32) then
  f_M_answers_B112 S14 x0 x1 x2
  else
  f_M_answers_B118 S14 x0 x1
  else
  f_M_answers_B112 S14 x0 x1 x2
def f_M_answers_B77 (S : AS) (x0 : Option Nat) (x1 : Int32) (x2 : Int32) (x3 : Int32) (x5 : Int32) (x6 : Int32) : Option (Int32 × AS) :=
  (gR S 23 2 x0).bind fun v17 =>
  (aI S 40 v17 x5).bind fun v18 =>
  if x3 = 0 then
  f_M_answers_B94 S x0 x1 x2 x5 x6 v17 x5 v18 (1 : Int32)
  else
  f_M_answers_B94 S x0 x1 x2 x5 x6 v17 x5 v18 (0 : Int32)
def f_M_answers_B43 (S : AS) (x0 : Option Nat) (x1 : Int32) (x2 : Int32) (x3 : Int32) (x4 : Int32) (x5 : Int32) (y0 : Int32) : Option (Int32 × AS) :=
  if x3 = 0 then
  f_M_answers_B77 S x0 x1 x2 x3 x5 y0
  else
  if y0 = 0 then
  (gR S 23 2 x0).bind fun v19 =>
  (bI S v19 x5 (0 : Int32)).bind fun S20 =>
  if x2 = (2 : Int32) then
  (gR S20 23 3 x0).bind fun v21 =>
  (bI S20 v21 x1 x4).bind fun S22 =>
  some ((1 : Int32), S22)
  else
  some ((1 : Int32), S20)
  else
  f_M_answers_B77 S x0 x1 x2 x3 x5 y0
def f_M_answers_B42 (S : AS) (x0 : Option Nat) (x1 : Int32) (x2 : Int32) (x3 : Int32) (x4 : Int32) (x5 : Int32) : Option (Int32 × AS) :=
  f_M_answers_B43 S x0 x1 x2 x3 x4 x5 (0 : Int32)
def f_M_answers (S : AS) (a0 : Option Nat) (a1 : Int32) (a2 : Int32) (a3 : Int32) (a4 : Int32) : Option (Int32 × AS) :=
  (some (((3 : Int32) * a1) + a2)).bind fun i23 =>
  (gR S 23 1 a0).bind fun v24 =>
  (aI S 40 v24 i23).bind fun v25 =>
  if v25 = (1 : Int32) then
  if a2 = (2 : Int32) then
  if a3 = 0 then
  f_M_answers_B42 S a0 a1 a2 a3 a4 i23
  else
  (gR S 23 3 a0).bind fun v26 =>
  (aI S 40 v26 a1).bind fun v27 =>
  if v27 < a4 then
  f_M_answers_B42 S a0 a1 a2 a3 a4 i23
  else
  f_M_answers_B43 S a0 a1 a2 a3 a4 i23 (1 : Int32)
  else
  f_M_answers_B42 S a0 a1 a2 a3 a4 i23
  else
  f_M_answers_B118 S a0 a1
set_option maxRecDepth 20000 in
set_option maxHeartbeats 4000000 in
theorem s_M_answers_B118 {S : AS} {x0 : Option Nat} {x1 : Int32} {r : (Int32 × AS)} (h : f_M_answers_B118 S x0 x1 = some r) : kr_AW m_M_answers 2 118 [(0, va_rf x0), (1, .int x1)] [] S (kr_eI r) := by
  unfold f_M_answers_B118 at h
  refine r_aload_n (i := 0) (x := x0) 0 rfl d_M_answers_118 ?_
  have h2 := kr_ob h
  clear h
  obtain ⟨v1, ev1, h⟩ := h2
  refine r_getR ev1 fk44 rfl d_M_answers_119 ?_
  refine r_iconst (v := (3 : Int32)) (by decide) d_M_answers_122 ?_
  refine r_iload_n (i := 1) (x := x1) 1 rfl d_M_answers_123 ?_
  refine r_imul d_M_answers_124 ?_
  refine r_aload_n (i := 0) (x := x0) 0 rfl d_M_answers_125 ?_
  have h2 := kr_ob h
  clear h
  obtain ⟨v2, ev2, h⟩ := h2
  refine r_getR ev2 fk44 rfl d_M_answers_126 ?_
  refine r_iconst (v := (3 : Int32)) (by decide) d_M_answers_129 ?_
  refine r_iload_n (i := 1) (x := x1) 1 rfl d_M_answers_130 ?_
  refine r_imul d_M_answers_131 ?_
  refine r_iconst (v := (1 : Int32)) (by decide) d_M_answers_132 ?_
  refine r_iadd d_M_answers_133 ?_
  have h2 := kr_ob h
  clear h
  obtain ⟨v3, ev3, h⟩ := h2
  refine r_iaload ev3 d_M_answers_134 ?_
  have h2 := kr_ob h
  clear h
  obtain ⟨S4, eS4, h⟩ := h2
  refine r_iastore eS4 d_M_answers_135 ?_
  refine r_aload_n (i := 0) (x := x0) 0 rfl d_M_answers_136 ?_
  have h2 := kr_ob h
  clear h
  obtain ⟨v5, ev5, h⟩ := h2
  refine r_getR ev5 fk44 rfl d_M_answers_137 ?_
  refine r_iconst (v := (3 : Int32)) (by decide) d_M_answers_140 ?_
  refine r_iload_n (i := 1) (x := x1) 1 rfl d_M_answers_141 ?_
  refine r_imul d_M_answers_142 ?_
  refine r_iconst (v := (1 : Int32)) (by decide) d_M_answers_143 ?_
  refine r_iadd d_M_answers_144 ?_
  refine r_aload_n (i := 0) (x := x0) 0 rfl d_M_answers_145 ?_
  have h2 := kr_ob h
  clear h
  obtain ⟨v6, ev6, h⟩ := h2
  refine r_getR ev6 fk44 rfl d_M_answers_146 ?_
  refine r_iconst (v := (3 : Int32)) (by decide) d_M_answers_149 ?_
  refine r_iload_n (i := 1) (x := x1) 1 rfl d_M_answers_150 ?_
  refine r_imul d_M_answers_151 ?_
  refine r_iconst (v := (2 : Int32)) (by decide) d_M_answers_152 ?_
  refine r_iadd d_M_answers_153 ?_
  have h2 := kr_ob h
  clear h
  obtain ⟨v7, ev7, h⟩ := h2
  refine r_iaload ev7 d_M_answers_154 ?_
  have h2 := kr_ob h
  clear h
  obtain ⟨S8, eS8, h⟩ := h2
  refine r_iastore eS8 d_M_answers_155 ?_
  refine r_aload_n (i := 0) (x := x0) 0 rfl d_M_answers_156 ?_
  have h2 := kr_ob h
  clear h
  obtain ⟨v9, ev9, h⟩ := h2
  refine r_getR ev9 fk44 rfl d_M_answers_157 ?_
  refine r_iconst (v := (3 : Int32)) (by decide) d_M_answers_160 ?_
  refine r_iload_n (i := 1) (x := x1) 1 rfl d_M_answers_161 ?_
  refine r_imul d_M_answers_162 ?_
  refine r_iconst (v := (2 : Int32)) (by decide) d_M_answers_163 ?_
  refine r_iadd d_M_answers_164 ?_
  refine r_aload_n (i := 0) (x := x0) 0 rfl d_M_answers_165 ?_
  have h2 := kr_ob h
  clear h
  obtain ⟨v10, ev10, h⟩ := h2
  refine r_getI ev10 fk130 rfl d_M_answers_166 ?_
  have h2 := kr_ob h
  clear h
  obtain ⟨S11, eS11, h⟩ := h2
  refine r_iastore eS11 d_M_answers_169 ?_
  refine r_iconst (v := (0 : Int32)) (by decide) d_M_answers_170 ?_
  cases h
  exact r_zret rfl rfl d_M_answers_171
set_option maxRecDepth 20000 in
set_option maxHeartbeats 4000000 in
theorem s_M_answers_B112 {S : AS} {x0 : Option Nat} {x1 : Int32} {x2 : Int32} {r : (Int32 × AS)} (h : f_M_answers_B112 S x0 x1 x2 = some r) : kr_AW m_M_answers 2 112 [(0, va_rf x0), (1, .int x1), (2, .int x2)] [] S (kr_eI r) := by
  unfold f_M_answers_B112 at h
  refine r_aload_n (i := 0) (x := x0) 0 rfl d_M_answers_112 ?_
  refine r_iload_n (i := 1) (x := x1) 1 rfl d_M_answers_113 ?_
  refine r_iload_n (i := 2) (x := x2) 2 rfl d_M_answers_114 ?_
  have h2 := kr_ob h
  clear h
  obtain ⟨⟨⟩, eu12, h⟩ := h2
  have h2 := kr_ob h
  clear h
  obtain ⟨S13, eS13, h⟩ := h2
  refine r_callV (M1 := m_M_suspend) (κ := 23) (As := [.int x1, .int x2]) eu12 (s_M_suspend eS13) mok_M_suspend rfl (by decide) rfl w1851 w1853 w63 (by decide) (kr_c8 kr_c0) d_M_answers_115 (kr_k0 ?_) kr_kn
  exact kr_sub [0, 1] rfl (s_M_answers_B118 h)
set_option maxRecDepth 20000 in
set_option maxHeartbeats 4000000 in
theorem s_M_answers_B94 {S : AS} {x0 : Option Nat} {x1 : Int32} {x2 : Int32} {x5 : Int32} {x6 : Int32} {y0 : Option Nat} {y1 : Int32} {y2 : Int32} {y3 : Int32} {r : (Int32 × AS)} (h : f_M_answers_B94 S x0 x1 x2 x5 x6 y0 y1 y2 y3 = some r) : kr_AW m_M_answers 2 94 [(0, va_rf x0), (1, .int x1), (2, .int x2), (5, .int x5), (6, .int x6)] [.int y3, .int y2, .int y1, va_rf y0] S (kr_eI r) := by
  unfold f_M_answers_B94 at h
  refine r_iadd d_M_answers_94 ?_
  have h2 := kr_ob h
  clear h
  obtain ⟨S14, eS14, h⟩ := h2
  refine r_iastore eS14 d_M_answers_95 ?_
  refine r_iload (i := 6) (x := x6) 4 rfl d_M_answers_96 ?_
  refine r_if_ne (tgt := 112) d_M_answers_98 rfl (fun c => ?_) (fun c => ?_)
  · replace h := kr_ip c h
    refine r_aload_n (i := 0) (x := x0) 0 rfl d_M_answers_101 ?_
    have h2 := kr_ob h
    clear h
    obtain ⟨v15, ev15, h⟩ := h2
    refine r_getR ev15 fk46 rfl d_M_answers_102 ?_
    refine r_iload (i := 5) (x := x5) 3 rfl d_M_answers_105 ?_
    have h2 := kr_ob h
    clear h
    obtain ⟨v16, ev16, h⟩ := h2
    refine r_iaload ev16 d_M_answers_107 ?_
    refine r_iconst (v := (5 : Int32)) (by decide) d_M_answers_108 ?_
    refine r_icmp_ne (tgt := 118) d_M_answers_109 rfl (fun c => ?_) (fun c => ?_)
    · replace h := kr_ip c h
      exact kr_sub [0, 1, 2] rfl (s_M_answers_B112 h)
    · replace h := kr_in_ c h
      exact kr_sub [0, 1] rfl (s_M_answers_B118 h)
  · replace h := kr_in_ c h
    exact kr_sub [0, 1, 2] rfl (s_M_answers_B112 h)
set_option maxRecDepth 20000 in
set_option maxHeartbeats 4000000 in
theorem s_M_answers_B77 {S : AS} {x0 : Option Nat} {x1 : Int32} {x2 : Int32} {x3 : Int32} {x5 : Int32} {x6 : Int32} {r : (Int32 × AS)} (h : f_M_answers_B77 S x0 x1 x2 x3 x5 x6 = some r) : kr_AW m_M_answers 2 77 [(0, va_rf x0), (1, .int x1), (2, .int x2), (3, .int x3), (5, .int x5), (6, .int x6)] [] S (kr_eI r) := by
  unfold f_M_answers_B77 at h
  refine r_aload_n (i := 0) (x := x0) 0 rfl d_M_answers_77 ?_
  have h2 := kr_ob h
  clear h
  obtain ⟨v17, ev17, h⟩ := h2
  refine r_getR ev17 fk46 rfl d_M_answers_78 ?_
  refine r_iload (i := 5) (x := x5) 4 rfl d_M_answers_81 ?_
  refine r_dup2 rfl (kr_rfcat _) d_M_answers_83 ?_
  have h2 := kr_ob h
  clear h
  obtain ⟨v18, ev18, h⟩ := h2
  refine r_iaload ev18 d_M_answers_84 ?_
  refine r_iload_n (i := 3) (x := x3) 3 rfl d_M_answers_85 ?_
  refine r_if_eq (tgt := 93) d_M_answers_86 rfl (fun c => ?_) (fun c => ?_)
  · replace h := kr_ip c h
    refine r_iconst (v := (1 : Int32)) (by decide) d_M_answers_93 ?_
    exact kr_sub [0, 1, 2, 4, 5] rfl (s_M_answers_B94 h)
  · replace h := kr_in_ c h
    refine r_iconst (v := (0 : Int32)) (by decide) d_M_answers_89 ?_
    refine r_goto (tgt := 94) d_M_answers_90 rfl ?_
    exact kr_sub [0, 1, 2, 4, 5] rfl (s_M_answers_B94 h)
set_option maxRecDepth 20000 in
set_option maxHeartbeats 4000000 in
theorem s_M_answers_B43 {S : AS} {x0 : Option Nat} {x1 : Int32} {x2 : Int32} {x3 : Int32} {x4 : Int32} {x5 : Int32} {y0 : Int32} {r : (Int32 × AS)} (h : f_M_answers_B43 S x0 x1 x2 x3 x4 x5 y0 = some r) : kr_AW m_M_answers 2 43 [(0, va_rf x0), (1, .int x1), (2, .int x2), (3, .int x3), (4, .int x4), (5, .int x5)] [.int y0] S (kr_eI r) := by
  unfold f_M_answers_B43 at h
  refine r_istore (i := 6) (lv' := [(6, .int y0), (0, va_rf x0), (1, .int x1), (2, .int x2), (3, .int x3), (4, .int x4), (5, .int x5)]) (by decide) rfl d_M_answers_43 ?_
  refine r_iload_n (i := 3) (x := x3) 4 rfl d_M_answers_45 ?_
  refine r_if_eq (tgt := 77) d_M_answers_46 rfl (fun c => ?_) (fun c => ?_)
  · replace h := kr_ip c h
    exact kr_sub [1, 2, 3, 4, 6, 0] rfl (s_M_answers_B77 h)
  · replace h := kr_in_ c h
    refine r_iload (i := 6) (x := y0) 0 rfl d_M_answers_49 ?_
    refine r_if_ne (tgt := 77) d_M_answers_51 rfl (fun c => ?_) (fun c => ?_)
    · replace h := kr_ip c h
      refine r_aload_n (i := 0) (x := x0) 1 rfl d_M_answers_54 ?_
      have h2 := kr_ob h
      clear h
      obtain ⟨v19, ev19, h⟩ := h2
      refine r_getR ev19 fk46 rfl d_M_answers_55 ?_
      refine r_iload (i := 5) (x := x5) 6 rfl d_M_answers_58 ?_
      refine r_iconst (v := (0 : Int32)) (by decide) d_M_answers_60 ?_
      have h2 := kr_ob h
      clear h
      obtain ⟨S20, eS20, h⟩ := h2
      refine r_iastore eS20 d_M_answers_61 ?_
      refine r_iload_n (i := 2) (x := x2) 3 rfl d_M_answers_62 ?_
      refine r_iconst (v := (2 : Int32)) (by decide) d_M_answers_63 ?_
      refine r_icmp_ne (tgt := 75) d_M_answers_64 rfl (fun c => ?_) (fun c => ?_)
      · replace h := kr_ip c h
        refine r_aload_n (i := 0) (x := x0) 1 rfl d_M_answers_67 ?_
        have h2 := kr_ob h
        clear h
        obtain ⟨v21, ev21, h⟩ := h2
        refine r_getR ev21 fk47 rfl d_M_answers_68 ?_
        refine r_iload_n (i := 1) (x := x1) 2 rfl d_M_answers_71 ?_
        refine r_iload (i := 4) (x := x4) 5 rfl d_M_answers_72 ?_
        have h2 := kr_ob h
        clear h
        obtain ⟨S22, eS22, h⟩ := h2
        refine r_iastore eS22 d_M_answers_74 ?_
        refine r_iconst (v := (1 : Int32)) (by decide) d_M_answers_75 ?_
        cases h
        exact r_zret rfl rfl d_M_answers_76
      · replace h := kr_in_ c h
        refine r_iconst (v := (1 : Int32)) (by decide) d_M_answers_75 ?_
        cases h
        exact r_zret rfl rfl d_M_answers_76
    · replace h := kr_in_ c h
      exact kr_sub [1, 2, 3, 4, 6, 0] rfl (s_M_answers_B77 h)
set_option maxRecDepth 20000 in
set_option maxHeartbeats 4000000 in
theorem s_M_answers_B42 {S : AS} {x0 : Option Nat} {x1 : Int32} {x2 : Int32} {x3 : Int32} {x4 : Int32} {x5 : Int32} {r : (Int32 × AS)} (h : f_M_answers_B42 S x0 x1 x2 x3 x4 x5 = some r) : kr_AW m_M_answers 2 42 [(0, va_rf x0), (1, .int x1), (2, .int x2), (3, .int x3), (4, .int x4), (5, .int x5)] [] S (kr_eI r) := by
  unfold f_M_answers_B42 at h
  refine r_iconst (v := (0 : Int32)) (by decide) d_M_answers_42 ?_
  exact kr_sub [0, 1, 2, 3, 4, 5] rfl (s_M_answers_B43 h)
set_option maxRecDepth 20000 in
set_option maxHeartbeats 4000000 in
theorem s_M_answers {S : AS} {a0 : Option Nat} {a1 : Int32} {a2 : Int32} {a3 : Int32} {a4 : Int32} {r : (Int32 × AS)} (h : f_M_answers S a0 a1 a2 a3 a4 = some r) : kr_Con m_M_answers 2 [va_rf a0, .int a1, .int a2, .int a3, .int a4] S (kr_eI r) := by
  refine kr_con rfl rfl (by decide +kernel) (by simp [lg_sl, kr_rfcat, kr_icat, m_M_answers, mL]) ?_
  rw [show lv_args 0 [va_rf a0, .int a1, .int a2, .int a3, .int a4] = [(0, va_rf a0), (1, .int a1), (2, .int a2), (3, .int a3), (4, .int a4)] from by simp [lv_args, kr_rfcat, kr_icat]]
  unfold f_M_answers at h
  refine r_iconst (v := (3 : Int32)) (by decide) d_M_answers_0 ?_
  refine r_iload_n (i := 1) (x := a1) 1 rfl d_M_answers_1 ?_
  refine r_imul d_M_answers_2 ?_
  refine r_iload_n (i := 2) (x := a2) 2 rfl d_M_answers_3 ?_
  refine r_iadd d_M_answers_4 ?_
  have h2 := kr_ob h
  clear h
  obtain ⟨i23, ei23, h⟩ := h2
  refine kr_nmI ei23 ?_
  refine r_istore (i := 5) (lv' := [(5, .int i23), (0, va_rf a0), (1, .int a1), (2, .int a2), (3, .int a3), (4, .int a4)]) (by decide) rfl d_M_answers_5 ?_
  refine r_aload_n (i := 0) (x := a0) 1 rfl d_M_answers_7 ?_
  have h2 := kr_ob h
  clear h
  obtain ⟨v24, ev24, h⟩ := h2
  refine r_getR ev24 fk45 rfl d_M_answers_8 ?_
  refine r_iload (i := 5) (x := i23) 0 rfl d_M_answers_11 ?_
  have h2 := kr_ob h
  clear h
  obtain ⟨v25, ev25, h⟩ := h2
  refine r_iaload ev25 d_M_answers_13 ?_
  refine r_iconst (v := (1 : Int32)) (by decide) d_M_answers_14 ?_
  refine r_icmp_ne (tgt := 118) d_M_answers_15 rfl (fun c => ?_) (fun c => ?_)
  · replace h := kr_ip c h
    refine r_iload_n (i := 2) (x := a2) 3 rfl d_M_answers_18 ?_
    refine r_iconst (v := (2 : Int32)) (by decide) d_M_answers_19 ?_
    refine r_icmp_ne (tgt := 42) d_M_answers_20 rfl (fun c => ?_) (fun c => ?_)
    · replace h := kr_ip c h
      refine r_iload_n (i := 3) (x := a3) 4 rfl d_M_answers_23 ?_
      refine r_if_eq (tgt := 42) d_M_answers_24 rfl (fun c => ?_) (fun c => ?_)
      · replace h := kr_ip c h
        exact kr_sub [1, 2, 3, 4, 5, 0] rfl (s_M_answers_B42 h)
      · replace h := kr_in_ c h
        refine r_iload (i := 4) (x := a4) 5 rfl d_M_answers_27 ?_
        refine r_aload_n (i := 0) (x := a0) 1 rfl d_M_answers_29 ?_
        have h2 := kr_ob h
        clear h
        obtain ⟨v26, ev26, h⟩ := h2
        refine r_getR ev26 fk47 rfl d_M_answers_30 ?_
        refine r_iload_n (i := 1) (x := a1) 2 rfl d_M_answers_33 ?_
        have h2 := kr_ob h
        clear h
        obtain ⟨v27, ev27, h⟩ := h2
        refine r_iaload ev27 d_M_answers_34 ?_
        refine r_icmp_gt (tgt := 42) d_M_answers_35 rfl (fun c => ?_) (fun c => ?_)
        · replace h := kr_ip c h
          exact kr_sub [1, 2, 3, 4, 5, 0] rfl (s_M_answers_B42 h)
        · replace h := kr_in_ c h
          refine r_iconst (v := (1 : Int32)) (by decide) d_M_answers_38 ?_
          refine r_goto (tgt := 43) d_M_answers_39 rfl ?_
          exact kr_sub [1, 2, 3, 4, 5, 0] rfl (s_M_answers_B43 h)
    · replace h := kr_in_ c h
      exact kr_sub [1, 2, 3, 4, 5, 0] rfl (s_M_answers_B42 h)
  · replace h := kr_in_ c h
    exact kr_sub [1, 2] rfl (s_M_answers_B118 h)
/-! KeyringCourtModel.answer(IZI)I -/
def f_M_answer_B195 (S : AS) (x0 : Option Nat) (x1 : Int32) : Option (Int32 × AS) :=
  (gR S 23 25 x0).bind fun v1 =>
  (aI S 40 v1 x1).bind fun v2 =>
  some (v2, S)
def f_M_answer_B168 (S : AS) (x0 : Option Nat) (x1 : Int32) : Option (Int32 × AS) :=
  (gR S 23 25 x0).bind fun v3 =>
  (aI S 40 v3 x1).bind fun v4 =>
  if v4 = 0 then
  (gR S 23 27 x0).bind fun v5 =>
  (aI S 40 v5 x1).bind fun v6 =>
  if v6 = (12 : Int32) then
  (gR S 23 25 x0).bind fun v7 =>
  (bI S v7 x1 (2 : Int32)).bind fun S8 =>
  f_M_answer_B195 S8 x0 x1
  else
  f_M_answer_B195 S x0 x1
  else
  f_M_answer_B195 S x0 x1
def f_M_answer_B37 (S : AS) (x0 : Option Nat) (x1 : Int32) (x2 : Int32) (x3 : Int32) (y0 : Option Nat) (y1 : Int32) (y2 : Int32) (y3 : Int32) : Option (Int32 × AS) :=
  (kr_rv S 23 y0).bind fun u9 =>
  kr_b2 (f_M_mayAll S y0 y1 y2 y3) fun v11 S10 =>
  if v11 = 0 then
  some ((0 : Int32), S10)
  else
  (gR S10 23 23 x0).bind fun v12 =>
  (aI S10 40 v12 x1).bind fun v13 =>
  (gR S10 23 24 x0).bind fun v14 =>
  (aI S10 40 v14 x1).bind fun v15 =>
  (some (((12 : Int32) * v13) + v15)).bind fun i16 =>
  (gR S10 23 27 x0).bind fun v17 =>
  (aI S10 40 v17 x1).bind fun v18 =>
  (bI S10 v17 x1 (v18 + (1 : Int32))).bind fun S19 =>
  (gR S19 23 20 x0).bind fun v20 =>
  (aI S19 40 v20 x1).bind fun v21 =>
  (gR S19 23 12 x0).bind fun v22 =>
  (aI S19 40 v22 i16).bind fun v23 =>
  (kr_rv S19 23 x0).bind fun u24 =>
  kr_b2 (f_M_answers S19 x0 v21 v23 x2 x3) fun v26 S25 =>
  if v26 = 0 then
  (gR S25 23 26 x0).bind fun v27 =>
  (aI S25 40 v27 x1).bind fun v28 =>
  (bI S25 v27 x1 (v28 + (1 : Int32))).bind fun S29 =>
  (gR S29 23 26 x0).bind fun v30 =>
  (aI S29 40 v30 x1).bind fun v31 =>
  (gR S29 23 13 x0).bind fun v32 =>
  (aI S29 40 v32 i16).bind fun v33 =>
  if v31 = v33 then
  (gR S29 23 15 x0).bind fun v34 =>
  (aI S29 40 v34 i16).bind fun v35 =>
  (kr_rv S29 23 x0).bind fun u36 =>
  (f_M_go S29 x0 x1 v35).bind fun S37 =>
  f_M_answer_B168 S37 x0 x1
  else
  f_M_answer_B168 S29 x0 x1
  else
  (gR S25 23 29 x0).bind fun v38 =>
  (gR S25 23 12 x0).bind fun v39 =>
  (aI S25 40 v39 i16).bind fun v40 =>
  (gI S25 23 0 x0).bind fun v41 =>
  (bI S25 v38 (((3 : Int32) * x1) + v40) v41).bind fun S42 =>
  (gR S42 23 14 x0).bind fun v43 =>
  (aI S42 40 v43 i16).bind fun v44 =>
  (kr_rv S42 23 x0).bind fun u45 =>
  (f_M_go S42 x0 x1 v44).bind fun S46 =>
  f_M_answer_B168 S46 x0 x1
def f_M_answer_B36 (S : AS) (x0 : Option Nat) (x1 : Int32) (x2 : Int32) (x3 : Int32) (y0 : Option Nat) (y1 : Int32) (y2 : Int32) : Option (Int32 × AS) :=
  f_M_answer_B37 S x0 x1 x2 x3 y0 y1 y2 (0 : Int32)
def f_M_answer (S : AS) (a0 : Option Nat) (a1 : Int32) (a2 : Int32) (a3 : Int32) : Option (Int32 × AS) :=
  (kr_rv S 23 a0).bind fun u47 =>
  kr_b2 (f_M_isAttempt S a0 a1) fun v49 S48 =>
  kr_b2 (f_M_isIn S48 a3 (0 : Int32) (9999 : Int32)) fun v51 S50 =>
  if v49 = 0 then
  f_M_answer_B36 S50 a0 a1 a2 a3 a0 v49 v51
  else
  (gR S50 23 25 a0).bind fun v52 =>
  (aI S50 40 v52 a1).bind fun v53 =>
  if v53 = 0 then
  f_M_answer_B37 S50 a0 a1 a2 a3 a0 v49 v51 (1 : Int32)
  else
  f_M_answer_B36 S50 a0 a1 a2 a3 a0 v49 v51
set_option maxRecDepth 20000 in
set_option maxHeartbeats 4000000 in
theorem s_M_answer_B195 {S : AS} {x0 : Option Nat} {x1 : Int32} {r : (Int32 × AS)} (h : f_M_answer_B195 S x0 x1 = some r) : kr_AW m_M_answer 4 195 [(0, va_rf x0), (1, .int x1)] [] S (kr_eI r) := by
  unfold f_M_answer_B195 at h
  refine r_aload_n (i := 0) (x := x0) 0 rfl d_M_answer_195 ?_
  have h2 := kr_ob h
  clear h
  obtain ⟨v1, ev1, h⟩ := h2
  refine r_getR ev1 fk64 rfl d_M_answer_196 ?_
  refine r_iload_n (i := 1) (x := x1) 1 rfl d_M_answer_199 ?_
  have h2 := kr_ob h
  clear h
  obtain ⟨v2, ev2, h⟩ := h2
  refine r_iaload ev2 d_M_answer_200 ?_
  cases h
  exact r_iret rfl d_M_answer_201
set_option maxRecDepth 20000 in
set_option maxHeartbeats 4000000 in
theorem s_M_answer_B168 {S : AS} {x0 : Option Nat} {x1 : Int32} {r : (Int32 × AS)} (h : f_M_answer_B168 S x0 x1 = some r) : kr_AW m_M_answer 4 168 [(0, va_rf x0), (1, .int x1)] [] S (kr_eI r) := by
  unfold f_M_answer_B168 at h
  refine r_aload_n (i := 0) (x := x0) 0 rfl d_M_answer_168 ?_
  have h2 := kr_ob h
  clear h
  obtain ⟨v3, ev3, h⟩ := h2
  refine r_getR ev3 fk64 rfl d_M_answer_169 ?_
  refine r_iload_n (i := 1) (x := x1) 1 rfl d_M_answer_172 ?_
  have h2 := kr_ob h
  clear h
  obtain ⟨v4, ev4, h⟩ := h2
  refine r_iaload ev4 d_M_answer_173 ?_
  refine r_if_ne (tgt := 195) d_M_answer_174 rfl (fun c => ?_) (fun c => ?_)
  · replace h := kr_ip c h
    refine r_aload_n (i := 0) (x := x0) 0 rfl d_M_answer_177 ?_
    have h2 := kr_ob h
    clear h
    obtain ⟨v5, ev5, h⟩ := h2
    refine r_getR ev5 fk66 rfl d_M_answer_178 ?_
    refine r_iload_n (i := 1) (x := x1) 1 rfl d_M_answer_181 ?_
    have h2 := kr_ob h
    clear h
    obtain ⟨v6, ev6, h⟩ := h2
    refine r_iaload ev6 d_M_answer_182 ?_
    refine r_bipush (v := (12 : Int32)) (by decide) d_M_answer_183 ?_
    refine r_icmp_ne (tgt := 195) d_M_answer_185 rfl (fun c => ?_) (fun c => ?_)
    · replace h := kr_ip c h
      refine r_aload_n (i := 0) (x := x0) 0 rfl d_M_answer_188 ?_
      have h2 := kr_ob h
      clear h
      obtain ⟨v7, ev7, h⟩ := h2
      refine r_getR ev7 fk64 rfl d_M_answer_189 ?_
      refine r_iload_n (i := 1) (x := x1) 1 rfl d_M_answer_192 ?_
      refine r_iconst (v := (2 : Int32)) (by decide) d_M_answer_193 ?_
      have h2 := kr_ob h
      clear h
      obtain ⟨S8, eS8, h⟩ := h2
      refine r_iastore eS8 d_M_answer_194 ?_
      exact kr_sub [0, 1] rfl (s_M_answer_B195 h)
    · replace h := kr_in_ c h
      exact kr_sub [0, 1] rfl (s_M_answer_B195 h)
  · replace h := kr_in_ c h
    exact kr_sub [0, 1] rfl (s_M_answer_B195 h)
set_option maxRecDepth 20000 in
set_option maxHeartbeats 4000000 in
theorem s_M_answer_B37 {S : AS} {x0 : Option Nat} {x1 : Int32} {x2 : Int32} {x3 : Int32} {y0 : Option Nat} {y1 : Int32} {y2 : Int32} {y3 : Int32} {r : (Int32 × AS)} (h : f_M_answer_B37 S x0 x1 x2 x3 y0 y1 y2 y3 = some r) : kr_AW m_M_answer 4 37 [(0, va_rf x0), (1, .int x1), (2, .int x2), (3, .int x3)] [.int y3, .int y2, .int y1, va_rf y0] S (kr_eI r) := by
  unfold f_M_answer_B37 at h
  have h2 := kr_ob h
  clear h
  obtain ⟨⟨⟩, eu9, h⟩ := h2
  have h2 := kr_ob2 h
  clear h
  obtain ⟨v11, S10, eS10, h⟩ := h2
  refine r_callV (M1 := m_M_mayAll) (κ := 23) (As := [.int y1, .int y2, .int y3]) eu9 (s_M_mayAll eS10) mok_M_mayAll rfl (by decide) rfl w1843 w1845 w61 (by decide) (kr_c8 kr_c0) d_M_answer_37 (kr_k1 ?_) kr_kn
  refine r_if_ne (tgt := 45) d_M_answer_40 rfl (fun c => ?_) (fun c => ?_)
  · replace h := kr_ip c h
    refine r_iconst (v := (0 : Int32)) (by decide) d_M_answer_43 ?_
    cases h
    exact r_iret rfl d_M_answer_44
  · replace h := kr_in_ c h
    refine r_bipush (v := (12 : Int32)) (by decide) d_M_answer_45 ?_
    refine r_aload_n (i := 0) (x := x0) 0 rfl d_M_answer_47 ?_
    have h2 := kr_ob h
    clear h
    obtain ⟨v12, ev12, h⟩ := h2
    refine r_getR ev12 fk62 rfl d_M_answer_48 ?_
    refine r_iload_n (i := 1) (x := x1) 1 rfl d_M_answer_51 ?_
    have h2 := kr_ob h
    clear h
    obtain ⟨v13, ev13, h⟩ := h2
    refine r_iaload ev13 d_M_answer_52 ?_
    refine r_imul d_M_answer_53 ?_
    refine r_aload_n (i := 0) (x := x0) 0 rfl d_M_answer_54 ?_
    have h2 := kr_ob h
    clear h
    obtain ⟨v14, ev14, h⟩ := h2
    refine r_getR ev14 fk63 rfl d_M_answer_55 ?_
    refine r_iload_n (i := 1) (x := x1) 1 rfl d_M_answer_58 ?_
    have h2 := kr_ob h
    clear h
    obtain ⟨v15, ev15, h⟩ := h2
    refine r_iaload ev15 d_M_answer_59 ?_
    refine r_iadd d_M_answer_60 ?_
    have h2 := kr_ob h
    clear h
    obtain ⟨i16, ei16, h⟩ := h2
    refine kr_nmI ei16 ?_
    refine r_istore (i := 5) (lv' := [(5, .int i16), (0, va_rf x0), (1, .int x1), (2, .int x2), (3, .int x3)]) (by decide) rfl d_M_answer_61 ?_
    refine r_aload_n (i := 0) (x := x0) 1 rfl d_M_answer_63 ?_
    have h2 := kr_ob h
    clear h
    obtain ⟨v17, ev17, h⟩ := h2
    refine r_getR ev17 fk66 rfl d_M_answer_64 ?_
    refine r_iload_n (i := 1) (x := x1) 2 rfl d_M_answer_67 ?_
    refine r_dup2 rfl (kr_rfcat _) d_M_answer_68 ?_
    have h2 := kr_ob h
    clear h
    obtain ⟨v18, ev18, h⟩ := h2
    refine r_iaload ev18 d_M_answer_69 ?_
    refine r_iconst (v := (1 : Int32)) (by decide) d_M_answer_70 ?_
    refine r_iadd d_M_answer_71 ?_
    have h2 := kr_ob h
    clear h
    obtain ⟨S19, eS19, h⟩ := h2
    refine r_iastore eS19 d_M_answer_72 ?_
    refine r_aload_n (i := 0) (x := x0) 1 rfl d_M_answer_73 ?_
    refine r_aload_n (i := 0) (x := x0) 1 rfl d_M_answer_74 ?_
    have h2 := kr_ob h
    clear h
    obtain ⟨v20, ev20, h⟩ := h2
    refine r_getR ev20 fk59 rfl d_M_answer_75 ?_
    refine r_iload_n (i := 1) (x := x1) 2 rfl d_M_answer_78 ?_
    have h2 := kr_ob h
    clear h
    obtain ⟨v21, ev21, h⟩ := h2
    refine r_iaload ev21 d_M_answer_79 ?_
    refine r_aload_n (i := 0) (x := x0) 1 rfl d_M_answer_80 ?_
    have h2 := kr_ob h
    clear h
    obtain ⟨v22, ev22, h⟩ := h2
    refine r_getR ev22 fk54 rfl d_M_answer_81 ?_
    refine r_iload (i := 5) (x := i16) 0 rfl d_M_answer_84 ?_
    have h2 := kr_ob h
    clear h
    obtain ⟨v23, ev23, h⟩ := h2
    refine r_iaload ev23 d_M_answer_86 ?_
    refine r_iload_n (i := 2) (x := x2) 3 rfl d_M_answer_87 ?_
    refine r_iload_n (i := 3) (x := x3) 4 rfl d_M_answer_88 ?_
    have h2 := kr_ob h
    clear h
    obtain ⟨⟨⟩, eu24, h⟩ := h2
    have h2 := kr_ob2 h
    clear h
    obtain ⟨v26, S25, eS25, h⟩ := h2
    refine r_callV (M1 := m_M_answers) (κ := 23) (As := [.int v21, .int v23, .int x2, .int x3]) eu24 (s_M_answers eS25) mok_M_answers rfl (by decide) rfl w1847 w1849 w62 (by decide) (kr_c8 kr_c0) d_M_answer_89 (kr_k1 ?_) kr_kn
    refine r_if_eq (tgt := 130) d_M_answer_92 rfl (fun c => ?_) (fun c => ?_)
    · replace h := kr_ip c h
      refine r_aload_n (i := 0) (x := x0) 1 rfl d_M_answer_130 ?_
      have h2 := kr_ob h
      clear h
      obtain ⟨v27, ev27, h⟩ := h2
      refine r_getR ev27 fk65 rfl d_M_answer_131 ?_
      refine r_iload_n (i := 1) (x := x1) 2 rfl d_M_answer_134 ?_
      refine r_dup2 rfl (kr_rfcat _) d_M_answer_135 ?_
      have h2 := kr_ob h
      clear h
      obtain ⟨v28, ev28, h⟩ := h2
      refine r_iaload ev28 d_M_answer_136 ?_
      refine r_iconst (v := (1 : Int32)) (by decide) d_M_answer_137 ?_
      refine r_iadd d_M_answer_138 ?_
      have h2 := kr_ob h
      clear h
      obtain ⟨S29, eS29, h⟩ := h2
      refine r_iastore eS29 d_M_answer_139 ?_
      refine r_aload_n (i := 0) (x := x0) 1 rfl d_M_answer_140 ?_
      have h2 := kr_ob h
      clear h
      obtain ⟨v30, ev30, h⟩ := h2
      refine r_getR ev30 fk65 rfl d_M_answer_141 ?_
      refine r_iload_n (i := 1) (x := x1) 2 rfl d_M_answer_144 ?_
      have h2 := kr_ob h
      clear h
      obtain ⟨v31, ev31, h⟩ := h2
      refine r_iaload ev31 d_M_answer_145 ?_
      refine r_aload_n (i := 0) (x := x0) 1 rfl d_M_answer_146 ?_
      have h2 := kr_ob h
      clear h
      obtain ⟨v32, ev32, h⟩ := h2
      refine r_getR ev32 fk55 rfl d_M_answer_147 ?_
      refine r_iload (i := 5) (x := i16) 0 rfl d_M_answer_150 ?_
      have h2 := kr_ob h
      clear h
      obtain ⟨v33, ev33, h⟩ := h2
      refine r_iaload ev33 d_M_answer_152 ?_
      refine r_icmp_ne (tgt := 168) d_M_answer_153 rfl (fun c => ?_) (fun c => ?_)
      · replace h := kr_ip c h
        refine r_aload_n (i := 0) (x := x0) 1 rfl d_M_answer_156 ?_
        refine r_iload_n (i := 1) (x := x1) 2 rfl d_M_answer_157 ?_
        refine r_aload_n (i := 0) (x := x0) 1 rfl d_M_answer_158 ?_
        have h2 := kr_ob h
        clear h
        obtain ⟨v34, ev34, h⟩ := h2
        refine r_getR ev34 fk57 rfl d_M_answer_159 ?_
        refine r_iload (i := 5) (x := i16) 0 rfl d_M_answer_162 ?_
        have h2 := kr_ob h
        clear h
        obtain ⟨v35, ev35, h⟩ := h2
        refine r_iaload ev35 d_M_answer_164 ?_
        have h2 := kr_ob h
        clear h
        obtain ⟨⟨⟩, eu36, h⟩ := h2
        have h2 := kr_ob h
        clear h
        obtain ⟨S37, eS37, h⟩ := h2
        refine r_callV (M1 := m_M_go) (κ := 23) (As := [.int x1, .int v35]) eu36 (s_M_go eS37) mok_M_go rfl (by decide) rfl w1803 w1805 w52 (by decide) (kr_c8 kr_c0) d_M_answer_165 (kr_k0 ?_) kr_kn
        exact kr_sub [1, 2] rfl (s_M_answer_B168 h)
      · replace h := kr_in_ c h
        exact kr_sub [1, 2] rfl (s_M_answer_B168 h)
    · replace h := kr_in_ c h
      refine r_aload_n (i := 0) (x := x0) 1 rfl d_M_answer_95 ?_
      have h2 := kr_ob h
      clear h
      obtain ⟨v38, ev38, h⟩ := h2
      refine r_getR ev38 fk68 rfl d_M_answer_96 ?_
      refine r_iconst (v := (3 : Int32)) (by decide) d_M_answer_99 ?_
      refine r_iload_n (i := 1) (x := x1) 2 rfl d_M_answer_100 ?_
      refine r_imul d_M_answer_101 ?_
      refine r_aload_n (i := 0) (x := x0) 1 rfl d_M_answer_102 ?_
      have h2 := kr_ob h
      clear h
      obtain ⟨v39, ev39, h⟩ := h2
      refine r_getR ev39 fk54 rfl d_M_answer_103 ?_
      refine r_iload (i := 5) (x := i16) 0 rfl d_M_answer_106 ?_
      have h2 := kr_ob h
      clear h
      obtain ⟨v40, ev40, h⟩ := h2
      refine r_iaload ev40 d_M_answer_108 ?_
      refine r_iadd d_M_answer_109 ?_
      refine r_aload_n (i := 0) (x := x0) 1 rfl d_M_answer_110 ?_
      have h2 := kr_ob h
      clear h
      obtain ⟨v41, ev41, h⟩ := h2
      refine r_getI ev41 fk130 rfl d_M_answer_111 ?_
      have h2 := kr_ob h
      clear h
      obtain ⟨S42, eS42, h⟩ := h2
      refine r_iastore eS42 d_M_answer_114 ?_
      refine r_aload_n (i := 0) (x := x0) 1 rfl d_M_answer_115 ?_
      refine r_iload_n (i := 1) (x := x1) 2 rfl d_M_answer_116 ?_
      refine r_aload_n (i := 0) (x := x0) 1 rfl d_M_answer_117 ?_
      have h2 := kr_ob h
      clear h
      obtain ⟨v43, ev43, h⟩ := h2
      refine r_getR ev43 fk56 rfl d_M_answer_118 ?_
      refine r_iload (i := 5) (x := i16) 0 rfl d_M_answer_121 ?_
      have h2 := kr_ob h
      clear h
      obtain ⟨v44, ev44, h⟩ := h2
      refine r_iaload ev44 d_M_answer_123 ?_
      have h2 := kr_ob h
      clear h
      obtain ⟨⟨⟩, eu45, h⟩ := h2
      have h2 := kr_ob h
      clear h
      obtain ⟨S46, eS46, h⟩ := h2
      refine r_callV (M1 := m_M_go) (κ := 23) (As := [.int x1, .int v44]) eu45 (s_M_go eS46) mok_M_go rfl (by decide) rfl w1803 w1805 w52 (by decide) (kr_c8 kr_c0) d_M_answer_124 (kr_k0 ?_) kr_kn
      refine r_goto (tgt := 168) d_M_answer_127 rfl ?_
      exact kr_sub [1, 2] rfl (s_M_answer_B168 h)
set_option maxRecDepth 20000 in
set_option maxHeartbeats 4000000 in
theorem s_M_answer_B36 {S : AS} {x0 : Option Nat} {x1 : Int32} {x2 : Int32} {x3 : Int32} {y0 : Option Nat} {y1 : Int32} {y2 : Int32} {r : (Int32 × AS)} (h : f_M_answer_B36 S x0 x1 x2 x3 y0 y1 y2 = some r) : kr_AW m_M_answer 4 36 [(0, va_rf x0), (1, .int x1), (2, .int x2), (3, .int x3)] [.int y2, .int y1, va_rf y0] S (kr_eI r) := by
  unfold f_M_answer_B36 at h
  refine r_iconst (v := (0 : Int32)) (by decide) d_M_answer_36 ?_
  exact kr_sub [0, 1, 2, 3] rfl (s_M_answer_B37 h)
set_option maxRecDepth 20000 in
set_option maxHeartbeats 4000000 in
theorem s_M_answer {S : AS} {a0 : Option Nat} {a1 : Int32} {a2 : Int32} {a3 : Int32} {r : (Int32 × AS)} (h : f_M_answer S a0 a1 a2 a3 = some r) : kr_Con m_M_answer 4 [va_rf a0, .int a1, .int a2, .int a3] S (kr_eI r) := by
  refine kr_con rfl rfl (by decide +kernel) (by simp [lg_sl, kr_rfcat, kr_icat, m_M_answer, mL]) ?_
  rw [show lv_args 0 [va_rf a0, .int a1, .int a2, .int a3] = [(0, va_rf a0), (1, .int a1), (2, .int a2), (3, .int a3)] from by simp [lv_args, kr_rfcat, kr_icat]]
  unfold f_M_answer at h
  refine r_aload_n (i := 0) (x := a0) 0 rfl d_M_answer_0 ?_
  refine r_iload_n (i := 1) (x := a1) 1 rfl d_M_answer_1 ?_
  have h2 := kr_ob h
  clear h
  obtain ⟨⟨⟩, eu47, h⟩ := h2
  have h2 := kr_ob2 h
  clear h
  obtain ⟨v49, S48, eS48, h⟩ := h2
  refine r_callV (M1 := m_M_isAttempt) (κ := 23) (As := [.int a1]) eu47 (s_M_isAttempt eS48) mok_M_isAttempt rfl (by decide) rfl w1839 w1841 w60 (by decide) (kr_c8 kr_c0) d_M_answer_2 (kr_k1 ?_) kr_kn
  refine r_istore (i := 4) (lv' := [(4, .int v49), (0, va_rf a0), (1, .int a1), (2, .int a2), (3, .int a3)]) (by decide) rfl d_M_answer_5 ?_
  refine r_aload_n (i := 0) (x := a0) 1 rfl d_M_answer_7 ?_
  refine r_iload (i := 4) (x := v49) 0 rfl d_M_answer_8 ?_
  refine r_iload_n (i := 3) (x := a3) 4 rfl d_M_answer_10 ?_
  refine r_iconst (v := (0 : Int32)) (by decide) d_M_answer_11 ?_
  refine r_sipush (v := (9999 : Int32)) (by decide) d_M_answer_12 ?_
  have h2 := kr_ob2 h
  clear h
  obtain ⟨v51, S50, eS50, h⟩ := h2
  refine r_callS (M1 := m_M_isIn) (As := [.int a3, .int (0 : Int32), .int (9999 : Int32)]) (s_M_isIn eS50) mok_M_isIn rfl w1700 w1701 (by decide) (kr_c8 (kr_cI (kr_cR kr_c0))) d_M_answer_15 (kr_k1 ?_) kr_kn
  refine r_iload (i := 4) (x := v49) 0 rfl d_M_answer_18 ?_
  refine r_if_eq (tgt := 36) d_M_answer_20 rfl (fun c => ?_) (fun c => ?_)
  · replace h := kr_ip c h
    exact kr_sub [1, 2, 3, 4] rfl (s_M_answer_B36 h)
  · replace h := kr_in_ c h
    refine r_aload_n (i := 0) (x := a0) 1 rfl d_M_answer_23 ?_
    have h2 := kr_ob h
    clear h
    obtain ⟨v52, ev52, h⟩ := h2
    refine r_getR ev52 fk64 rfl d_M_answer_24 ?_
    refine r_iload_n (i := 1) (x := a1) 2 rfl d_M_answer_27 ?_
    have h2 := kr_ob h
    clear h
    obtain ⟨v53, ev53, h⟩ := h2
    refine r_iaload ev53 d_M_answer_28 ?_
    refine r_if_ne (tgt := 36) d_M_answer_29 rfl (fun c => ?_) (fun c => ?_)
    · replace h := kr_ip c h
      refine r_iconst (v := (1 : Int32)) (by decide) d_M_answer_32 ?_
      refine r_goto (tgt := 37) d_M_answer_33 rfl ?_
      exact kr_sub [1, 2, 3, 4] rfl (s_M_answer_B37 h)
    · replace h := kr_in_ c h
      exact kr_sub [1, 2, 3, 4] rfl (s_M_answer_B36 h)
/-! KeyringCourtModel.state(I)I -/
def f_M_state (S : AS) (a0 : Option Nat) (a1 : Int32) : Option (Int32 × AS) :=
  (kr_rv S 23 a0).bind fun u1 =>
  kr_b2 (f_M_isAttempt S a0 a1) fun v3 S2 =>
  (kr_rv S2 23 a0).bind fun u4 =>
  kr_b2 (f_M_may S2 a0 v3) fun v6 S5 =>
  if v6 = 0 then
  some ((0 : Int32), S5)
  else
  (gR S5 23 25 a0).bind fun v7 =>
  (aI S5 40 v7 a1).bind fun v8 =>
  some (v8, S5)
set_option maxRecDepth 20000 in
set_option maxHeartbeats 4000000 in
theorem s_M_state {S : AS} {a0 : Option Nat} {a1 : Int32} {r : (Int32 × AS)} (h : f_M_state S a0 a1 = some r) : kr_Con m_M_state 2 [va_rf a0, .int a1] S (kr_eI r) := by
  refine kr_con rfl rfl (by decide +kernel) (by simp [lg_sl, kr_rfcat, kr_icat, m_M_state, mL]) ?_
  rw [show lv_args 0 [va_rf a0, .int a1] = [(0, va_rf a0), (1, .int a1)] from by simp [lv_args, kr_rfcat, kr_icat]]
  unfold f_M_state at h
  refine r_aload_n (i := 0) (x := a0) 0 rfl d_M_state_0 ?_
  refine r_aload_n (i := 0) (x := a0) 0 rfl d_M_state_1 ?_
  refine r_iload_n (i := 1) (x := a1) 1 rfl d_M_state_2 ?_
  have h2 := kr_ob h
  clear h
  obtain ⟨⟨⟩, eu1, h⟩ := h2
  have h2 := kr_ob2 h
  clear h
  obtain ⟨v3, S2, eS2, h⟩ := h2
  refine r_callV (M1 := m_M_isAttempt) (κ := 23) (As := [.int a1]) eu1 (s_M_isAttempt eS2) mok_M_isAttempt rfl (by decide) rfl w1839 w1841 w60 (by decide) (kr_c8 (kr_cR kr_c0)) d_M_state_3 (kr_k1 ?_) kr_kn
  have h2 := kr_ob h
  clear h
  obtain ⟨⟨⟩, eu4, h⟩ := h2
  have h2 := kr_ob2 h
  clear h
  obtain ⟨v6, S5, eS5, h⟩ := h2
  refine r_callV (M1 := m_M_may) (κ := 23) (As := [.int v3]) eu4 (s_M_may eS5) mok_M_may rfl (by decide) rfl w1703 w1705 w42 (by decide) (kr_c8 kr_c0) d_M_state_6 (kr_k1 ?_) kr_kn
  refine r_if_eq (tgt := 21) d_M_state_9 rfl (fun c => ?_) (fun c => ?_)
  · replace h := kr_ip c h
    refine r_iconst (v := (0 : Int32)) (by decide) d_M_state_21 ?_
    cases h
    exact r_iret rfl d_M_state_22
  · replace h := kr_in_ c h
    refine r_aload_n (i := 0) (x := a0) 0 rfl d_M_state_12 ?_
    have h2 := kr_ob h
    clear h
    obtain ⟨v7, ev7, h⟩ := h2
    refine r_getR ev7 fk64 rfl d_M_state_13 ?_
    refine r_iload_n (i := 1) (x := a1) 1 rfl d_M_state_16 ?_
    have h2 := kr_ob h
    clear h
    obtain ⟨v8, ev8, h⟩ := h2
    refine r_iaload ev8 d_M_state_17 ?_
    refine r_goto (tgt := 22) d_M_state_18 rfl ?_
    cases h
    exact r_iret rfl d_M_state_22
/-! KeyringCourtModel.asked(I)I -/
def f_M_asked (S : AS) (a0 : Option Nat) (a1 : Int32) : Option (Int32 × AS) :=
  (kr_rv S 23 a0).bind fun u1 =>
  kr_b2 (f_M_isAttempt S a0 a1) fun v3 S2 =>
  (kr_rv S2 23 a0).bind fun u4 =>
  kr_b2 (f_M_may S2 a0 v3) fun v6 S5 =>
  if v6 = 0 then
  some ((0 : Int32), S5)
  else
  (gR S5 23 25 a0).bind fun v7 =>
  (aI S5 40 v7 a1).bind fun v8 =>
  if v8 = 0 then
  (gR S5 23 12 a0).bind fun v9 =>
  (gR S5 23 23 a0).bind fun v10 =>
  (aI S5 40 v10 a1).bind fun v11 =>
  (gR S5 23 24 a0).bind fun v12 =>
  (aI S5 40 v12 a1).bind fun v13 =>
  (aI S5 40 v9 (((12 : Int32) * v11) + v13)).bind fun v14 =>
  some (v14, S5)
  else
  some ((-1 : Int32), S5)
set_option maxRecDepth 20000 in
set_option maxHeartbeats 4000000 in
theorem s_M_asked {S : AS} {a0 : Option Nat} {a1 : Int32} {r : (Int32 × AS)} (h : f_M_asked S a0 a1 = some r) : kr_Con m_M_asked 2 [va_rf a0, .int a1] S (kr_eI r) := by
  refine kr_con rfl rfl (by decide +kernel) (by simp [lg_sl, kr_rfcat, kr_icat, m_M_asked, mL]) ?_
  rw [show lv_args 0 [va_rf a0, .int a1] = [(0, va_rf a0), (1, .int a1)] from by simp [lv_args, kr_rfcat, kr_icat]]
  unfold f_M_asked at h
  refine r_aload_n (i := 0) (x := a0) 0 rfl d_M_asked_0 ?_
  refine r_aload_n (i := 0) (x := a0) 0 rfl d_M_asked_1 ?_
  refine r_iload_n (i := 1) (x := a1) 1 rfl d_M_asked_2 ?_
  have h2 := kr_ob h
  clear h
  obtain ⟨⟨⟩, eu1, h⟩ := h2
  have h2 := kr_ob2 h
  clear h
  obtain ⟨v3, S2, eS2, h⟩ := h2
  refine r_callV (M1 := m_M_isAttempt) (κ := 23) (As := [.int a1]) eu1 (s_M_isAttempt eS2) mok_M_isAttempt rfl (by decide) rfl w1839 w1841 w60 (by decide) (kr_c8 (kr_cR kr_c0)) d_M_asked_3 (kr_k1 ?_) kr_kn
  have h2 := kr_ob h
  clear h
  obtain ⟨⟨⟩, eu4, h⟩ := h2
  have h2 := kr_ob2 h
  clear h
  obtain ⟨v6, S5, eS5, h⟩ := h2
  refine r_callV (M1 := m_M_may) (κ := 23) (As := [.int v3]) eu4 (s_M_may eS5) mok_M_may rfl (by decide) rfl w1703 w1705 w42 (by decide) (kr_c8 kr_c0) d_M_asked_6 (kr_k1 ?_) kr_kn
  refine r_if_ne (tgt := 14) d_M_asked_9 rfl (fun c => ?_) (fun c => ?_)
  · replace h := kr_ip c h
    refine r_iconst (v := (0 : Int32)) (by decide) d_M_asked_12 ?_
    cases h
    exact r_iret rfl d_M_asked_13
  · replace h := kr_in_ c h
    refine r_aload_n (i := 0) (x := a0) 0 rfl d_M_asked_14 ?_
    have h2 := kr_ob h
    clear h
    obtain ⟨v7, ev7, h⟩ := h2
    refine r_getR ev7 fk64 rfl d_M_asked_15 ?_
    refine r_iload_n (i := 1) (x := a1) 1 rfl d_M_asked_18 ?_
    have h2 := kr_ob h
    clear h
    obtain ⟨v8, ev8, h⟩ := h2
    refine r_iaload ev8 d_M_asked_19 ?_
    refine r_if_ne (tgt := 47) d_M_asked_20 rfl (fun c => ?_) (fun c => ?_)
    · replace h := kr_ip c h
      refine r_aload_n (i := 0) (x := a0) 0 rfl d_M_asked_23 ?_
      have h2 := kr_ob h
      clear h
      obtain ⟨v9, ev9, h⟩ := h2
      refine r_getR ev9 fk54 rfl d_M_asked_24 ?_
      refine r_bipush (v := (12 : Int32)) (by decide) d_M_asked_27 ?_
      refine r_aload_n (i := 0) (x := a0) 0 rfl d_M_asked_29 ?_
      have h2 := kr_ob h
      clear h
      obtain ⟨v10, ev10, h⟩ := h2
      refine r_getR ev10 fk62 rfl d_M_asked_30 ?_
      refine r_iload_n (i := 1) (x := a1) 1 rfl d_M_asked_33 ?_
      have h2 := kr_ob h
      clear h
      obtain ⟨v11, ev11, h⟩ := h2
      refine r_iaload ev11 d_M_asked_34 ?_
      refine r_imul d_M_asked_35 ?_
      refine r_aload_n (i := 0) (x := a0) 0 rfl d_M_asked_36 ?_
      have h2 := kr_ob h
      clear h
      obtain ⟨v12, ev12, h⟩ := h2
      refine r_getR ev12 fk63 rfl d_M_asked_37 ?_
      refine r_iload_n (i := 1) (x := a1) 1 rfl d_M_asked_40 ?_
      have h2 := kr_ob h
      clear h
      obtain ⟨v13, ev13, h⟩ := h2
      refine r_iaload ev13 d_M_asked_41 ?_
      refine r_iadd d_M_asked_42 ?_
      have h2 := kr_ob h
      clear h
      obtain ⟨v14, ev14, h⟩ := h2
      refine r_iaload ev14 d_M_asked_43 ?_
      refine r_goto (tgt := 48) d_M_asked_44 rfl ?_
      cases h
      exact r_iret rfl d_M_asked_48
    · replace h := kr_in_ c h
      refine r_iconst (v := (-1 : Int32)) (by decide) d_M_asked_47 ?_
      cases h
      exact r_iret rfl d_M_asked_48
/-! KeyringCourtModel.sessionOf(I)I -/
def f_M_sessionOf (S : AS) (a0 : Option Nat) (a1 : Int32) : Option (Int32 × AS) :=
  (kr_rv S 23 a0).bind fun u1 =>
  kr_b2 (f_M_isAttempt S a0 a1) fun v3 S2 =>
  (kr_rv S2 23 a0).bind fun u4 =>
  kr_b2 (f_M_may S2 a0 v3) fun v6 S5 =>
  if v6 = 0 then
  some ((0 : Int32), S5)
  else
  (gR S5 23 28 a0).bind fun v7 =>
  (aI S5 40 v7 a1).bind fun v8 =>
  some (v8, S5)
set_option maxRecDepth 20000 in
set_option maxHeartbeats 4000000 in
theorem s_M_sessionOf {S : AS} {a0 : Option Nat} {a1 : Int32} {r : (Int32 × AS)} (h : f_M_sessionOf S a0 a1 = some r) : kr_Con m_M_sessionOf 2 [va_rf a0, .int a1] S (kr_eI r) := by
  refine kr_con rfl rfl (by decide +kernel) (by simp [lg_sl, kr_rfcat, kr_icat, m_M_sessionOf, mL]) ?_
  rw [show lv_args 0 [va_rf a0, .int a1] = [(0, va_rf a0), (1, .int a1)] from by simp [lv_args, kr_rfcat, kr_icat]]
  unfold f_M_sessionOf at h
  refine r_aload_n (i := 0) (x := a0) 0 rfl d_M_sessionOf_0 ?_
  refine r_aload_n (i := 0) (x := a0) 0 rfl d_M_sessionOf_1 ?_
  refine r_iload_n (i := 1) (x := a1) 1 rfl d_M_sessionOf_2 ?_
  have h2 := kr_ob h
  clear h
  obtain ⟨⟨⟩, eu1, h⟩ := h2
  have h2 := kr_ob2 h
  clear h
  obtain ⟨v3, S2, eS2, h⟩ := h2
  refine r_callV (M1 := m_M_isAttempt) (κ := 23) (As := [.int a1]) eu1 (s_M_isAttempt eS2) mok_M_isAttempt rfl (by decide) rfl w1839 w1841 w60 (by decide) (kr_c8 (kr_cR kr_c0)) d_M_sessionOf_3 (kr_k1 ?_) kr_kn
  have h2 := kr_ob h
  clear h
  obtain ⟨⟨⟩, eu4, h⟩ := h2
  have h2 := kr_ob2 h
  clear h
  obtain ⟨v6, S5, eS5, h⟩ := h2
  refine r_callV (M1 := m_M_may) (κ := 23) (As := [.int v3]) eu4 (s_M_may eS5) mok_M_may rfl (by decide) rfl w1703 w1705 w42 (by decide) (kr_c8 kr_c0) d_M_sessionOf_6 (kr_k1 ?_) kr_kn
  refine r_if_eq (tgt := 21) d_M_sessionOf_9 rfl (fun c => ?_) (fun c => ?_)
  · replace h := kr_ip c h
    refine r_iconst (v := (0 : Int32)) (by decide) d_M_sessionOf_21 ?_
    cases h
    exact r_iret rfl d_M_sessionOf_22
  · replace h := kr_in_ c h
    refine r_aload_n (i := 0) (x := a0) 0 rfl d_M_sessionOf_12 ?_
    have h2 := kr_ob h
    clear h
    obtain ⟨v7, ev7, h⟩ := h2
    refine r_getR ev7 fk67 rfl d_M_sessionOf_13 ?_
    refine r_iload_n (i := 1) (x := a1) 1 rfl d_M_sessionOf_16 ?_
    have h2 := kr_ob h
    clear h
    obtain ⟨v8, ev8, h⟩ := h2
    refine r_iaload ev8 d_M_sessionOf_17 ?_
    refine r_goto (tgt := 22) d_M_sessionOf_18 rfl ?_
    cases h
    exact r_iret rfl d_M_sessionOf_22
/-! KeyringCourtModel.risk(I)I -/
def f_M_risk (S : AS) (a0 : Option Nat) (a1 : Int32) : Option (Int32 × AS) :=
  (kr_rv S 23 a0).bind fun u1 =>
  kr_b2 (f_M_isAttempt S a0 a1) fun v3 S2 =>
  (kr_rv S2 23 a0).bind fun u4 =>
  kr_b2 (f_M_may S2 a0 v3) fun v6 S5 =>
  if v6 = 0 then
  some ((0 : Int32), S5)
  else
  (kr_rv S5 23 a0).bind fun u7 =>
  kr_b2 (f_M_riskOf S5 a0 a1 (0 : Int32)) fun v9 S8 =>
  some (v9, S8)
set_option maxRecDepth 20000 in
set_option maxHeartbeats 4000000 in
theorem s_M_risk {S : AS} {a0 : Option Nat} {a1 : Int32} {r : (Int32 × AS)} (h : f_M_risk S a0 a1 = some r) : kr_Con m_M_risk 2 [va_rf a0, .int a1] S (kr_eI r) := by
  refine kr_con rfl rfl (by decide +kernel) (by simp [lg_sl, kr_rfcat, kr_icat, m_M_risk, mL]) ?_
  rw [show lv_args 0 [va_rf a0, .int a1] = [(0, va_rf a0), (1, .int a1)] from by simp [lv_args, kr_rfcat, kr_icat]]
  unfold f_M_risk at h
  refine r_aload_n (i := 0) (x := a0) 0 rfl d_M_risk_0 ?_
  refine r_aload_n (i := 0) (x := a0) 0 rfl d_M_risk_1 ?_
  refine r_iload_n (i := 1) (x := a1) 1 rfl d_M_risk_2 ?_
  have h2 := kr_ob h
  clear h
  obtain ⟨⟨⟩, eu1, h⟩ := h2
  have h2 := kr_ob2 h
  clear h
  obtain ⟨v3, S2, eS2, h⟩ := h2
  refine r_callV (M1 := m_M_isAttempt) (κ := 23) (As := [.int a1]) eu1 (s_M_isAttempt eS2) mok_M_isAttempt rfl (by decide) rfl w1839 w1841 w60 (by decide) (kr_c8 (kr_cR kr_c0)) d_M_risk_3 (kr_k1 ?_) kr_kn
  have h2 := kr_ob h
  clear h
  obtain ⟨⟨⟩, eu4, h⟩ := h2
  have h2 := kr_ob2 h
  clear h
  obtain ⟨v6, S5, eS5, h⟩ := h2
  refine r_callV (M1 := m_M_may) (κ := 23) (As := [.int v3]) eu4 (s_M_may eS5) mok_M_may rfl (by decide) rfl w1703 w1705 w42 (by decide) (kr_c8 kr_c0) d_M_risk_6 (kr_k1 ?_) kr_kn
  refine r_if_eq (tgt := 21) d_M_risk_9 rfl (fun c => ?_) (fun c => ?_)
  · replace h := kr_ip c h
    refine r_iconst (v := (0 : Int32)) (by decide) d_M_risk_21 ?_
    cases h
    exact r_iret rfl d_M_risk_22
  · replace h := kr_in_ c h
    refine r_aload_n (i := 0) (x := a0) 0 rfl d_M_risk_12 ?_
    refine r_iload_n (i := 1) (x := a1) 1 rfl d_M_risk_13 ?_
    refine r_iconst (v := (0 : Int32)) (by decide) d_M_risk_14 ?_
    have h2 := kr_ob h
    clear h
    obtain ⟨⟨⟩, eu7, h⟩ := h2
    have h2 := kr_ob2 h
    clear h
    obtain ⟨v9, S8, eS8, h⟩ := h2
    refine r_callV (M1 := m_M_riskOf) (κ := 23) (As := [.int a1, .int (0 : Int32)]) eu7 (s_M_riskOf eS8) mok_M_riskOf rfl (by decide) rfl w1811 w1813 w54 (by decide) (kr_c8 kr_c0) d_M_risk_15 (kr_k1 ?_) kr_kn
    refine r_goto (tgt := 22) d_M_risk_18 rfl ?_
    cases h
    exact r_iret rfl d_M_risk_22
/-! KeyringCourtModel.trialRisk(I)I -/
def f_M_trialRisk (S : AS) (a0 : Option Nat) (a1 : Int32) : Option (Int32 × AS) :=
  (kr_rv S 23 a0).bind fun u1 =>
  kr_b2 (f_M_isAttempt S a0 a1) fun v3 S2 =>
  (kr_rv S2 23 a0).bind fun u4 =>
  kr_b2 (f_M_may S2 a0 v3) fun v6 S5 =>
  if v6 = 0 then
  some ((0 : Int32), S5)
  else
  (kr_rv S5 23 a0).bind fun u7 =>
  kr_b2 (f_M_riskOf S5 a0 a1 (1 : Int32)) fun v9 S8 =>
  some (v9, S8)
set_option maxRecDepth 20000 in
set_option maxHeartbeats 4000000 in
theorem s_M_trialRisk {S : AS} {a0 : Option Nat} {a1 : Int32} {r : (Int32 × AS)} (h : f_M_trialRisk S a0 a1 = some r) : kr_Con m_M_trialRisk 2 [va_rf a0, .int a1] S (kr_eI r) := by
  refine kr_con rfl rfl (by decide +kernel) (by simp [lg_sl, kr_rfcat, kr_icat, m_M_trialRisk, mL]) ?_
  rw [show lv_args 0 [va_rf a0, .int a1] = [(0, va_rf a0), (1, .int a1)] from by simp [lv_args, kr_rfcat, kr_icat]]
  unfold f_M_trialRisk at h
  refine r_aload_n (i := 0) (x := a0) 0 rfl d_M_trialRisk_0 ?_
  refine r_aload_n (i := 0) (x := a0) 0 rfl d_M_trialRisk_1 ?_
  refine r_iload_n (i := 1) (x := a1) 1 rfl d_M_trialRisk_2 ?_
  have h2 := kr_ob h
  clear h
  obtain ⟨⟨⟩, eu1, h⟩ := h2
  have h2 := kr_ob2 h
  clear h
  obtain ⟨v3, S2, eS2, h⟩ := h2
  refine r_callV (M1 := m_M_isAttempt) (κ := 23) (As := [.int a1]) eu1 (s_M_isAttempt eS2) mok_M_isAttempt rfl (by decide) rfl w1839 w1841 w60 (by decide) (kr_c8 (kr_cR kr_c0)) d_M_trialRisk_3 (kr_k1 ?_) kr_kn
  have h2 := kr_ob h
  clear h
  obtain ⟨⟨⟩, eu4, h⟩ := h2
  have h2 := kr_ob2 h
  clear h
  obtain ⟨v6, S5, eS5, h⟩ := h2
  refine r_callV (M1 := m_M_may) (κ := 23) (As := [.int v3]) eu4 (s_M_may eS5) mok_M_may rfl (by decide) rfl w1703 w1705 w42 (by decide) (kr_c8 kr_c0) d_M_trialRisk_6 (kr_k1 ?_) kr_kn
  refine r_if_eq (tgt := 21) d_M_trialRisk_9 rfl (fun c => ?_) (fun c => ?_)
  · replace h := kr_ip c h
    refine r_iconst (v := (0 : Int32)) (by decide) d_M_trialRisk_21 ?_
    cases h
    exact r_iret rfl d_M_trialRisk_22
  · replace h := kr_in_ c h
    refine r_aload_n (i := 0) (x := a0) 0 rfl d_M_trialRisk_12 ?_
    refine r_iload_n (i := 1) (x := a1) 1 rfl d_M_trialRisk_13 ?_
    refine r_iconst (v := (1 : Int32)) (by decide) d_M_trialRisk_14 ?_
    have h2 := kr_ob h
    clear h
    obtain ⟨⟨⟩, eu7, h⟩ := h2
    have h2 := kr_ob2 h
    clear h
    obtain ⟨v9, S8, eS8, h⟩ := h2
    refine r_callV (M1 := m_M_riskOf) (κ := 23) (As := [.int a1, .int (1 : Int32)]) eu7 (s_M_riskOf eS8) mok_M_riskOf rfl (by decide) rfl w1811 w1813 w54 (by decide) (kr_c8 kr_c0) d_M_trialRisk_15 (kr_k1 ?_) kr_kn
    refine r_goto (tgt := 22) d_M_trialRisk_18 rfl ?_
    cases h
    exact r_iret rfl d_M_trialRisk_22
/-! KeyringCourtModel.sessions()I -/
def f_M_sessions (S : AS) (a0 : Option Nat) : Option (Int32 × AS) :=
  (pI S 23 82 a0 (0 : Int32)).bind fun S1 =>
  (gI S1 23 30 a0).bind fun v2 =>
  some (v2, S1)
set_option maxRecDepth 20000 in
set_option maxHeartbeats 4000000 in
theorem s_M_sessions {S : AS} {a0 : Option Nat} {r : (Int32 × AS)} (h : f_M_sessions S a0 = some r) : kr_Con m_M_sessions 0 [va_rf a0] S (kr_eI r) := by
  refine kr_con rfl rfl (by decide +kernel) (by simp [lg_sl, kr_rfcat, kr_icat, m_M_sessions, mL]) ?_
  rw [show lv_args 0 [va_rf a0] = [(0, va_rf a0)] from by simp [lv_args, kr_rfcat, kr_icat]]
  unfold f_M_sessions at h
  refine r_aload_n (i := 0) (x := a0) 0 rfl d_M_sessions_0 ?_
  refine r_iconst (v := (0 : Int32)) (by decide) d_M_sessions_1 ?_
  have h2 := kr_ob h
  clear h
  obtain ⟨S1, eS1, h⟩ := h2
  refine r_putI eS1 fk128 (Or.inl rfl) rfl d_M_sessions_2 ?_
  refine r_aload_n (i := 0) (x := a0) 0 rfl d_M_sessions_5 ?_
  have h2 := kr_ob h
  clear h
  obtain ⟨v2, ev2, h⟩ := h2
  refine r_getI ev2 fk133 rfl d_M_sessions_6 ?_
  cases h
  exact r_iret rfl d_M_sessions_9
/-! KeyringCourtModel.isSession(I)Z -/
def f_M_isSession (S : AS) (a0 : Option Nat) (a1 : Int32) : Option (Int32 × AS) :=
  (gI S 23 30 a0).bind fun v1 =>
  kr_b2 (f_M_isIn S a1 (0 : Int32) (v1 - (1 : Int32))) fun v3 S2 =>
  (kr_z v3).bind fun u4 =>
  some (v3, S2)
set_option maxRecDepth 20000 in
set_option maxHeartbeats 4000000 in
theorem s_M_isSession {S : AS} {a0 : Option Nat} {a1 : Int32} {r : (Int32 × AS)} (h : f_M_isSession S a0 a1 = some r) : kr_Con m_M_isSession 1 [va_rf a0, .int a1] S (kr_eI r) := by
  refine kr_con rfl rfl (by decide +kernel) (by simp [lg_sl, kr_rfcat, kr_icat, m_M_isSession, mL]) ?_
  rw [show lv_args 0 [va_rf a0, .int a1] = [(0, va_rf a0), (1, .int a1)] from by simp [lv_args, kr_rfcat, kr_icat]]
  unfold f_M_isSession at h
  refine r_iload_n (i := 1) (x := a1) 1 rfl d_M_isSession_0 ?_
  refine r_iconst (v := (0 : Int32)) (by decide) d_M_isSession_1 ?_
  refine r_aload_n (i := 0) (x := a0) 0 rfl d_M_isSession_2 ?_
  have h2 := kr_ob h
  clear h
  obtain ⟨v1, ev1, h⟩ := h2
  refine r_getI ev1 fk133 rfl d_M_isSession_3 ?_
  refine r_iconst (v := (1 : Int32)) (by decide) d_M_isSession_6 ?_
  refine r_isub d_M_isSession_7 ?_
  have h2 := kr_ob2 h
  clear h
  obtain ⟨v3, S2, eS2, h⟩ := h2
  refine r_callS (M1 := m_M_isIn) (As := [.int a1, .int (0 : Int32), .int (v1 - (1 : Int32))]) (s_M_isIn eS2) mok_M_isIn rfl w1700 w1701 (by decide) (kr_c8 kr_c0) d_M_isSession_8 (kr_k1 ?_) kr_kn
  have h2 := kr_ob h
  clear h
  obtain ⟨⟨⟩, eu4, h⟩ := h2
  cases h
  exact r_zret rfl eu4 d_M_isSession_11
/-! KeyringCourtModel.isLive(I)Z -/
def f_M_isLive (S : AS) (a0 : Option Nat) (a1 : Int32) : Option (Int32 × AS) :=
  (kr_rv S 23 a0).bind fun u1 =>
  kr_b2 (f_M_isSession S a0 a1) fun v3 S2 =>
  (kr_rv S2 23 a0).bind fun u4 =>
  kr_b2 (f_M_may S2 a0 v3) fun v6 S5 =>
  if v6 = 0 then
  some ((0 : Int32), S5)
  else
  (gR S5 23 35 a0).bind fun v7 =>
  (aI S5 41 v7 a1).bind fun v8 =>
  if v8 = 0 then
  some ((0 : Int32), S5)
  else
  some ((1 : Int32), S5)
set_option maxRecDepth 20000 in
set_option maxHeartbeats 4000000 in
theorem s_M_isLive {S : AS} {a0 : Option Nat} {a1 : Int32} {r : (Int32 × AS)} (h : f_M_isLive S a0 a1 = some r) : kr_Con m_M_isLive 2 [va_rf a0, .int a1] S (kr_eI r) := by
  refine kr_con rfl rfl (by decide +kernel) (by simp [lg_sl, kr_rfcat, kr_icat, m_M_isLive, mL]) ?_
  rw [show lv_args 0 [va_rf a0, .int a1] = [(0, va_rf a0), (1, .int a1)] from by simp [lv_args, kr_rfcat, kr_icat]]
  unfold f_M_isLive at h
  refine r_aload_n (i := 0) (x := a0) 0 rfl d_M_isLive_0 ?_
  refine r_aload_n (i := 0) (x := a0) 0 rfl d_M_isLive_1 ?_
  refine r_iload_n (i := 1) (x := a1) 1 rfl d_M_isLive_2 ?_
  have h2 := kr_ob h
  clear h
  obtain ⟨⟨⟩, eu1, h⟩ := h2
  have h2 := kr_ob2 h
  clear h
  obtain ⟨v3, S2, eS2, h⟩ := h2
  refine r_callV (M1 := m_M_isSession) (κ := 23) (As := [.int a1]) eu1 (s_M_isSession eS2) mok_M_isSession rfl (by decide) rfl w1883 w1885 w64 (by decide) (kr_c8 (kr_cR kr_c0)) d_M_isLive_3 (kr_k1 ?_) kr_kn
  have h2 := kr_ob h
  clear h
  obtain ⟨⟨⟩, eu4, h⟩ := h2
  have h2 := kr_ob2 h
  clear h
  obtain ⟨v6, S5, eS5, h⟩ := h2
  refine r_callV (M1 := m_M_may) (κ := 23) (As := [.int v3]) eu4 (s_M_may eS5) mok_M_may rfl (by decide) rfl w1703 w1705 w42 (by decide) (kr_c8 kr_c0) d_M_isLive_6 (kr_k1 ?_) kr_kn
  refine r_if_eq (tgt := 25) d_M_isLive_9 rfl (fun c => ?_) (fun c => ?_)
  · replace h := kr_ip c h
    refine r_iconst (v := (0 : Int32)) (by decide) d_M_isLive_25 ?_
    cases h
    exact r_zret rfl rfl d_M_isLive_26
  · replace h := kr_in_ c h
    refine r_aload_n (i := 0) (x := a0) 0 rfl d_M_isLive_12 ?_
    have h2 := kr_ob h
    clear h
    obtain ⟨v7, ev7, h⟩ := h2
    refine r_getR ev7 fk73 rfl d_M_isLive_13 ?_
    refine r_iload_n (i := 1) (x := a1) 1 rfl d_M_isLive_16 ?_
    have h2 := kr_ob h
    clear h
    obtain ⟨v8, ev8, h⟩ := h2
    refine r_baload ev8 d_M_isLive_17 ?_
    refine r_if_eq (tgt := 25) d_M_isLive_18 rfl (fun c => ?_) (fun c => ?_)
    · replace h := kr_ip c h
      refine r_iconst (v := (0 : Int32)) (by decide) d_M_isLive_25 ?_
      cases h
      exact r_zret rfl rfl d_M_isLive_26
    · replace h := kr_in_ c h
      refine r_iconst (v := (1 : Int32)) (by decide) d_M_isLive_21 ?_
      refine r_goto (tgt := 26) d_M_isLive_22 rfl ?_
      cases h
      exact r_zret rfl rfl d_M_isLive_26
/-! KeyringCourtModel.isLiveByAudit(I)Z -/
def f_M_isLiveByAudit_B64 (k18 : AS → Option Nat → Int32 → Int32 → Int32 → Option (Int32 × AS)) (S : AS) (x0 : Option Nat) (x1 : Int32) (x3 : Int32) (y0 : Int32) : Option (Int32 × AS) :=
  (some (x3 + (1 : Int32))).bind fun i1 =>
  k18 S x0 x1 y0 i1
def f_M_isLiveByAudit_B63 (k18 : AS → Option Nat → Int32 → Int32 → Int32 → Option (Int32 × AS)) (S : AS) (x0 : Option Nat) (x1 : Int32) (x2 : Int32) (x3 : Int32) : Option (Int32 × AS) :=
  f_M_isLiveByAudit_B64 k18 S x0 x1 x3 x2
def f_M_isLiveByAudit_C18 (k18 : AS → Option Nat → Int32 → Int32 → Int32 → Option (Int32 × AS)) (S : AS) (x0 : Option Nat) (x1 : Int32) (x2 : Int32) (x3 : Int32) : Option (Int32 × AS) :=
  (gI S 23 77 x0).bind fun v2 =>
  if v2 ≤ x3 then
  (kr_z x2).bind fun u3 =>
  some (x2, S)
  else
  (gR S 23 79 x0).bind fun v4 =>
  (aI S 40 v4 x3).bind fun v5 =>
  if v5 = x1 then
  (gR S 23 78 x0).bind fun v6 =>
  (aI S 40 v6 x3).bind fun v7 =>
  if (2 : Int32) ≤ v7 then
  f_M_isLiveByAudit_B63 k18 S x0 x1 x2 x3
  else
  (gR S 23 78 x0).bind fun v8 =>
  (aI S 40 v8 x3).bind fun v9 =>
  if v9 = 0 then
  f_M_isLiveByAudit_B64 k18 S x0 x1 x3 (1 : Int32)
  else
  f_M_isLiveByAudit_B64 k18 S x0 x1 x3 (0 : Int32)
  else
  f_M_isLiveByAudit_B63 k18 S x0 x1 x2 x3
def f_M_isLiveByAudit_L18 : Nat → AS → Option Nat → Int32 → Int32 → Int32 → Option (Int32 × AS)
  | 0, S, x0, x1, x2, x3 => none
  | n + 1, S, x0, x1, x2, x3 => f_M_isLiveByAudit_C18 (f_M_isLiveByAudit_L18 n) S x0 x1 x2 x3
def f_M_isLiveByAudit (S : AS) (a0 : Option Nat) (a1 : Int32) : Option (Int32 × AS) :=
  (kr_rv S 23 a0).bind fun u10 =>
  kr_b2 (f_M_isSession S a0 a1) fun v12 S11 =>
  (kr_rv S11 23 a0).bind fun u13 =>
  kr_b2 (f_M_may S11 a0 v12) fun v15 S14 =>
  if v15 = 0 then
  some ((0 : Int32), S14)
  else
  f_M_isLiveByAudit_L18 kr_FU S14 a0 a1 (0 : Int32) (0 : Int32)
set_option maxRecDepth 20000 in
set_option maxHeartbeats 4000000 in
theorem s_M_isLiveByAudit_B64 {k18 : AS → Option Nat → Int32 → Int32 → Int32 → Option (Int32 × AS)} (hk18 : ∀ {S : AS} {x0 : Option Nat} {x1 : Int32} {x2 : Int32} {x3 : Int32} {r : (Int32 × AS)}, k18 S x0 x1 x2 x3 = some r → kr_AW m_M_isLiveByAudit 2 18 [(0, va_rf x0), (1, .int x1), (2, .int x2), (3, .int x3)] [] S (kr_eI r)) {S : AS} {x0 : Option Nat} {x1 : Int32} {x3 : Int32} {y0 : Int32} {r : (Int32 × AS)} (h : f_M_isLiveByAudit_B64 k18 S x0 x1 x3 y0 = some r) : kr_AW m_M_isLiveByAudit 2 64 [(0, va_rf x0), (1, .int x1), (3, .int x3)] [.int y0] S (kr_eI r) := by
  unfold f_M_isLiveByAudit_B64 at h
  refine r_istore_n (i := 2) (lv' := [(2, .int y0), (0, va_rf x0), (1, .int x1), (3, .int x3)]) (by decide) rfl d_M_isLiveByAudit_64 ?_
  have h2 := kr_ob h
  clear h
  obtain ⟨i1, ei1, h⟩ := h2
  refine r_iinc (v := i1) (lv' := [(3, .int i1), (2, .int y0), (0, va_rf x0), (1, .int x1)]) 3 rfl (kr_inc (by decide) ei1) (by decide) rfl d_M_isLiveByAudit_65 ?_
  refine r_goto (tgt := 18) d_M_isLiveByAudit_68 rfl ?_
  exact kr_sub [2, 3, 1, 0] rfl (hk18 h)
set_option maxRecDepth 20000 in
set_option maxHeartbeats 4000000 in
theorem s_M_isLiveByAudit_B63 {k18 : AS → Option Nat → Int32 → Int32 → Int32 → Option (Int32 × AS)} (hk18 : ∀ {S : AS} {x0 : Option Nat} {x1 : Int32} {x2 : Int32} {x3 : Int32} {r : (Int32 × AS)}, k18 S x0 x1 x2 x3 = some r → kr_AW m_M_isLiveByAudit 2 18 [(0, va_rf x0), (1, .int x1), (2, .int x2), (3, .int x3)] [] S (kr_eI r)) {S : AS} {x0 : Option Nat} {x1 : Int32} {x2 : Int32} {x3 : Int32} {r : (Int32 × AS)} (h : f_M_isLiveByAudit_B63 k18 S x0 x1 x2 x3 = some r) : kr_AW m_M_isLiveByAudit 2 63 [(0, va_rf x0), (1, .int x1), (2, .int x2), (3, .int x3)] [] S (kr_eI r) := by
  unfold f_M_isLiveByAudit_B63 at h
  refine r_iload_n (i := 2) (x := x2) 2 rfl d_M_isLiveByAudit_63 ?_
  exact kr_sub [0, 1, 3] rfl (s_M_isLiveByAudit_B64 hk18 h)
set_option maxRecDepth 20000 in
set_option maxHeartbeats 4000000 in
theorem s_M_isLiveByAudit_C18 {k18 : AS → Option Nat → Int32 → Int32 → Int32 → Option (Int32 × AS)} (hk18 : ∀ {S : AS} {x0 : Option Nat} {x1 : Int32} {x2 : Int32} {x3 : Int32} {r : (Int32 × AS)}, k18 S x0 x1 x2 x3 = some r → kr_AW m_M_isLiveByAudit 2 18 [(0, va_rf x0), (1, .int x1), (2, .int x2), (3, .int x3)] [] S (kr_eI r)) {S : AS} {x0 : Option Nat} {x1 : Int32} {x2 : Int32} {x3 : Int32} {r : (Int32 × AS)} (h : f_M_isLiveByAudit_C18 k18 S x0 x1 x2 x3 = some r) : kr_AW m_M_isLiveByAudit 2 18 [(0, va_rf x0), (1, .int x1), (2, .int x2), (3, .int x3)] [] S (kr_eI r) := by
  unfold f_M_isLiveByAudit_C18 at h
  refine r_iload_n (i := 3) (x := x3) 3 rfl d_M_isLiveByAudit_18 ?_
  refine r_aload_n (i := 0) (x := x0) 0 rfl d_M_isLiveByAudit_19 ?_
  have h2 := kr_ob h
  clear h
  obtain ⟨v2, ev2, h⟩ := h2
  refine r_getI ev2 fk129 rfl d_M_isLiveByAudit_20 ?_
  refine r_icmp_ge (tgt := 71) d_M_isLiveByAudit_23 rfl (fun c => ?_) (fun c => ?_)
  · replace h := kr_ip c h
    refine r_iload_n (i := 2) (x := x2) 2 rfl d_M_isLiveByAudit_71 ?_
    have h2 := kr_ob h
    clear h
    obtain ⟨⟨⟩, eu3, h⟩ := h2
    cases h
    exact r_zret rfl eu3 d_M_isLiveByAudit_72
  · replace h := kr_in_ c h
    refine r_aload_n (i := 0) (x := x0) 0 rfl d_M_isLiveByAudit_26 ?_
    have h2 := kr_ob h
    clear h
    obtain ⟨v4, ev4, h⟩ := h2
    refine r_getR ev4 fk107 rfl d_M_isLiveByAudit_27 ?_
    refine r_iload_n (i := 3) (x := x3) 3 rfl d_M_isLiveByAudit_30 ?_
    have h2 := kr_ob h
    clear h
    obtain ⟨v5, ev5, h⟩ := h2
    refine r_iaload ev5 d_M_isLiveByAudit_31 ?_
    refine r_iload_n (i := 1) (x := x1) 1 rfl d_M_isLiveByAudit_32 ?_
    refine r_icmp_ne (tgt := 63) d_M_isLiveByAudit_33 rfl (fun c => ?_) (fun c => ?_)
    · replace h := kr_ip c h
      refine r_aload_n (i := 0) (x := x0) 0 rfl d_M_isLiveByAudit_36 ?_
      have h2 := kr_ob h
      clear h
      obtain ⟨v6, ev6, h⟩ := h2
      refine r_getR ev6 fk106 rfl d_M_isLiveByAudit_37 ?_
      refine r_iload_n (i := 3) (x := x3) 3 rfl d_M_isLiveByAudit_40 ?_
      have h2 := kr_ob h
      clear h
      obtain ⟨v7, ev7, h⟩ := h2
      refine r_iaload ev7 d_M_isLiveByAudit_41 ?_
      refine r_iconst (v := (2 : Int32)) (by decide) d_M_isLiveByAudit_42 ?_
      refine r_icmp_ge (tgt := 63) d_M_isLiveByAudit_43 rfl (fun c => ?_) (fun c => ?_)
      · replace h := kr_ip c h
        exact kr_sub [0, 1, 2, 3] rfl (s_M_isLiveByAudit_B63 hk18 h)
      · replace h := kr_in_ c h
        refine r_aload_n (i := 0) (x := x0) 0 rfl d_M_isLiveByAudit_46 ?_
        have h2 := kr_ob h
        clear h
        obtain ⟨v8, ev8, h⟩ := h2
        refine r_getR ev8 fk106 rfl d_M_isLiveByAudit_47 ?_
        refine r_iload_n (i := 3) (x := x3) 3 rfl d_M_isLiveByAudit_50 ?_
        have h2 := kr_ob h
        clear h
        obtain ⟨v9, ev9, h⟩ := h2
        refine r_iaload ev9 d_M_isLiveByAudit_51 ?_
        refine r_if_ne (tgt := 59) d_M_isLiveByAudit_52 rfl (fun c => ?_) (fun c => ?_)
        · replace h := kr_ip c h
          refine r_iconst (v := (1 : Int32)) (by decide) d_M_isLiveByAudit_55 ?_
          refine r_goto (tgt := 64) d_M_isLiveByAudit_56 rfl ?_
          exact kr_sub [0, 1, 3] rfl (s_M_isLiveByAudit_B64 hk18 h)
        · replace h := kr_in_ c h
          refine r_iconst (v := (0 : Int32)) (by decide) d_M_isLiveByAudit_59 ?_
          refine r_goto (tgt := 64) d_M_isLiveByAudit_60 rfl ?_
          exact kr_sub [0, 1, 3] rfl (s_M_isLiveByAudit_B64 hk18 h)
    · replace h := kr_in_ c h
      exact kr_sub [0, 1, 2, 3] rfl (s_M_isLiveByAudit_B63 hk18 h)
theorem s_M_isLiveByAudit_L18 (n : Nat) : ∀ {S : AS} {x0 : Option Nat} {x1 : Int32} {x2 : Int32} {x3 : Int32} {r : (Int32 × AS)}, f_M_isLiveByAudit_L18 n S x0 x1 x2 x3 = some r → kr_AW m_M_isLiveByAudit 2 18 [(0, va_rf x0), (1, .int x1), (2, .int x2), (3, .int x3)] [] S (kr_eI r) := by
  induction n with
  | zero => intro S x0 x1 x2 x3 r h; cases h
  | succ n ih => intro S x0 x1 x2 x3 r h; exact s_M_isLiveByAudit_C18 (fun {_} {_} {_} {_} {_} {_} h => ih h) h
set_option maxRecDepth 20000 in
set_option maxHeartbeats 4000000 in
theorem s_M_isLiveByAudit {S : AS} {a0 : Option Nat} {a1 : Int32} {r : (Int32 × AS)} (h : f_M_isLiveByAudit S a0 a1 = some r) : kr_Con m_M_isLiveByAudit 2 [va_rf a0, .int a1] S (kr_eI r) := by
  refine kr_con rfl rfl (by decide +kernel) (by simp [lg_sl, kr_rfcat, kr_icat, m_M_isLiveByAudit, mL]) ?_
  rw [show lv_args 0 [va_rf a0, .int a1] = [(0, va_rf a0), (1, .int a1)] from by simp [lv_args, kr_rfcat, kr_icat]]
  unfold f_M_isLiveByAudit at h
  refine r_aload_n (i := 0) (x := a0) 0 rfl d_M_isLiveByAudit_0 ?_
  refine r_aload_n (i := 0) (x := a0) 0 rfl d_M_isLiveByAudit_1 ?_
  refine r_iload_n (i := 1) (x := a1) 1 rfl d_M_isLiveByAudit_2 ?_
  have h2 := kr_ob h
  clear h
  obtain ⟨⟨⟩, eu10, h⟩ := h2
  have h2 := kr_ob2 h
  clear h
  obtain ⟨v12, S11, eS11, h⟩ := h2
  refine r_callV (M1 := m_M_isSession) (κ := 23) (As := [.int a1]) eu10 (s_M_isSession eS11) mok_M_isSession rfl (by decide) rfl w1883 w1885 w64 (by decide) (kr_c8 (kr_cR kr_c0)) d_M_isLiveByAudit_3 (kr_k1 ?_) kr_kn
  have h2 := kr_ob h
  clear h
  obtain ⟨⟨⟩, eu13, h⟩ := h2
  have h2 := kr_ob2 h
  clear h
  obtain ⟨v15, S14, eS14, h⟩ := h2
  refine r_callV (M1 := m_M_may) (κ := 23) (As := [.int v12]) eu13 (s_M_may eS14) mok_M_may rfl (by decide) rfl w1703 w1705 w42 (by decide) (kr_c8 kr_c0) d_M_isLiveByAudit_6 (kr_k1 ?_) kr_kn
  refine r_if_ne (tgt := 14) d_M_isLiveByAudit_9 rfl (fun c => ?_) (fun c => ?_)
  · replace h := kr_ip c h
    refine r_iconst (v := (0 : Int32)) (by decide) d_M_isLiveByAudit_12 ?_
    cases h
    exact r_zret rfl rfl d_M_isLiveByAudit_13
  · replace h := kr_in_ c h
    refine r_iconst (v := (0 : Int32)) (by decide) d_M_isLiveByAudit_14 ?_
    refine r_istore_n (i := 2) (lv' := [(2, .int (0 : Int32)), (0, va_rf a0), (1, .int a1)]) (by decide) rfl d_M_isLiveByAudit_15 ?_
    refine r_iconst (v := (0 : Int32)) (by decide) d_M_isLiveByAudit_16 ?_
    refine r_istore_n (i := 3) (lv' := [(3, .int (0 : Int32)), (2, .int (0 : Int32)), (0, va_rf a0), (1, .int a1)]) (by decide) rfl d_M_isLiveByAudit_17 ?_
    exact kr_sub [2, 3, 1, 0] rfl (s_M_isLiveByAudit_L18 kr_FU h)
/-! KeyringCourtModel.levelNow(I)I -/
def f_M_levelNow_B47 (k4 : AS → Option Nat → Int32 → Int32 → Int32 → Option (Int32 × AS)) (S : AS) (x0 : Option Nat) (x1 : Int32) (x3 : Int32) (y0 : Int32) (y1 : Int32) : Option (Int32 × AS) :=
  (some (y0 ||| y1)).bind fun i1 =>
  (some (x3 + (1 : Int32))).bind fun i2 =>
  k4 S x0 x1 i1 i2
def f_M_levelNow_B46 (k4 : AS → Option Nat → Int32 → Int32 → Int32 → Option (Int32 × AS)) (S : AS) (x0 : Option Nat) (x1 : Int32) (x3 : Int32) (y0 : Int32) : Option (Int32 × AS) :=
  f_M_levelNow_B47 k4 S x0 x1 x3 y0 (0 : Int32)
def f_M_levelNow_C4 (k4 : AS → Option Nat → Int32 → Int32 → Int32 → Option (Int32 × AS)) (S : AS) (x0 : Option Nat) (x1 : Int32) (x2 : Int32) (x3 : Int32) : Option (Int32 × AS) :=
  if (3 : Int32) ≤ x3 then
  kr_b2 (f_M_levelOf S x2) fun v4 S3 =>
  some (v4, S3)
  else
  (gR S 23 36 x0).bind fun v5 =>
  (aI S 40 v5 (((3 : Int32) * x1) + x3)).bind fun v6 =>
  if v6 = (-1 : Int32) then
  f_M_levelNow_B46 k4 S x0 x1 x3 x2
  else
  (gI S 23 0 x0).bind fun v7 =>
  if (120 : Int32) < (v7 - v6) then
  f_M_levelNow_B46 k4 S x0 x1 x3 x2
  else
  f_M_levelNow_B47 k4 S x0 x1 x3 x2 ((1 : Int32) <<< (x3 &&& 31))
def f_M_levelNow_L4 : Nat → AS → Option Nat → Int32 → Int32 → Int32 → Option (Int32 × AS)
  | 0, S, x0, x1, x2, x3 => none
  | n + 1, S, x0, x1, x2, x3 => f_M_levelNow_C4 (f_M_levelNow_L4 n) S x0 x1 x2 x3
def f_M_levelNow (S : AS) (a0 : Option Nat) (a1 : Int32) : Option (Int32 × AS) :=
  f_M_levelNow_L4 kr_FU S a0 a1 (0 : Int32) (0 : Int32)
set_option maxRecDepth 20000 in
set_option maxHeartbeats 4000000 in
theorem s_M_levelNow_B47 {k4 : AS → Option Nat → Int32 → Int32 → Int32 → Option (Int32 × AS)} (hk4 : ∀ {S : AS} {x0 : Option Nat} {x1 : Int32} {x2 : Int32} {x3 : Int32} {r : (Int32 × AS)}, k4 S x0 x1 x2 x3 = some r → kr_AW m_M_levelNow 1 4 [(0, va_rf x0), (1, .int x1), (2, .int x2), (3, .int x3)] [] S (kr_eI r)) {S : AS} {x0 : Option Nat} {x1 : Int32} {x3 : Int32} {y0 : Int32} {y1 : Int32} {r : (Int32 × AS)} (h : f_M_levelNow_B47 k4 S x0 x1 x3 y0 y1 = some r) : kr_AW m_M_levelNow 1 47 [(0, va_rf x0), (1, .int x1), (3, .int x3)] [.int y1, .int y0] S (kr_eI r) := by
  unfold f_M_levelNow_B47 at h
  refine r_ior d_M_levelNow_47 ?_
  have h2 := kr_ob h
  clear h
  obtain ⟨i1, ei1, h⟩ := h2
  refine kr_nmI ei1 ?_
  refine r_istore_n (i := 2) (lv' := [(2, .int i1), (0, va_rf x0), (1, .int x1), (3, .int x3)]) (by decide) rfl d_M_levelNow_48 ?_
  have h2 := kr_ob h
  clear h
  obtain ⟨i2, ei2, h⟩ := h2
  refine r_iinc (v := i2) (lv' := [(3, .int i2), (2, .int i1), (0, va_rf x0), (1, .int x1)]) 3 rfl (kr_inc (by decide) ei2) (by decide) rfl d_M_levelNow_49 ?_
  refine r_goto (tgt := 4) d_M_levelNow_52 rfl ?_
  exact kr_sub [2, 3, 1, 0] rfl (hk4 h)
set_option maxRecDepth 20000 in
set_option maxHeartbeats 4000000 in
theorem s_M_levelNow_B46 {k4 : AS → Option Nat → Int32 → Int32 → Int32 → Option (Int32 × AS)} (hk4 : ∀ {S : AS} {x0 : Option Nat} {x1 : Int32} {x2 : Int32} {x3 : Int32} {r : (Int32 × AS)}, k4 S x0 x1 x2 x3 = some r → kr_AW m_M_levelNow 1 4 [(0, va_rf x0), (1, .int x1), (2, .int x2), (3, .int x3)] [] S (kr_eI r)) {S : AS} {x0 : Option Nat} {x1 : Int32} {x3 : Int32} {y0 : Int32} {r : (Int32 × AS)} (h : f_M_levelNow_B46 k4 S x0 x1 x3 y0 = some r) : kr_AW m_M_levelNow 1 46 [(0, va_rf x0), (1, .int x1), (3, .int x3)] [.int y0] S (kr_eI r) := by
  unfold f_M_levelNow_B46 at h
  refine r_iconst (v := (0 : Int32)) (by decide) d_M_levelNow_46 ?_
  exact kr_sub [0, 1, 2] rfl (s_M_levelNow_B47 hk4 h)
set_option maxRecDepth 20000 in
set_option maxHeartbeats 4000000 in
theorem s_M_levelNow_C4 {k4 : AS → Option Nat → Int32 → Int32 → Int32 → Option (Int32 × AS)} (hk4 : ∀ {S : AS} {x0 : Option Nat} {x1 : Int32} {x2 : Int32} {x3 : Int32} {r : (Int32 × AS)}, k4 S x0 x1 x2 x3 = some r → kr_AW m_M_levelNow 1 4 [(0, va_rf x0), (1, .int x1), (2, .int x2), (3, .int x3)] [] S (kr_eI r)) {S : AS} {x0 : Option Nat} {x1 : Int32} {x2 : Int32} {x3 : Int32} {r : (Int32 × AS)} (h : f_M_levelNow_C4 k4 S x0 x1 x2 x3 = some r) : kr_AW m_M_levelNow 1 4 [(0, va_rf x0), (1, .int x1), (2, .int x2), (3, .int x3)] [] S (kr_eI r) := by
  unfold f_M_levelNow_C4 at h
  refine r_iload_n (i := 3) (x := x3) 3 rfl d_M_levelNow_4 ?_
  refine r_iconst (v := (3 : Int32)) (by decide) d_M_levelNow_5 ?_
  refine r_icmp_ge (tgt := 55) d_M_levelNow_6 rfl (fun c => ?_) (fun c => ?_)
  · replace h := kr_ip c h
    refine r_iload_n (i := 2) (x := x2) 2 rfl d_M_levelNow_55 ?_
    have h2 := kr_ob2 h
    clear h
    obtain ⟨v4, S3, eS3, h⟩ := h2
    refine r_callS (M1 := m_M_levelOf) (As := [.int x2]) (s_M_levelOf eS3) mok_M_levelOf rfl w1788 w1789 (by decide) (kr_c8 kr_c0) d_M_levelNow_56 (kr_k1 ?_) kr_kn
    cases h
    exact r_iret rfl d_M_levelNow_59
  · replace h := kr_in_ c h
    refine r_aload_n (i := 0) (x := x0) 0 rfl d_M_levelNow_9 ?_
    have h2 := kr_ob h
    clear h
    obtain ⟨v5, ev5, h⟩ := h2
    refine r_getR ev5 fk74 rfl d_M_levelNow_10 ?_
    refine r_iconst (v := (3 : Int32)) (by decide) d_M_levelNow_13 ?_
    refine r_iload_n (i := 1) (x := x1) 1 rfl d_M_levelNow_14 ?_
    refine r_imul d_M_levelNow_15 ?_
    refine r_iload_n (i := 3) (x := x3) 3 rfl d_M_levelNow_16 ?_
    refine r_iadd d_M_levelNow_17 ?_
    have h2 := kr_ob h
    clear h
    obtain ⟨v6, ev6, h⟩ := h2
    refine r_iaload ev6 d_M_levelNow_18 ?_
    refine r_istore (i := 4) (lv' := [(4, .int v6), (0, va_rf x0), (1, .int x1), (2, .int x2), (3, .int x3)]) (by decide) rfl d_M_levelNow_19 ?_
    refine r_iload_n (i := 2) (x := x2) 3 rfl d_M_levelNow_21 ?_
    refine r_iload (i := 4) (x := v6) 0 rfl d_M_levelNow_22 ?_
    refine r_iconst (v := (-1 : Int32)) (by decide) d_M_levelNow_24 ?_
    refine r_icmp_eq (tgt := 46) d_M_levelNow_25 rfl (fun c => ?_) (fun c => ?_)
    · replace h := kr_ip c h
      exact kr_sub [1, 2, 4] rfl (s_M_levelNow_B46 hk4 h)
    · replace h := kr_in_ c h
      refine r_aload_n (i := 0) (x := x0) 1 rfl d_M_levelNow_28 ?_
      have h2 := kr_ob h
      clear h
      obtain ⟨v7, ev7, h⟩ := h2
      refine r_getI ev7 fk130 rfl d_M_levelNow_29 ?_
      refine r_iload (i := 4) (x := v6) 0 rfl d_M_levelNow_32 ?_
      refine r_isub d_M_levelNow_34 ?_
      refine r_bipush (v := (120 : Int32)) (by decide) d_M_levelNow_35 ?_
      refine r_icmp_gt (tgt := 46) d_M_levelNow_37 rfl (fun c => ?_) (fun c => ?_)
      · replace h := kr_ip c h
        exact kr_sub [1, 2, 4] rfl (s_M_levelNow_B46 hk4 h)
      · replace h := kr_in_ c h
        refine r_iconst (v := (1 : Int32)) (by decide) d_M_levelNow_40 ?_
        refine r_iload_n (i := 3) (x := x3) 4 rfl d_M_levelNow_41 ?_
        refine r_ishl d_M_levelNow_42 ?_
        refine r_goto (tgt := 47) d_M_levelNow_43 rfl ?_
        exact kr_sub [1, 2, 4] rfl (s_M_levelNow_B47 hk4 h)
theorem s_M_levelNow_L4 (n : Nat) : ∀ {S : AS} {x0 : Option Nat} {x1 : Int32} {x2 : Int32} {x3 : Int32} {r : (Int32 × AS)}, f_M_levelNow_L4 n S x0 x1 x2 x3 = some r → kr_AW m_M_levelNow 1 4 [(0, va_rf x0), (1, .int x1), (2, .int x2), (3, .int x3)] [] S (kr_eI r) := by
  induction n with
  | zero => intro S x0 x1 x2 x3 r h; cases h
  | succ n ih => intro S x0 x1 x2 x3 r h; exact s_M_levelNow_C4 (fun {_} {_} {_} {_} {_} {_} h => ih h) h
set_option maxRecDepth 20000 in
set_option maxHeartbeats 4000000 in
theorem s_M_levelNow {S : AS} {a0 : Option Nat} {a1 : Int32} {r : (Int32 × AS)} (h : f_M_levelNow S a0 a1 = some r) : kr_Con m_M_levelNow 1 [va_rf a0, .int a1] S (kr_eI r) := by
  refine kr_con rfl rfl (by decide +kernel) (by simp [lg_sl, kr_rfcat, kr_icat, m_M_levelNow, mL]) ?_
  rw [show lv_args 0 [va_rf a0, .int a1] = [(0, va_rf a0), (1, .int a1)] from by simp [lv_args, kr_rfcat, kr_icat]]
  unfold f_M_levelNow at h
  refine r_iconst (v := (0 : Int32)) (by decide) d_M_levelNow_0 ?_
  refine r_istore_n (i := 2) (lv' := [(2, .int (0 : Int32)), (0, va_rf a0), (1, .int a1)]) (by decide) rfl d_M_levelNow_1 ?_
  refine r_iconst (v := (0 : Int32)) (by decide) d_M_levelNow_2 ?_
  refine r_istore_n (i := 3) (lv' := [(3, .int (0 : Int32)), (2, .int (0 : Int32)), (0, va_rf a0), (1, .int a1)]) (by decide) rfl d_M_levelNow_3 ?_
  exact kr_sub [2, 3, 1, 0] rfl (s_M_levelNow_L4 kr_FU h)
/-! KeyringCourtModel.level(I)I -/
def f_M_level (S : AS) (a0 : Option Nat) (a1 : Int32) : Option (Int32 × AS) :=
  (kr_rv S 23 a0).bind fun u1 =>
  kr_b2 (f_M_isSession S a0 a1) fun v3 S2 =>
  (kr_rv S2 23 a0).bind fun u4 =>
  kr_b2 (f_M_may S2 a0 v3) fun v6 S5 =>
  if v6 = 0 then
  some ((0 : Int32), S5)
  else
  (kr_rv S5 23 a0).bind fun u7 =>
  kr_b2 (f_M_levelNow S5 a0 a1) fun v9 S8 =>
  some (v9, S8)
set_option maxRecDepth 20000 in
set_option maxHeartbeats 4000000 in
theorem s_M_level {S : AS} {a0 : Option Nat} {a1 : Int32} {r : (Int32 × AS)} (h : f_M_level S a0 a1 = some r) : kr_Con m_M_level 2 [va_rf a0, .int a1] S (kr_eI r) := by
  refine kr_con rfl rfl (by decide +kernel) (by simp [lg_sl, kr_rfcat, kr_icat, m_M_level, mL]) ?_
  rw [show lv_args 0 [va_rf a0, .int a1] = [(0, va_rf a0), (1, .int a1)] from by simp [lv_args, kr_rfcat, kr_icat]]
  unfold f_M_level at h
  refine r_aload_n (i := 0) (x := a0) 0 rfl d_M_level_0 ?_
  refine r_aload_n (i := 0) (x := a0) 0 rfl d_M_level_1 ?_
  refine r_iload_n (i := 1) (x := a1) 1 rfl d_M_level_2 ?_
  have h2 := kr_ob h
  clear h
  obtain ⟨⟨⟩, eu1, h⟩ := h2
  have h2 := kr_ob2 h
  clear h
  obtain ⟨v3, S2, eS2, h⟩ := h2
  refine r_callV (M1 := m_M_isSession) (κ := 23) (As := [.int a1]) eu1 (s_M_isSession eS2) mok_M_isSession rfl (by decide) rfl w1883 w1885 w64 (by decide) (kr_c8 (kr_cR kr_c0)) d_M_level_3 (kr_k1 ?_) kr_kn
  have h2 := kr_ob h
  clear h
  obtain ⟨⟨⟩, eu4, h⟩ := h2
  have h2 := kr_ob2 h
  clear h
  obtain ⟨v6, S5, eS5, h⟩ := h2
  refine r_callV (M1 := m_M_may) (κ := 23) (As := [.int v3]) eu4 (s_M_may eS5) mok_M_may rfl (by decide) rfl w1703 w1705 w42 (by decide) (kr_c8 kr_c0) d_M_level_6 (kr_k1 ?_) kr_kn
  refine r_if_eq (tgt := 20) d_M_level_9 rfl (fun c => ?_) (fun c => ?_)
  · replace h := kr_ip c h
    refine r_iconst (v := (0 : Int32)) (by decide) d_M_level_20 ?_
    cases h
    exact r_iret rfl d_M_level_21
  · replace h := kr_in_ c h
    refine r_aload_n (i := 0) (x := a0) 0 rfl d_M_level_12 ?_
    refine r_iload_n (i := 1) (x := a1) 1 rfl d_M_level_13 ?_
    have h2 := kr_ob h
    clear h
    obtain ⟨⟨⟩, eu7, h⟩ := h2
    have h2 := kr_ob2 h
    clear h
    obtain ⟨v9, S8, eS8, h⟩ := h2
    refine r_callV (M1 := m_M_levelNow) (κ := 23) (As := [.int a1]) eu7 (s_M_levelNow eS8) mok_M_levelNow rfl (by decide) rfl w1895 w1897 w65 (by decide) (kr_c8 kr_c0) d_M_level_14 (kr_k1 ?_) kr_kn
    refine r_goto (tgt := 21) d_M_level_17 rfl ?_
    cases h
    exact r_iret rfl d_M_level_21
/-! KeyringCourtModel.stepUp(IIZI)I -/
def f_M_stepUp_B112 (S : AS) (x0 : Option Nat) (x1 : Int32) : Option (Int32 × AS) :=
  (kr_rv S 23 x0).bind fun u1 =>
  kr_b2 (f_M_levelNow S x0 x1) fun v3 S2 =>
  some (v3, S2)
def f_M_stepUp_B63 (S : AS) (x0 : Option Nat) (x1 : Int32) (x2 : Int32) (x3 : Int32) (x4 : Int32) (y0 : Option Nat) (y1 : Int32) (y2 : Int32) (y3 : Int32) : Option (Int32 × AS) :=
  (kr_rv S 23 y0).bind fun u4 =>
  kr_b2 (f_M_mayAll S y0 y1 y2 y3) fun v6 S5 =>
  if v6 = 0 then
  some ((0 : Int32), S5)
  else
  (gR S5 23 33 x0).bind fun v7 =>
  (gI S5 23 0 x0).bind fun v8 =>
  (bI S5 v7 x1 v8).bind fun S9 =>
  (gR S9 23 31 x0).bind fun v10 =>
  (aI S9 40 v10 x1).bind fun v11 =>
  (kr_rv S9 23 x0).bind fun u12 =>
  kr_b2 (f_M_answers S9 x0 v11 x2 x3 x4) fun v14 S13 =>
  if v14 = 0 then
  f_M_stepUp_B112 S13 x0 x1
  else
  (gR S13 23 36 x0).bind fun v15 =>
  (gI S13 23 0 x0).bind fun v16 =>
  (bI S13 v15 (((3 : Int32) * x1) + x2) v16).bind fun S17 =>
  f_M_stepUp_B112 S17 x0 x1
def f_M_stepUp_B62 (S : AS) (x0 : Option Nat) (x1 : Int32) (x2 : Int32) (x3 : Int32) (x4 : Int32) (y0 : Option Nat) (y1 : Int32) (y2 : Int32) : Option (Int32 × AS) :=
  f_M_stepUp_B63 S x0 x1 x2 x3 x4 y0 y1 y2 (0 : Int32)
def f_M_stepUp_B34 (S : AS) (x0 : Option Nat) (x1 : Int32) (x2 : Int32) (x3 : Int32) (x4 : Int32) (x5 : Int32) (y0 : Option Nat) (y1 : Int32) (y2 : Int32) : Option (Int32 × AS) :=
  if x5 = 0 then
  f_M_stepUp_B62 S x0 x1 x2 x3 x4 y0 y1 y2
  else
  (gR S 23 35 x0).bind fun v18 =>
  (aI S 41 v18 x1).bind fun v19 =>
  if v19 = 0 then
  f_M_stepUp_B62 S x0 x1 x2 x3 x4 y0 y1 y2
  else
  (gR S 23 34 x0).bind fun v20 =>
  (aI S 40 v20 x1).bind fun v21 =>
  if v21 = (-1 : Int32) then
  f_M_stepUp_B63 S x0 x1 x2 x3 x4 y0 y1 y2 (1 : Int32)
  else
  f_M_stepUp_B62 S x0 x1 x2 x3 x4 y0 y1 y2
def f_M_stepUp_B33 (S : AS) (x0 : Option Nat) (x1 : Int32) (x2 : Int32) (x3 : Int32) (x4 : Int32) (x5 : Int32) (y0 : Option Nat) (y1 : Int32) : Option (Int32 × AS) :=
  f_M_stepUp_B34 S x0 x1 x2 x3 x4 x5 y0 y1 (0 : Int32)
def f_M_stepUp (S : AS) (a0 : Option Nat) (a1 : Int32) (a2 : Int32) (a3 : Int32) (a4 : Int32) : Option (Int32 × AS) :=
  (kr_rv S 23 a0).bind fun u22 =>
  kr_b2 (f_M_isSession S a0 a1) fun v24 S23 =>
  kr_b2 (f_M_isFactor S23 a2) fun v26 S25 =>
  if v26 = 0 then
  f_M_stepUp_B33 S25 a0 a1 a2 a3 a4 v24 a0 v24
  else
  kr_b2 (f_M_isIn S25 a4 (0 : Int32) (9999 : Int32)) fun v28 S27 =>
  if v28 = 0 then
  f_M_stepUp_B33 S27 a0 a1 a2 a3 a4 v24 a0 v24
  else
  f_M_stepUp_B34 S27 a0 a1 a2 a3 a4 v24 a0 v24 (1 : Int32)
set_option maxRecDepth 20000 in
set_option maxHeartbeats 4000000 in
theorem s_M_stepUp_B112 {S : AS} {x0 : Option Nat} {x1 : Int32} {r : (Int32 × AS)} (h : f_M_stepUp_B112 S x0 x1 = some r) : kr_AW m_M_stepUp 3 112 [(0, va_rf x0), (1, .int x1)] [] S (kr_eI r) := by
  unfold f_M_stepUp_B112 at h
  refine r_aload_n (i := 0) (x := x0) 0 rfl d_M_stepUp_112 ?_
  refine r_iload_n (i := 1) (x := x1) 1 rfl d_M_stepUp_113 ?_
  have h2 := kr_ob h
  clear h
  obtain ⟨⟨⟩, eu1, h⟩ := h2
  have h2 := kr_ob2 h
  clear h
  obtain ⟨v3, S2, eS2, h⟩ := h2
  refine r_callV (M1 := m_M_levelNow) (κ := 23) (As := [.int x1]) eu1 (s_M_levelNow eS2) mok_M_levelNow rfl (by decide) rfl w1895 w1897 w65 (by decide) (kr_c8 kr_c0) d_M_stepUp_114 (kr_k1 ?_) kr_kn
  cases h
  exact r_iret rfl d_M_stepUp_117
set_option maxRecDepth 20000 in
set_option maxHeartbeats 4000000 in
theorem s_M_stepUp_B63 {S : AS} {x0 : Option Nat} {x1 : Int32} {x2 : Int32} {x3 : Int32} {x4 : Int32} {y0 : Option Nat} {y1 : Int32} {y2 : Int32} {y3 : Int32} {r : (Int32 × AS)} (h : f_M_stepUp_B63 S x0 x1 x2 x3 x4 y0 y1 y2 y3 = some r) : kr_AW m_M_stepUp 3 63 [(0, va_rf x0), (1, .int x1), (2, .int x2), (3, .int x3), (4, .int x4)] [.int y3, .int y2, .int y1, va_rf y0] S (kr_eI r) := by
  unfold f_M_stepUp_B63 at h
  have h2 := kr_ob h
  clear h
  obtain ⟨⟨⟩, eu4, h⟩ := h2
  have h2 := kr_ob2 h
  clear h
  obtain ⟨v6, S5, eS5, h⟩ := h2
  refine r_callV (M1 := m_M_mayAll) (κ := 23) (As := [.int y1, .int y2, .int y3]) eu4 (s_M_mayAll eS5) mok_M_mayAll rfl (by decide) rfl w1843 w1845 w61 (by decide) (kr_c8 kr_c0) d_M_stepUp_63 (kr_k1 ?_) kr_kn
  refine r_if_ne (tgt := 71) d_M_stepUp_66 rfl (fun c => ?_) (fun c => ?_)
  · replace h := kr_ip c h
    refine r_iconst (v := (0 : Int32)) (by decide) d_M_stepUp_69 ?_
    cases h
    exact r_iret rfl d_M_stepUp_70
  · replace h := kr_in_ c h
    refine r_aload_n (i := 0) (x := x0) 0 rfl d_M_stepUp_71 ?_
    have h2 := kr_ob h
    clear h
    obtain ⟨v7, ev7, h⟩ := h2
    refine r_getR ev7 fk71 rfl d_M_stepUp_72 ?_
    refine r_iload_n (i := 1) (x := x1) 1 rfl d_M_stepUp_75 ?_
    refine r_aload_n (i := 0) (x := x0) 0 rfl d_M_stepUp_76 ?_
    have h2 := kr_ob h
    clear h
    obtain ⟨v8, ev8, h⟩ := h2
    refine r_getI ev8 fk130 rfl d_M_stepUp_77 ?_
    have h2 := kr_ob h
    clear h
    obtain ⟨S9, eS9, h⟩ := h2
    refine r_iastore eS9 d_M_stepUp_80 ?_
    refine r_aload_n (i := 0) (x := x0) 0 rfl d_M_stepUp_81 ?_
    refine r_aload_n (i := 0) (x := x0) 0 rfl d_M_stepUp_82 ?_
    have h2 := kr_ob h
    clear h
    obtain ⟨v10, ev10, h⟩ := h2
    refine r_getR ev10 fk69 rfl d_M_stepUp_83 ?_
    refine r_iload_n (i := 1) (x := x1) 1 rfl d_M_stepUp_86 ?_
    have h2 := kr_ob h
    clear h
    obtain ⟨v11, ev11, h⟩ := h2
    refine r_iaload ev11 d_M_stepUp_87 ?_
    refine r_iload_n (i := 2) (x := x2) 2 rfl d_M_stepUp_88 ?_
    refine r_iload_n (i := 3) (x := x3) 3 rfl d_M_stepUp_89 ?_
    refine r_iload (i := 4) (x := x4) 4 rfl d_M_stepUp_90 ?_
    have h2 := kr_ob h
    clear h
    obtain ⟨⟨⟩, eu12, h⟩ := h2
    have h2 := kr_ob2 h
    clear h
    obtain ⟨v14, S13, eS13, h⟩ := h2
    refine r_callV (M1 := m_M_answers) (κ := 23) (As := [.int v11, .int x2, .int x3, .int x4]) eu12 (s_M_answers eS13) mok_M_answers rfl (by decide) rfl w1847 w1849 w62 (by decide) (kr_c8 kr_c0) d_M_stepUp_92 (kr_k1 ?_) kr_kn
    refine r_if_eq (tgt := 112) d_M_stepUp_95 rfl (fun c => ?_) (fun c => ?_)
    · replace h := kr_ip c h
      exact kr_sub [0, 1] rfl (s_M_stepUp_B112 h)
    · replace h := kr_in_ c h
      refine r_aload_n (i := 0) (x := x0) 0 rfl d_M_stepUp_98 ?_
      have h2 := kr_ob h
      clear h
      obtain ⟨v15, ev15, h⟩ := h2
      refine r_getR ev15 fk74 rfl d_M_stepUp_99 ?_
      refine r_iconst (v := (3 : Int32)) (by decide) d_M_stepUp_102 ?_
      refine r_iload_n (i := 1) (x := x1) 1 rfl d_M_stepUp_103 ?_
      refine r_imul d_M_stepUp_104 ?_
      refine r_iload_n (i := 2) (x := x2) 2 rfl d_M_stepUp_105 ?_
      refine r_iadd d_M_stepUp_106 ?_
      refine r_aload_n (i := 0) (x := x0) 0 rfl d_M_stepUp_107 ?_
      have h2 := kr_ob h
      clear h
      obtain ⟨v16, ev16, h⟩ := h2
      refine r_getI ev16 fk130 rfl d_M_stepUp_108 ?_
      have h2 := kr_ob h
      clear h
      obtain ⟨S17, eS17, h⟩ := h2
      refine r_iastore eS17 d_M_stepUp_111 ?_
      exact kr_sub [0, 1] rfl (s_M_stepUp_B112 h)
set_option maxRecDepth 20000 in
set_option maxHeartbeats 4000000 in
theorem s_M_stepUp_B62 {S : AS} {x0 : Option Nat} {x1 : Int32} {x2 : Int32} {x3 : Int32} {x4 : Int32} {y0 : Option Nat} {y1 : Int32} {y2 : Int32} {r : (Int32 × AS)} (h : f_M_stepUp_B62 S x0 x1 x2 x3 x4 y0 y1 y2 = some r) : kr_AW m_M_stepUp 3 62 [(0, va_rf x0), (1, .int x1), (2, .int x2), (3, .int x3), (4, .int x4)] [.int y2, .int y1, va_rf y0] S (kr_eI r) := by
  unfold f_M_stepUp_B62 at h
  refine r_iconst (v := (0 : Int32)) (by decide) d_M_stepUp_62 ?_
  exact kr_sub [0, 1, 2, 3, 4] rfl (s_M_stepUp_B63 h)
set_option maxRecDepth 20000 in
set_option maxHeartbeats 4000000 in
theorem s_M_stepUp_B34 {S : AS} {x0 : Option Nat} {x1 : Int32} {x2 : Int32} {x3 : Int32} {x4 : Int32} {x5 : Int32} {y0 : Option Nat} {y1 : Int32} {y2 : Int32} {r : (Int32 × AS)} (h : f_M_stepUp_B34 S x0 x1 x2 x3 x4 x5 y0 y1 y2 = some r) : kr_AW m_M_stepUp 3 34 [(0, va_rf x0), (1, .int x1), (2, .int x2), (3, .int x3), (4, .int x4), (5, .int x5)] [.int y2, .int y1, va_rf y0] S (kr_eI r) := by
  unfold f_M_stepUp_B34 at h
  refine r_iload (i := 5) (x := x5) 5 rfl d_M_stepUp_34 ?_
  refine r_if_eq (tgt := 62) d_M_stepUp_36 rfl (fun c => ?_) (fun c => ?_)
  · replace h := kr_ip c h
    exact kr_sub [0, 1, 2, 3, 4] rfl (s_M_stepUp_B62 h)
  · replace h := kr_in_ c h
    refine r_aload_n (i := 0) (x := x0) 0 rfl d_M_stepUp_39 ?_
    have h2 := kr_ob h
    clear h
    obtain ⟨v18, ev18, h⟩ := h2
    refine r_getR ev18 fk73 rfl d_M_stepUp_40 ?_
    refine r_iload_n (i := 1) (x := x1) 1 rfl d_M_stepUp_43 ?_
    have h2 := kr_ob h
    clear h
    obtain ⟨v19, ev19, h⟩ := h2
    refine r_baload ev19 d_M_stepUp_44 ?_
    refine r_if_eq (tgt := 62) d_M_stepUp_45 rfl (fun c => ?_) (fun c => ?_)
    · replace h := kr_ip c h
      exact kr_sub [0, 1, 2, 3, 4] rfl (s_M_stepUp_B62 h)
    · replace h := kr_in_ c h
      refine r_aload_n (i := 0) (x := x0) 0 rfl d_M_stepUp_48 ?_
      have h2 := kr_ob h
      clear h
      obtain ⟨v20, ev20, h⟩ := h2
      refine r_getR ev20 fk72 rfl d_M_stepUp_49 ?_
      refine r_iload_n (i := 1) (x := x1) 1 rfl d_M_stepUp_52 ?_
      have h2 := kr_ob h
      clear h
      obtain ⟨v21, ev21, h⟩ := h2
      refine r_iaload ev21 d_M_stepUp_53 ?_
      refine r_iconst (v := (-1 : Int32)) (by decide) d_M_stepUp_54 ?_
      refine r_icmp_ne (tgt := 62) d_M_stepUp_55 rfl (fun c => ?_) (fun c => ?_)
      · replace h := kr_ip c h
        refine r_iconst (v := (1 : Int32)) (by decide) d_M_stepUp_58 ?_
        refine r_goto (tgt := 63) d_M_stepUp_59 rfl ?_
        exact kr_sub [0, 1, 2, 3, 4] rfl (s_M_stepUp_B63 h)
      · replace h := kr_in_ c h
        exact kr_sub [0, 1, 2, 3, 4] rfl (s_M_stepUp_B62 h)
set_option maxRecDepth 20000 in
set_option maxHeartbeats 4000000 in
theorem s_M_stepUp_B33 {S : AS} {x0 : Option Nat} {x1 : Int32} {x2 : Int32} {x3 : Int32} {x4 : Int32} {x5 : Int32} {y0 : Option Nat} {y1 : Int32} {r : (Int32 × AS)} (h : f_M_stepUp_B33 S x0 x1 x2 x3 x4 x5 y0 y1 = some r) : kr_AW m_M_stepUp 3 33 [(0, va_rf x0), (1, .int x1), (2, .int x2), (3, .int x3), (4, .int x4), (5, .int x5)] [.int y1, va_rf y0] S (kr_eI r) := by
  unfold f_M_stepUp_B33 at h
  refine r_iconst (v := (0 : Int32)) (by decide) d_M_stepUp_33 ?_
  exact kr_sub [0, 1, 2, 3, 4, 5] rfl (s_M_stepUp_B34 h)
set_option maxRecDepth 20000 in
set_option maxHeartbeats 4000000 in
theorem s_M_stepUp {S : AS} {a0 : Option Nat} {a1 : Int32} {a2 : Int32} {a3 : Int32} {a4 : Int32} {r : (Int32 × AS)} (h : f_M_stepUp S a0 a1 a2 a3 a4 = some r) : kr_Con m_M_stepUp 3 [va_rf a0, .int a1, .int a2, .int a3, .int a4] S (kr_eI r) := by
  refine kr_con rfl rfl (by decide +kernel) (by simp [lg_sl, kr_rfcat, kr_icat, m_M_stepUp, mL]) ?_
  rw [show lv_args 0 [va_rf a0, .int a1, .int a2, .int a3, .int a4] = [(0, va_rf a0), (1, .int a1), (2, .int a2), (3, .int a3), (4, .int a4)] from by simp [lv_args, kr_rfcat, kr_icat]]
  unfold f_M_stepUp at h
  refine r_aload_n (i := 0) (x := a0) 0 rfl d_M_stepUp_0 ?_
  refine r_iload_n (i := 1) (x := a1) 1 rfl d_M_stepUp_1 ?_
  have h2 := kr_ob h
  clear h
  obtain ⟨⟨⟩, eu22, h⟩ := h2
  have h2 := kr_ob2 h
  clear h
  obtain ⟨v24, S23, eS23, h⟩ := h2
  refine r_callV (M1 := m_M_isSession) (κ := 23) (As := [.int a1]) eu22 (s_M_isSession eS23) mok_M_isSession rfl (by decide) rfl w1883 w1885 w64 (by decide) (kr_c8 kr_c0) d_M_stepUp_2 (kr_k1 ?_) kr_kn
  refine r_istore (i := 5) (lv' := [(5, .int v24), (0, va_rf a0), (1, .int a1), (2, .int a2), (3, .int a3), (4, .int a4)]) (by decide) rfl d_M_stepUp_5 ?_
  refine r_aload_n (i := 0) (x := a0) 1 rfl d_M_stepUp_7 ?_
  refine r_iload (i := 5) (x := v24) 0 rfl d_M_stepUp_8 ?_
  refine r_iload_n (i := 2) (x := a2) 3 rfl d_M_stepUp_10 ?_
  have h2 := kr_ob2 h
  clear h
  obtain ⟨v26, S25, eS25, h⟩ := h2
  refine r_callS (M1 := m_M_isFactor) (As := [.int a2]) (s_M_isFactor eS25) mok_M_isFactor rfl w1751 w1752 (by decide) (kr_c8 (kr_cI (kr_cR kr_c0))) d_M_stepUp_11 (kr_k1 ?_) kr_kn
  refine r_if_eq (tgt := 33) d_M_stepUp_14 rfl (fun c => ?_) (fun c => ?_)
  · replace h := kr_ip c h
    exact kr_sub [1, 2, 3, 4, 5, 0] rfl (s_M_stepUp_B33 h)
  · replace h := kr_in_ c h
    refine r_iload (i := 4) (x := a4) 5 rfl d_M_stepUp_17 ?_
    refine r_iconst (v := (0 : Int32)) (by decide) d_M_stepUp_19 ?_
    refine r_sipush (v := (9999 : Int32)) (by decide) d_M_stepUp_20 ?_
    have h2 := kr_ob2 h
    clear h
    obtain ⟨v28, S27, eS27, h⟩ := h2
    refine r_callS (M1 := m_M_isIn) (As := [.int a4, .int (0 : Int32), .int (9999 : Int32)]) (s_M_isIn eS27) mok_M_isIn rfl w1700 w1701 (by decide) (kr_c8 (kr_cI (kr_cR kr_c0))) d_M_stepUp_23 (kr_k1 ?_) kr_kn
    refine r_if_eq (tgt := 33) d_M_stepUp_26 rfl (fun c => ?_) (fun c => ?_)
    · replace h := kr_ip c h
      exact kr_sub [1, 2, 3, 4, 5, 0] rfl (s_M_stepUp_B33 h)
    · replace h := kr_in_ c h
      refine r_iconst (v := (1 : Int32)) (by decide) d_M_stepUp_29 ?_
      refine r_goto (tgt := 34) d_M_stepUp_30 rfl ?_
      exact kr_sub [1, 2, 3, 4, 5, 0] rfl (s_M_stepUp_B34 h)
/-! KeyringCourtModel.signOut(I)I -/
def f_M_signOut_B26 (S : AS) (x0 : Option Nat) (x1 : Int32) (y0 : Option Nat) (y1 : Int32) (y2 : Int32) : Option (Int32 × AS) :=
  (kr_rv S 23 y0).bind fun u1 =>
  kr_b2 (f_M_mayBoth S y0 y1 y2) fun v3 S2 =>
  if v3 = 0 then
  some ((0 : Int32), S2)
  else
  (kr_rv S2 23 x0).bind fun u4 =>
  kr_b2 (f_M_endSession S2 x0 x1) fun v6 S5 =>
  some (v6, S5)
def f_M_signOut_B25 (S : AS) (x0 : Option Nat) (x1 : Int32) (y0 : Option Nat) (y1 : Int32) : Option (Int32 × AS) :=
  f_M_signOut_B26 S x0 x1 y0 y1 (0 : Int32)
def f_M_signOut (S : AS) (a0 : Option Nat) (a1 : Int32) : Option (Int32 × AS) :=
  (kr_rv S 23 a0).bind fun u7 =>
  kr_b2 (f_M_isSession S a0 a1) fun v9 S8 =>
  if v9 = 0 then
  f_M_signOut_B25 S8 a0 a1 a0 v9
  else
  (gR S8 23 35 a0).bind fun v10 =>
  (aI S8 41 v10 a1).bind fun v11 =>
  if v11 = 0 then
  f_M_signOut_B25 S8 a0 a1 a0 v9
  else
  f_M_signOut_B26 S8 a0 a1 a0 v9 (1 : Int32)
set_option maxRecDepth 20000 in
set_option maxHeartbeats 4000000 in
theorem s_M_signOut_B26 {S : AS} {x0 : Option Nat} {x1 : Int32} {y0 : Option Nat} {y1 : Int32} {y2 : Int32} {r : (Int32 × AS)} (h : f_M_signOut_B26 S x0 x1 y0 y1 y2 = some r) : kr_AW m_M_signOut 4 26 [(0, va_rf x0), (1, .int x1)] [.int y2, .int y1, va_rf y0] S (kr_eI r) := by
  unfold f_M_signOut_B26 at h
  have h2 := kr_ob h
  clear h
  obtain ⟨⟨⟩, eu1, h⟩ := h2
  have h2 := kr_ob2 h
  clear h
  obtain ⟨v3, S2, eS2, h⟩ := h2
  refine r_callV (M1 := m_M_mayBoth) (κ := 23) (As := [.int y1, .int y2]) eu1 (s_M_mayBoth eS2) mok_M_mayBoth rfl (by decide) rfl w1720 w1722 w43 (by decide) (kr_c8 kr_c0) d_M_signOut_26 (kr_k1 ?_) kr_kn
  refine r_if_eq (tgt := 40) d_M_signOut_29 rfl (fun c => ?_) (fun c => ?_)
  · replace h := kr_ip c h
    refine r_iconst (v := (0 : Int32)) (by decide) d_M_signOut_40 ?_
    cases h
    exact r_iret rfl d_M_signOut_41
  · replace h := kr_in_ c h
    refine r_aload_n (i := 0) (x := x0) 0 rfl d_M_signOut_32 ?_
    refine r_iload_n (i := 1) (x := x1) 1 rfl d_M_signOut_33 ?_
    have h2 := kr_ob h
    clear h
    obtain ⟨⟨⟩, eu4, h⟩ := h2
    have h2 := kr_ob2 h
    clear h
    obtain ⟨v6, S5, eS5, h⟩ := h2
    refine r_callV (M1 := m_M_endSession) (κ := 23) (As := [.int x1]) eu4 (s_M_endSession eS5) mok_M_endSession rfl (by decide) rfl w1728 w1730 w45 (by decide) (kr_c8 kr_c0) d_M_signOut_34 (kr_k1 ?_) kr_kn
    refine r_goto (tgt := 41) d_M_signOut_37 rfl ?_
    cases h
    exact r_iret rfl d_M_signOut_41
set_option maxRecDepth 20000 in
set_option maxHeartbeats 4000000 in
theorem s_M_signOut_B25 {S : AS} {x0 : Option Nat} {x1 : Int32} {y0 : Option Nat} {y1 : Int32} {r : (Int32 × AS)} (h : f_M_signOut_B25 S x0 x1 y0 y1 = some r) : kr_AW m_M_signOut 4 25 [(0, va_rf x0), (1, .int x1)] [.int y1, va_rf y0] S (kr_eI r) := by
  unfold f_M_signOut_B25 at h
  refine r_iconst (v := (0 : Int32)) (by decide) d_M_signOut_25 ?_
  exact kr_sub [0, 1] rfl (s_M_signOut_B26 h)
set_option maxRecDepth 20000 in
set_option maxHeartbeats 4000000 in
theorem s_M_signOut {S : AS} {a0 : Option Nat} {a1 : Int32} {r : (Int32 × AS)} (h : f_M_signOut S a0 a1 = some r) : kr_Con m_M_signOut 4 [va_rf a0, .int a1] S (kr_eI r) := by
  refine kr_con rfl rfl (by decide +kernel) (by simp [lg_sl, kr_rfcat, kr_icat, m_M_signOut, mL]) ?_
  rw [show lv_args 0 [va_rf a0, .int a1] = [(0, va_rf a0), (1, .int a1)] from by simp [lv_args, kr_rfcat, kr_icat]]
  unfold f_M_signOut at h
  refine r_aload_n (i := 0) (x := a0) 0 rfl d_M_signOut_0 ?_
  refine r_iload_n (i := 1) (x := a1) 1 rfl d_M_signOut_1 ?_
  have h2 := kr_ob h
  clear h
  obtain ⟨⟨⟩, eu7, h⟩ := h2
  have h2 := kr_ob2 h
  clear h
  obtain ⟨v9, S8, eS8, h⟩ := h2
  refine r_callV (M1 := m_M_isSession) (κ := 23) (As := [.int a1]) eu7 (s_M_isSession eS8) mok_M_isSession rfl (by decide) rfl w1883 w1885 w64 (by decide) (kr_c8 kr_c0) d_M_signOut_2 (kr_k1 ?_) kr_kn
  refine r_istore_n (i := 2) (lv' := [(2, .int v9), (0, va_rf a0), (1, .int a1)]) (by decide) rfl d_M_signOut_5 ?_
  refine r_aload_n (i := 0) (x := a0) 1 rfl d_M_signOut_6 ?_
  refine r_iload_n (i := 2) (x := v9) 0 rfl d_M_signOut_7 ?_
  refine r_iload_n (i := 2) (x := v9) 0 rfl d_M_signOut_8 ?_
  refine r_if_eq (tgt := 25) d_M_signOut_9 rfl (fun c => ?_) (fun c => ?_)
  · replace h := kr_ip c h
    exact kr_sub [1, 2] rfl (s_M_signOut_B25 h)
  · replace h := kr_in_ c h
    refine r_aload_n (i := 0) (x := a0) 1 rfl d_M_signOut_12 ?_
    have h2 := kr_ob h
    clear h
    obtain ⟨v10, ev10, h⟩ := h2
    refine r_getR ev10 fk73 rfl d_M_signOut_13 ?_
    refine r_iload_n (i := 1) (x := a1) 2 rfl d_M_signOut_16 ?_
    have h2 := kr_ob h
    clear h
    obtain ⟨v11, ev11, h⟩ := h2
    refine r_baload ev11 d_M_signOut_17 ?_
    refine r_if_eq (tgt := 25) d_M_signOut_18 rfl (fun c => ?_) (fun c => ?_)
    · replace h := kr_ip c h
      exact kr_sub [1, 2] rfl (s_M_signOut_B25 h)
    · replace h := kr_in_ c h
      refine r_iconst (v := (1 : Int32)) (by decide) d_M_signOut_21 ?_
      refine r_goto (tgt := 26) d_M_signOut_22 rfl ?_
      exact kr_sub [1, 2] rfl (s_M_signOut_B26 h)
/-! KeyringCourtModel.helper(I)Z -/
def f_M_helper_B32 (S : AS) (x0 : Option Nat) (x1 : Int32) (y0 : Option Nat) (y1 : Int32) (y2 : Int32) : Option (Int32 × AS) :=
  (bZ S y0 y1 y2).bind fun S1 =>
  (gR S1 23 8 x0).bind fun v2 =>
  (aI S1 41 v2 x1).bind fun v3 =>
  (kr_z v3).bind fun u4 =>
  some (v3, S1)
def f_M_helper (S : AS) (a0 : Option Nat) (a1 : Int32) : Option (Int32 × AS) :=
  kr_b2 (f_M_isSix S a1) fun v6 S5 =>
  (kr_rv S5 23 a0).bind fun u7 =>
  kr_b2 (f_M_may S5 a0 v6) fun v9 S8 =>
  if v9 = 0 then
  some ((0 : Int32), S8)
  else
  (gR S8 23 8 a0).bind fun v10 =>
  (gR S8 23 8 a0).bind fun v11 =>
  (aI S8 41 v11 a1).bind fun v12 =>
  if v12 = 0 then
  f_M_helper_B32 S8 a0 a1 v10 a1 (1 : Int32)
  else
  f_M_helper_B32 S8 a0 a1 v10 a1 (0 : Int32)
set_option maxRecDepth 20000 in
set_option maxHeartbeats 4000000 in
theorem s_M_helper_B32 {S : AS} {x0 : Option Nat} {x1 : Int32} {y0 : Option Nat} {y1 : Int32} {y2 : Int32} {r : (Int32 × AS)} (h : f_M_helper_B32 S x0 x1 y0 y1 y2 = some r) : kr_AW m_M_helper 2 32 [(0, va_rf x0), (1, .int x1)] [.int y2, .int y1, va_rf y0] S (kr_eI r) := by
  unfold f_M_helper_B32 at h
  have h2 := kr_ob h
  clear h
  obtain ⟨S1, eS1, h⟩ := h2
  refine r_bastore eS1 d_M_helper_32 ?_
  refine r_aload_n (i := 0) (x := x0) 0 rfl d_M_helper_33 ?_
  have h2 := kr_ob h
  clear h
  obtain ⟨v2, ev2, h⟩ := h2
  refine r_getR ev2 fk51 rfl d_M_helper_34 ?_
  refine r_iload_n (i := 1) (x := x1) 1 rfl d_M_helper_37 ?_
  have h2 := kr_ob h
  clear h
  obtain ⟨v3, ev3, h⟩ := h2
  refine r_baload ev3 d_M_helper_38 ?_
  have h2 := kr_ob h
  clear h
  obtain ⟨⟨⟩, eu4, h⟩ := h2
  cases h
  exact r_zret rfl eu4 d_M_helper_39
set_option maxRecDepth 20000 in
set_option maxHeartbeats 4000000 in
theorem s_M_helper {S : AS} {a0 : Option Nat} {a1 : Int32} {r : (Int32 × AS)} (h : f_M_helper S a0 a1 = some r) : kr_Con m_M_helper 2 [va_rf a0, .int a1] S (kr_eI r) := by
  refine kr_con rfl rfl (by decide +kernel) (by simp [lg_sl, kr_rfcat, kr_icat, m_M_helper, mL]) ?_
  rw [show lv_args 0 [va_rf a0, .int a1] = [(0, va_rf a0), (1, .int a1)] from by simp [lv_args, kr_rfcat, kr_icat]]
  unfold f_M_helper at h
  refine r_aload_n (i := 0) (x := a0) 0 rfl d_M_helper_0 ?_
  refine r_iload_n (i := 1) (x := a1) 1 rfl d_M_helper_1 ?_
  have h2 := kr_ob2 h
  clear h
  obtain ⟨v6, S5, eS5, h⟩ := h2
  refine r_callS (M1 := m_M_isSix) (As := [.int a1]) (s_M_isSix eS5) mok_M_isSix rfl w1748 w1749 (by decide) (kr_c8 (kr_cR kr_c0)) d_M_helper_2 (kr_k1 ?_) kr_kn
  have h2 := kr_ob h
  clear h
  obtain ⟨⟨⟩, eu7, h⟩ := h2
  have h2 := kr_ob2 h
  clear h
  obtain ⟨v9, S8, eS8, h⟩ := h2
  refine r_callV (M1 := m_M_may) (κ := 23) (As := [.int v6]) eu7 (s_M_may eS8) mok_M_may rfl (by decide) rfl w1703 w1705 w42 (by decide) (kr_c8 kr_c0) d_M_helper_5 (kr_k1 ?_) kr_kn
  refine r_if_ne (tgt := 13) d_M_helper_8 rfl (fun c => ?_) (fun c => ?_)
  · replace h := kr_ip c h
    refine r_iconst (v := (0 : Int32)) (by decide) d_M_helper_11 ?_
    cases h
    exact r_zret rfl rfl d_M_helper_12
  · replace h := kr_in_ c h
    refine r_aload_n (i := 0) (x := a0) 0 rfl d_M_helper_13 ?_
    have h2 := kr_ob h
    clear h
    obtain ⟨v10, ev10, h⟩ := h2
    refine r_getR ev10 fk51 rfl d_M_helper_14 ?_
    refine r_iload_n (i := 1) (x := a1) 1 rfl d_M_helper_17 ?_
    refine r_aload_n (i := 0) (x := a0) 0 rfl d_M_helper_18 ?_
    have h2 := kr_ob h
    clear h
    obtain ⟨v11, ev11, h⟩ := h2
    refine r_getR ev11 fk51 rfl d_M_helper_19 ?_
    refine r_iload_n (i := 1) (x := a1) 1 rfl d_M_helper_22 ?_
    have h2 := kr_ob h
    clear h
    obtain ⟨v12, ev12, h⟩ := h2
    refine r_baload ev12 d_M_helper_23 ?_
    refine r_if_ne (tgt := 31) d_M_helper_24 rfl (fun c => ?_) (fun c => ?_)
    · replace h := kr_ip c h
      refine r_iconst (v := (1 : Int32)) (by decide) d_M_helper_27 ?_
      refine r_goto (tgt := 32) d_M_helper_28 rfl ?_
      exact kr_sub [0, 1] rfl (s_M_helper_B32 h)
    · replace h := kr_in_ c h
      refine r_iconst (v := (0 : Int32)) (by decide) d_M_helper_31 ?_
      exact kr_sub [0, 1] rfl (s_M_helper_B32 h)
/-! KeyringCourtModel.act(II)I -/
def f_M_act_C137 (k137 : AS → Option Nat → Int32 → Int32 → Int32 → Option (Int32 × AS)) (S : AS) (x0 : Option Nat) (x1 : Int32) (x5 : Int32) (x6 : Int32) : Option (Int32 × AS) :=
  if (3 : Int32) ≤ x6 then
  some (x5, S)
  else
  (gR S 23 36 x0).bind fun v1 =>
  (gR S 23 36 x0).bind fun v2 =>
  (aI S 40 v2 (((3 : Int32) * x1) + x6)).bind fun v3 =>
  (bI S v1 (((3 : Int32) * x5) + x6) v3).bind fun S4 =>
  (some (x6 + (1 : Int32))).bind fun i5 =>
  k137 S4 x0 x1 x5 i5
def f_M_act_L137 : Nat → AS → Option Nat → Int32 → Int32 → Int32 → Option (Int32 × AS)
  | 0, S, x0, x1, x5, x6 => none
  | n + 1, S, x0, x1, x5, x6 => f_M_act_C137 (f_M_act_L137 n) S x0 x1 x5 x6
def f_M_act_B112 (S : AS) (x0 : Option Nat) (x1 : Int32) (x2 : Int32) (x3 : Int32) (y0 : Int32) : Option (Int32 × AS) :=
  (kr_rv S 23 x0).bind fun u6 =>
  kr_b2 (f_M_mayBoth S x0 x3 y0) fun v8 S7 =>
  if v8 = 0 then
  some ((0 : Int32), S7)
  else
  (kr_rv S7 23 x0).bind fun u9 =>
  kr_b2 (f_M_newSession S7 x0 x2 x1) fun v11 S10 =>
  f_M_act_L137 kr_FU S10 x0 x1 v11 (0 : Int32)
def f_M_act_B111 (S : AS) (x0 : Option Nat) (x1 : Int32) (x2 : Int32) (x3 : Int32) : Option (Int32 × AS) :=
  f_M_act_B112 S x0 x1 x2 x3 (0 : Int32)
def f_M_act_B72 (S : AS) (x0 : Option Nat) (x1 : Int32) (x2 : Int32) (x3 : Int32) (y0 : Int32) : Option (Int32 × AS) :=
  if y0 = 0 then
  f_M_act_B111 S x0 x1 x2 x3
  else
  (gR S 23 31 x0).bind fun v12 =>
  (aI S 40 v12 x1).bind fun v13 =>
  if v13 = x2 then
  f_M_act_B111 S x0 x1 x2 x3
  else
  (gR S 23 7 x0).bind fun v14 =>
  (aI S 41 v14 x2).bind fun v15 =>
  if v15 = 0 then
  (gI S 23 30 x0).bind fun v16 =>
  if (60 : Int32) ≤ v16 then
  f_M_act_B111 S x0 x1 x2 x3
  else
  f_M_act_B112 S x0 x1 x2 x3 (1 : Int32)
  else
  f_M_act_B111 S x0 x1 x2 x3
def f_M_act_B71 (S : AS) (x0 : Option Nat) (x1 : Int32) (x2 : Int32) (x3 : Int32) : Option (Int32 × AS) :=
  f_M_act_B72 S x0 x1 x2 x3 (0 : Int32)
def f_M_act_B20 (S : AS) (x0 : Option Nat) (x1 : Int32) (x2 : Int32) (y0 : Int32) : Option (Int32 × AS) :=
  if y0 = 0 then
  f_M_act_B71 S x0 x1 x2 y0
  else
  (gR S 23 35 x0).bind fun v17 =>
  (aI S 41 v17 x1).bind fun v18 =>
  if v18 = 0 then
  f_M_act_B71 S x0 x1 x2 y0
  else
  (gR S 23 34 x0).bind fun v19 =>
  (aI S 40 v19 x1).bind fun v20 =>
  if v20 = (-1 : Int32) then
  (kr_rv S 23 x0).bind fun u21 =>
  kr_b2 (f_M_levelNow S x0 x1) fun v23 S22 =>
  if v23 < (3 : Int32) then
  f_M_act_B71 S22 x0 x1 x2 y0
  else
  (gR S22 23 8 x0).bind fun v24 =>
  (gR S22 23 31 x0).bind fun v25 =>
  (aI S22 40 v25 x1).bind fun v26 =>
  (aI S22 41 v24 v26).bind fun v27 =>
  if v27 = 0 then
  f_M_act_B71 S22 x0 x1 x2 y0
  else
  f_M_act_B72 S22 x0 x1 x2 y0 (1 : Int32)
  else
  f_M_act_B71 S x0 x1 x2 y0
def f_M_act_B19 (S : AS) (x0 : Option Nat) (x1 : Int32) (x2 : Int32) : Option (Int32 × AS) :=
  f_M_act_B20 S x0 x1 x2 (0 : Int32)
def f_M_act (S : AS) (a0 : Option Nat) (a1 : Int32) (a2 : Int32) : Option (Int32 × AS) :=
  (kr_rv S 23 a0).bind fun u28 =>
  kr_b2 (f_M_isSession S a0 a1) fun v30 S29 =>
  if v30 = 0 then
  f_M_act_B19 S29 a0 a1 a2
  else
  kr_b2 (f_M_isSix S29 a2) fun v32 S31 =>
  if v32 = 0 then
  f_M_act_B19 S31 a0 a1 a2
  else
  f_M_act_B20 S31 a0 a1 a2 (1 : Int32)
set_option maxRecDepth 20000 in
set_option maxHeartbeats 4000000 in
theorem s_M_act_C137 {k137 : AS → Option Nat → Int32 → Int32 → Int32 → Option (Int32 × AS)} (hk137 : ∀ {S : AS} {x0 : Option Nat} {x1 : Int32} {x5 : Int32} {x6 : Int32} {r : (Int32 × AS)}, k137 S x0 x1 x5 x6 = some r → kr_AW m_M_act 2 137 [(0, va_rf x0), (1, .int x1), (5, .int x5), (6, .int x6)] [] S (kr_eI r)) {S : AS} {x0 : Option Nat} {x1 : Int32} {x5 : Int32} {x6 : Int32} {r : (Int32 × AS)} (h : f_M_act_C137 k137 S x0 x1 x5 x6 = some r) : kr_AW m_M_act 2 137 [(0, va_rf x0), (1, .int x1), (5, .int x5), (6, .int x6)] [] S (kr_eI r) := by
  unfold f_M_act_C137 at h
  refine r_iload (i := 6) (x := x6) 3 rfl d_M_act_137 ?_
  refine r_iconst (v := (3 : Int32)) (by decide) d_M_act_139 ?_
  refine r_icmp_ge (tgt := 172) d_M_act_140 rfl (fun c => ?_) (fun c => ?_)
  · replace h := kr_ip c h
    refine r_iload (i := 5) (x := x5) 2 rfl d_M_act_172 ?_
    cases h
    exact r_iret rfl d_M_act_174
  · replace h := kr_in_ c h
    refine r_aload_n (i := 0) (x := x0) 0 rfl d_M_act_143 ?_
    have h2 := kr_ob h
    clear h
    obtain ⟨v1, ev1, h⟩ := h2
    refine r_getR ev1 fk74 rfl d_M_act_144 ?_
    refine r_iconst (v := (3 : Int32)) (by decide) d_M_act_147 ?_
    refine r_iload (i := 5) (x := x5) 2 rfl d_M_act_148 ?_
    refine r_imul d_M_act_150 ?_
    refine r_iload (i := 6) (x := x6) 3 rfl d_M_act_151 ?_
    refine r_iadd d_M_act_153 ?_
    refine r_aload_n (i := 0) (x := x0) 0 rfl d_M_act_154 ?_
    have h2 := kr_ob h
    clear h
    obtain ⟨v2, ev2, h⟩ := h2
    refine r_getR ev2 fk74 rfl d_M_act_155 ?_
    refine r_iconst (v := (3 : Int32)) (by decide) d_M_act_158 ?_
    refine r_iload_n (i := 1) (x := x1) 1 rfl d_M_act_159 ?_
    refine r_imul d_M_act_160 ?_
    refine r_iload (i := 6) (x := x6) 3 rfl d_M_act_161 ?_
    refine r_iadd d_M_act_163 ?_
    have h2 := kr_ob h
    clear h
    obtain ⟨v3, ev3, h⟩ := h2
    refine r_iaload ev3 d_M_act_164 ?_
    have h2 := kr_ob h
    clear h
    obtain ⟨S4, eS4, h⟩ := h2
    refine r_iastore eS4 d_M_act_165 ?_
    have h2 := kr_ob h
    clear h
    obtain ⟨i5, ei5, h⟩ := h2
    refine r_iinc (v := i5) (lv' := [(6, .int i5), (0, va_rf x0), (1, .int x1), (5, .int x5)]) 3 rfl (kr_inc (by decide) ei5) (by decide) rfl d_M_act_166 ?_
    refine r_goto (tgt := 137) d_M_act_169 rfl ?_
    exact kr_sub [1, 2, 3, 0] rfl (hk137 h)
theorem s_M_act_L137 (n : Nat) : ∀ {S : AS} {x0 : Option Nat} {x1 : Int32} {x5 : Int32} {x6 : Int32} {r : (Int32 × AS)}, f_M_act_L137 n S x0 x1 x5 x6 = some r → kr_AW m_M_act 2 137 [(0, va_rf x0), (1, .int x1), (5, .int x5), (6, .int x6)] [] S (kr_eI r) := by
  induction n with
  | zero => intro S x0 x1 x5 x6 r h; cases h
  | succ n ih => intro S x0 x1 x5 x6 r h; exact s_M_act_C137 (fun {_} {_} {_} {_} {_} {_} h => ih h) h
set_option maxRecDepth 20000 in
set_option maxHeartbeats 4000000 in
theorem s_M_act_B112 {S : AS} {x0 : Option Nat} {x1 : Int32} {x2 : Int32} {x3 : Int32} {y0 : Int32} {r : (Int32 × AS)} (h : f_M_act_B112 S x0 x1 x2 x3 y0 = some r) : kr_AW m_M_act 2 112 [(0, va_rf x0), (1, .int x1), (2, .int x2), (3, .int x3)] [.int y0] S (kr_eI r) := by
  unfold f_M_act_B112 at h
  refine r_istore (i := 4) (lv' := [(4, .int y0), (0, va_rf x0), (1, .int x1), (2, .int x2), (3, .int x3)]) (by decide) rfl d_M_act_112 ?_
  refine r_aload_n (i := 0) (x := x0) 1 rfl d_M_act_114 ?_
  refine r_iload_n (i := 3) (x := x3) 4 rfl d_M_act_115 ?_
  refine r_iload (i := 4) (x := y0) 0 rfl d_M_act_116 ?_
  have h2 := kr_ob h
  clear h
  obtain ⟨⟨⟩, eu6, h⟩ := h2
  have h2 := kr_ob2 h
  clear h
  obtain ⟨v8, S7, eS7, h⟩ := h2
  refine r_callV (M1 := m_M_mayBoth) (κ := 23) (As := [.int x3, .int y0]) eu6 (s_M_mayBoth eS7) mok_M_mayBoth rfl (by decide) rfl w1720 w1722 w43 (by decide) (kr_c8 kr_c0) d_M_act_118 (kr_k1 ?_) kr_kn
  refine r_if_ne (tgt := 126) d_M_act_121 rfl (fun c => ?_) (fun c => ?_)
  · replace h := kr_ip c h
    refine r_iconst (v := (0 : Int32)) (by decide) d_M_act_124 ?_
    cases h
    exact r_iret rfl d_M_act_125
  · replace h := kr_in_ c h
    refine r_aload_n (i := 0) (x := x0) 1 rfl d_M_act_126 ?_
    refine r_iload_n (i := 2) (x := x2) 3 rfl d_M_act_127 ?_
    refine r_iload_n (i := 1) (x := x1) 2 rfl d_M_act_128 ?_
    have h2 := kr_ob h
    clear h
    obtain ⟨⟨⟩, eu9, h⟩ := h2
    have h2 := kr_ob2 h
    clear h
    obtain ⟨v11, S10, eS10, h⟩ := h2
    refine r_callV (M1 := m_M_newSession) (κ := 23) (As := [.int x2, .int x1]) eu9 (s_M_newSession eS10) mok_M_newSession rfl (by decide) rfl w1831 w1833 w59 (by decide) (kr_c8 kr_c0) d_M_act_129 (kr_k1 ?_) kr_kn
    refine r_istore (i := 5) (lv' := [(5, .int v11), (4, .int y0), (0, va_rf x0), (1, .int x1), (2, .int x2), (3, .int x3)]) (by decide) rfl d_M_act_132 ?_
    refine r_iconst (v := (0 : Int32)) (by decide) d_M_act_134 ?_
    refine r_istore (i := 6) (lv' := [(6, .int (0 : Int32)), (5, .int v11), (4, .int y0), (0, va_rf x0), (1, .int x1), (2, .int x2), (3, .int x3)]) (by decide) rfl d_M_act_135 ?_
    exact kr_sub [3, 4, 1, 0] rfl (s_M_act_L137 kr_FU h)
set_option maxRecDepth 20000 in
set_option maxHeartbeats 4000000 in
theorem s_M_act_B111 {S : AS} {x0 : Option Nat} {x1 : Int32} {x2 : Int32} {x3 : Int32} {r : (Int32 × AS)} (h : f_M_act_B111 S x0 x1 x2 x3 = some r) : kr_AW m_M_act 2 111 [(0, va_rf x0), (1, .int x1), (2, .int x2), (3, .int x3)] [] S (kr_eI r) := by
  unfold f_M_act_B111 at h
  refine r_iconst (v := (0 : Int32)) (by decide) d_M_act_111 ?_
  exact kr_sub [0, 1, 2, 3] rfl (s_M_act_B112 h)
set_option maxRecDepth 20000 in
set_option maxHeartbeats 4000000 in
theorem s_M_act_B72 {S : AS} {x0 : Option Nat} {x1 : Int32} {x2 : Int32} {x3 : Int32} {y0 : Int32} {r : (Int32 × AS)} (h : f_M_act_B72 S x0 x1 x2 x3 y0 = some r) : kr_AW m_M_act 2 72 [(0, va_rf x0), (1, .int x1), (2, .int x2), (3, .int x3)] [.int y0] S (kr_eI r) := by
  unfold f_M_act_B72 at h
  refine r_istore (i := 4) (lv' := [(4, .int y0), (0, va_rf x0), (1, .int x1), (2, .int x2), (3, .int x3)]) (by decide) rfl d_M_act_72 ?_
  refine r_iload (i := 4) (x := y0) 0 rfl d_M_act_74 ?_
  refine r_if_eq (tgt := 111) d_M_act_76 rfl (fun c => ?_) (fun c => ?_)
  · replace h := kr_ip c h
    exact kr_sub [1, 2, 3, 4] rfl (s_M_act_B111 h)
  · replace h := kr_in_ c h
    refine r_aload_n (i := 0) (x := x0) 1 rfl d_M_act_79 ?_
    have h2 := kr_ob h
    clear h
    obtain ⟨v12, ev12, h⟩ := h2
    refine r_getR ev12 fk69 rfl d_M_act_80 ?_
    refine r_iload_n (i := 1) (x := x1) 2 rfl d_M_act_83 ?_
    have h2 := kr_ob h
    clear h
    obtain ⟨v13, ev13, h⟩ := h2
    refine r_iaload ev13 d_M_act_84 ?_
    refine r_iload_n (i := 2) (x := x2) 3 rfl d_M_act_85 ?_
    refine r_icmp_eq (tgt := 111) d_M_act_86 rfl (fun c => ?_) (fun c => ?_)
    · replace h := kr_ip c h
      exact kr_sub [1, 2, 3, 4] rfl (s_M_act_B111 h)
    · replace h := kr_in_ c h
      refine r_aload_n (i := 0) (x := x0) 1 rfl d_M_act_89 ?_
      have h2 := kr_ob h
      clear h
      obtain ⟨v14, ev14, h⟩ := h2
      refine r_getR ev14 fk50 rfl d_M_act_90 ?_
      refine r_iload_n (i := 2) (x := x2) 3 rfl d_M_act_93 ?_
      have h2 := kr_ob h
      clear h
      obtain ⟨v15, ev15, h⟩ := h2
      refine r_baload ev15 d_M_act_94 ?_
      refine r_if_ne (tgt := 111) d_M_act_95 rfl (fun c => ?_) (fun c => ?_)
      · replace h := kr_ip c h
        refine r_aload_n (i := 0) (x := x0) 1 rfl d_M_act_98 ?_
        have h2 := kr_ob h
        clear h
        obtain ⟨v16, ev16, h⟩ := h2
        refine r_getI ev16 fk133 rfl d_M_act_99 ?_
        refine r_bipush (v := (60 : Int32)) (by decide) d_M_act_102 ?_
        refine r_icmp_ge (tgt := 111) d_M_act_104 rfl (fun c => ?_) (fun c => ?_)
        · replace h := kr_ip c h
          exact kr_sub [1, 2, 3, 4] rfl (s_M_act_B111 h)
        · replace h := kr_in_ c h
          refine r_iconst (v := (1 : Int32)) (by decide) d_M_act_107 ?_
          refine r_goto (tgt := 112) d_M_act_108 rfl ?_
          exact kr_sub [1, 2, 3, 4] rfl (s_M_act_B112 h)
      · replace h := kr_in_ c h
        exact kr_sub [1, 2, 3, 4] rfl (s_M_act_B111 h)
set_option maxRecDepth 20000 in
set_option maxHeartbeats 4000000 in
theorem s_M_act_B71 {S : AS} {x0 : Option Nat} {x1 : Int32} {x2 : Int32} {x3 : Int32} {r : (Int32 × AS)} (h : f_M_act_B71 S x0 x1 x2 x3 = some r) : kr_AW m_M_act 2 71 [(0, va_rf x0), (1, .int x1), (2, .int x2), (3, .int x3)] [] S (kr_eI r) := by
  unfold f_M_act_B71 at h
  refine r_iconst (v := (0 : Int32)) (by decide) d_M_act_71 ?_
  exact kr_sub [0, 1, 2, 3] rfl (s_M_act_B72 h)
set_option maxRecDepth 20000 in
set_option maxHeartbeats 4000000 in
theorem s_M_act_B20 {S : AS} {x0 : Option Nat} {x1 : Int32} {x2 : Int32} {y0 : Int32} {r : (Int32 × AS)} (h : f_M_act_B20 S x0 x1 x2 y0 = some r) : kr_AW m_M_act 2 20 [(0, va_rf x0), (1, .int x1), (2, .int x2)] [.int y0] S (kr_eI r) := by
  unfold f_M_act_B20 at h
  refine r_istore_n (i := 3) (lv' := [(3, .int y0), (0, va_rf x0), (1, .int x1), (2, .int x2)]) (by decide) rfl d_M_act_20 ?_
  refine r_iload_n (i := 3) (x := y0) 0 rfl d_M_act_21 ?_
  refine r_if_eq (tgt := 71) d_M_act_22 rfl (fun c => ?_) (fun c => ?_)
  · replace h := kr_ip c h
    exact kr_sub [1, 2, 3, 0] rfl (s_M_act_B71 h)
  · replace h := kr_in_ c h
    refine r_aload_n (i := 0) (x := x0) 1 rfl d_M_act_25 ?_
    have h2 := kr_ob h
    clear h
    obtain ⟨v17, ev17, h⟩ := h2
    refine r_getR ev17 fk73 rfl d_M_act_26 ?_
    refine r_iload_n (i := 1) (x := x1) 2 rfl d_M_act_29 ?_
    have h2 := kr_ob h
    clear h
    obtain ⟨v18, ev18, h⟩ := h2
    refine r_baload ev18 d_M_act_30 ?_
    refine r_if_eq (tgt := 71) d_M_act_31 rfl (fun c => ?_) (fun c => ?_)
    · replace h := kr_ip c h
      exact kr_sub [1, 2, 3, 0] rfl (s_M_act_B71 h)
    · replace h := kr_in_ c h
      refine r_aload_n (i := 0) (x := x0) 1 rfl d_M_act_34 ?_
      have h2 := kr_ob h
      clear h
      obtain ⟨v19, ev19, h⟩ := h2
      refine r_getR ev19 fk72 rfl d_M_act_35 ?_
      refine r_iload_n (i := 1) (x := x1) 2 rfl d_M_act_38 ?_
      have h2 := kr_ob h
      clear h
      obtain ⟨v20, ev20, h⟩ := h2
      refine r_iaload ev20 d_M_act_39 ?_
      refine r_iconst (v := (-1 : Int32)) (by decide) d_M_act_40 ?_
      refine r_icmp_ne (tgt := 71) d_M_act_41 rfl (fun c => ?_) (fun c => ?_)
      · replace h := kr_ip c h
        refine r_aload_n (i := 0) (x := x0) 1 rfl d_M_act_44 ?_
        refine r_iload_n (i := 1) (x := x1) 2 rfl d_M_act_45 ?_
        have h2 := kr_ob h
        clear h
        obtain ⟨⟨⟩, eu21, h⟩ := h2
        have h2 := kr_ob2 h
        clear h
        obtain ⟨v23, S22, eS22, h⟩ := h2
        refine r_callV (M1 := m_M_levelNow) (κ := 23) (As := [.int x1]) eu21 (s_M_levelNow eS22) mok_M_levelNow rfl (by decide) rfl w1895 w1897 w65 (by decide) (kr_c8 kr_c0) d_M_act_46 (kr_k1 ?_) kr_kn
        refine r_iconst (v := (3 : Int32)) (by decide) d_M_act_49 ?_
        refine r_icmp_lt (tgt := 71) d_M_act_50 rfl (fun c => ?_) (fun c => ?_)
        · replace h := kr_ip c h
          exact kr_sub [1, 2, 3, 0] rfl (s_M_act_B71 h)
        · replace h := kr_in_ c h
          refine r_aload_n (i := 0) (x := x0) 1 rfl d_M_act_53 ?_
          have h2 := kr_ob h
          clear h
          obtain ⟨v24, ev24, h⟩ := h2
          refine r_getR ev24 fk51 rfl d_M_act_54 ?_
          refine r_aload_n (i := 0) (x := x0) 1 rfl d_M_act_57 ?_
          have h2 := kr_ob h
          clear h
          obtain ⟨v25, ev25, h⟩ := h2
          refine r_getR ev25 fk69 rfl d_M_act_58 ?_
          refine r_iload_n (i := 1) (x := x1) 2 rfl d_M_act_61 ?_
          have h2 := kr_ob h
          clear h
          obtain ⟨v26, ev26, h⟩ := h2
          refine r_iaload ev26 d_M_act_62 ?_
          have h2 := kr_ob h
          clear h
          obtain ⟨v27, ev27, h⟩ := h2
          refine r_baload ev27 d_M_act_63 ?_
          refine r_if_eq (tgt := 71) d_M_act_64 rfl (fun c => ?_) (fun c => ?_)
          · replace h := kr_ip c h
            exact kr_sub [1, 2, 3, 0] rfl (s_M_act_B71 h)
          · replace h := kr_in_ c h
            refine r_iconst (v := (1 : Int32)) (by decide) d_M_act_67 ?_
            refine r_goto (tgt := 72) d_M_act_68 rfl ?_
            exact kr_sub [1, 2, 3, 0] rfl (s_M_act_B72 h)
      · replace h := kr_in_ c h
        exact kr_sub [1, 2, 3, 0] rfl (s_M_act_B71 h)
set_option maxRecDepth 20000 in
set_option maxHeartbeats 4000000 in
theorem s_M_act_B19 {S : AS} {x0 : Option Nat} {x1 : Int32} {x2 : Int32} {r : (Int32 × AS)} (h : f_M_act_B19 S x0 x1 x2 = some r) : kr_AW m_M_act 2 19 [(0, va_rf x0), (1, .int x1), (2, .int x2)] [] S (kr_eI r) := by
  unfold f_M_act_B19 at h
  refine r_iconst (v := (0 : Int32)) (by decide) d_M_act_19 ?_
  exact kr_sub [0, 1, 2] rfl (s_M_act_B20 h)
set_option maxRecDepth 20000 in
set_option maxHeartbeats 4000000 in
theorem s_M_act {S : AS} {a0 : Option Nat} {a1 : Int32} {a2 : Int32} {r : (Int32 × AS)} (h : f_M_act S a0 a1 a2 = some r) : kr_Con m_M_act 2 [va_rf a0, .int a1, .int a2] S (kr_eI r) := by
  refine kr_con rfl rfl (by decide +kernel) (by simp [lg_sl, kr_rfcat, kr_icat, m_M_act, mL]) ?_
  rw [show lv_args 0 [va_rf a0, .int a1, .int a2] = [(0, va_rf a0), (1, .int a1), (2, .int a2)] from by simp [lv_args, kr_rfcat, kr_icat]]
  unfold f_M_act at h
  refine r_aload_n (i := 0) (x := a0) 0 rfl d_M_act_0 ?_
  refine r_iload_n (i := 1) (x := a1) 1 rfl d_M_act_1 ?_
  have h2 := kr_ob h
  clear h
  obtain ⟨⟨⟩, eu28, h⟩ := h2
  have h2 := kr_ob2 h
  clear h
  obtain ⟨v30, S29, eS29, h⟩ := h2
  refine r_callV (M1 := m_M_isSession) (κ := 23) (As := [.int a1]) eu28 (s_M_isSession eS29) mok_M_isSession rfl (by decide) rfl w1883 w1885 w64 (by decide) (kr_c8 kr_c0) d_M_act_2 (kr_k1 ?_) kr_kn
  refine r_if_eq (tgt := 19) d_M_act_5 rfl (fun c => ?_) (fun c => ?_)
  · replace h := kr_ip c h
    exact kr_sub [0, 1, 2] rfl (s_M_act_B19 h)
  · replace h := kr_in_ c h
    refine r_iload_n (i := 2) (x := a2) 2 rfl d_M_act_8 ?_
    have h2 := kr_ob2 h
    clear h
    obtain ⟨v32, S31, eS31, h⟩ := h2
    refine r_callS (M1 := m_M_isSix) (As := [.int a2]) (s_M_isSix eS31) mok_M_isSix rfl w1748 w1749 (by decide) (kr_c8 kr_c0) d_M_act_9 (kr_k1 ?_) kr_kn
    refine r_if_eq (tgt := 19) d_M_act_12 rfl (fun c => ?_) (fun c => ?_)
    · replace h := kr_ip c h
      exact kr_sub [0, 1, 2] rfl (s_M_act_B19 h)
    · replace h := kr_in_ c h
      refine r_iconst (v := (1 : Int32)) (by decide) d_M_act_15 ?_
      refine r_goto (tgt := 20) d_M_act_16 rfl ?_
      exact kr_sub [0, 1, 2] rfl (s_M_act_B20 h)
/-! KeyringCourtModel.isService(I)Z -/
def f_M_isService (S : AS) (a0 : Int32) : Option (Int32 × AS) :=
  kr_b2 (f_M_isIn S a0 (0 : Int32) (3 : Int32)) fun v2 S1 =>
  (kr_z v2).bind fun u3 =>
  some (v2, S1)
set_option maxRecDepth 20000 in
set_option maxHeartbeats 4000000 in
theorem s_M_isService {S : AS} {a0 : Int32} {r : (Int32 × AS)} (h : f_M_isService S a0 = some r) : kr_Con m_M_isService 1 [.int a0] S (kr_eI r) := by
  refine kr_con rfl rfl (by decide +kernel) (by simp [lg_sl, kr_rfcat, kr_icat, m_M_isService, mL]) ?_
  rw [show lv_args 0 [.int a0] = [(0, .int a0)] from by simp [lv_args, kr_rfcat, kr_icat]]
  unfold f_M_isService at h
  refine r_iload_n (i := 0) (x := a0) 0 rfl d_M_isService_0 ?_
  refine r_iconst (v := (0 : Int32)) (by decide) d_M_isService_1 ?_
  refine r_iconst (v := (3 : Int32)) (by decide) d_M_isService_2 ?_
  have h2 := kr_ob2 h
  clear h
  obtain ⟨v2, S1, eS1, h⟩ := h2
  refine r_callS (M1 := m_M_isIn) (As := [.int a0, .int (0 : Int32), .int (3 : Int32)]) (s_M_isIn eS1) mok_M_isIn rfl w1700 w1701 (by decide) (kr_c8 kr_c0) d_M_isService_3 (kr_k1 ?_) kr_kn
  have h2 := kr_ob h
  clear h
  obtain ⟨⟨⟩, eu3, h⟩ := h2
  cases h
  exact r_zret rfl eu3 d_M_isService_6
/-! KeyringCourtModel.consent(III)I -/
def f_M_consent_B53 (S : AS) (x0 : Option Nat) (x2 : Int32) (x3 : Int32) (y0 : Int32) (y1 : Int32) : Option (Int32 × AS) :=
  (some ((y0 * y1) + x2)).bind fun i1 =>
  (gR S 23 37 x0).bind fun v2 =>
  (aI S 40 v2 i1).bind fun v3 =>
  (bI S v2 i1 (v3 ||| x3)).bind fun S4 =>
  (gR S4 23 37 x0).bind fun v5 =>
  (aI S4 40 v5 i1).bind fun v6 =>
  some (v6, S4)
def f_M_consent_B21 (S : AS) (x0 : Option Nat) (x1 : Int32) (x2 : Int32) (x3 : Int32) (y0 : Int32) : Option (Int32 × AS) :=
  kr_b2 (f_M_isIn S x3 (0 : Int32) (15 : Int32)) fun v8 S7 =>
  (kr_rv S7 23 x0).bind fun u9 =>
  kr_b2 (f_M_mayBoth S7 x0 y0 v8) fun v11 S10 =>
  if v11 = 0 then
  some ((0 : Int32), S10)
  else
  if x1 = (-1 : Int32) then
  f_M_consent_B53 S10 x0 x2 x3 (4 : Int32) (6 : Int32)
  else
  f_M_consent_B53 S10 x0 x2 x3 (4 : Int32) x1
def f_M_consent_B20 (S : AS) (x0 : Option Nat) (x1 : Int32) (x2 : Int32) (x3 : Int32) : Option (Int32 × AS) :=
  f_M_consent_B21 S x0 x1 x2 x3 (0 : Int32)
def f_M_consent (S : AS) (a0 : Option Nat) (a1 : Int32) (a2 : Int32) (a3 : Int32) : Option (Int32 × AS) :=
  kr_b2 (f_M_isIn S a1 (-1 : Int32) (5 : Int32)) fun v13 S12 =>
  if v13 = 0 then
  f_M_consent_B20 S12 a0 a1 a2 a3
  else
  kr_b2 (f_M_isService S12 a2) fun v15 S14 =>
  if v15 = 0 then
  f_M_consent_B20 S14 a0 a1 a2 a3
  else
  f_M_consent_B21 S14 a0 a1 a2 a3 (1 : Int32)
set_option maxRecDepth 20000 in
set_option maxHeartbeats 4000000 in
theorem s_M_consent_B53 {S : AS} {x0 : Option Nat} {x2 : Int32} {x3 : Int32} {y0 : Int32} {y1 : Int32} {r : (Int32 × AS)} (h : f_M_consent_B53 S x0 x2 x3 y0 y1 = some r) : kr_AW m_M_consent 2 53 [(0, va_rf x0), (2, .int x2), (3, .int x3)] [.int y1, .int y0] S (kr_eI r) := by
  unfold f_M_consent_B53 at h
  refine r_imul d_M_consent_53 ?_
  refine r_iload_n (i := 2) (x := x2) 1 rfl d_M_consent_54 ?_
  refine r_iadd d_M_consent_55 ?_
  have h2 := kr_ob h
  clear h
  obtain ⟨i1, ei1, h⟩ := h2
  refine kr_nmI ei1 ?_
  refine r_istore (i := 5) (lv' := [(5, .int i1), (0, va_rf x0), (2, .int x2), (3, .int x3)]) (by decide) rfl d_M_consent_56 ?_
  refine r_aload_n (i := 0) (x := x0) 1 rfl d_M_consent_58 ?_
  have h2 := kr_ob h
  clear h
  obtain ⟨v2, ev2, h⟩ := h2
  refine r_getR ev2 fk75 rfl d_M_consent_59 ?_
  refine r_iload (i := 5) (x := i1) 0 rfl d_M_consent_62 ?_
  refine r_dup2 rfl (kr_rfcat _) d_M_consent_64 ?_
  have h2 := kr_ob h
  clear h
  obtain ⟨v3, ev3, h⟩ := h2
  refine r_iaload ev3 d_M_consent_65 ?_
  refine r_iload_n (i := 3) (x := x3) 3 rfl d_M_consent_66 ?_
  refine r_ior d_M_consent_67 ?_
  have h2 := kr_ob h
  clear h
  obtain ⟨S4, eS4, h⟩ := h2
  refine r_iastore eS4 d_M_consent_68 ?_
  refine r_aload_n (i := 0) (x := x0) 1 rfl d_M_consent_69 ?_
  have h2 := kr_ob h
  clear h
  obtain ⟨v5, ev5, h⟩ := h2
  refine r_getR ev5 fk75 rfl d_M_consent_70 ?_
  refine r_iload (i := 5) (x := i1) 0 rfl d_M_consent_73 ?_
  have h2 := kr_ob h
  clear h
  obtain ⟨v6, ev6, h⟩ := h2
  refine r_iaload ev6 d_M_consent_75 ?_
  cases h
  exact r_iret rfl d_M_consent_76
set_option maxRecDepth 20000 in
set_option maxHeartbeats 4000000 in
theorem s_M_consent_B21 {S : AS} {x0 : Option Nat} {x1 : Int32} {x2 : Int32} {x3 : Int32} {y0 : Int32} {r : (Int32 × AS)} (h : f_M_consent_B21 S x0 x1 x2 x3 y0 = some r) : kr_AW m_M_consent 2 21 [(0, va_rf x0), (1, .int x1), (2, .int x2), (3, .int x3)] [.int y0] S (kr_eI r) := by
  unfold f_M_consent_B21 at h
  refine r_istore (i := 4) (lv' := [(4, .int y0), (0, va_rf x0), (1, .int x1), (2, .int x2), (3, .int x3)]) (by decide) rfl d_M_consent_21 ?_
  refine r_aload_n (i := 0) (x := x0) 1 rfl d_M_consent_23 ?_
  refine r_iload (i := 4) (x := y0) 0 rfl d_M_consent_24 ?_
  refine r_iload_n (i := 3) (x := x3) 4 rfl d_M_consent_26 ?_
  refine r_iconst (v := (0 : Int32)) (by decide) d_M_consent_27 ?_
  refine r_bipush (v := (15 : Int32)) (by decide) d_M_consent_28 ?_
  have h2 := kr_ob2 h
  clear h
  obtain ⟨v8, S7, eS7, h⟩ := h2
  refine r_callS (M1 := m_M_isIn) (As := [.int x3, .int (0 : Int32), .int (15 : Int32)]) (s_M_isIn eS7) mok_M_isIn rfl w1700 w1701 (by decide) (kr_c8 (kr_cI (kr_cR kr_c0))) d_M_consent_30 (kr_k1 ?_) kr_kn
  have h2 := kr_ob h
  clear h
  obtain ⟨⟨⟩, eu9, h⟩ := h2
  have h2 := kr_ob2 h
  clear h
  obtain ⟨v11, S10, eS10, h⟩ := h2
  refine r_callV (M1 := m_M_mayBoth) (κ := 23) (As := [.int y0, .int v8]) eu9 (s_M_mayBoth eS10) mok_M_mayBoth rfl (by decide) rfl w1720 w1722 w43 (by decide) (kr_c8 kr_c0) d_M_consent_33 (kr_k1 ?_) kr_kn
  refine r_if_ne (tgt := 41) d_M_consent_36 rfl (fun c => ?_) (fun c => ?_)
  · replace h := kr_ip c h
    refine r_iconst (v := (0 : Int32)) (by decide) d_M_consent_39 ?_
    cases h
    exact r_iret rfl d_M_consent_40
  · replace h := kr_in_ c h
    refine r_iconst (v := (4 : Int32)) (by decide) d_M_consent_41 ?_
    refine r_iload_n (i := 1) (x := x1) 2 rfl d_M_consent_42 ?_
    refine r_iconst (v := (-1 : Int32)) (by decide) d_M_consent_43 ?_
    refine r_icmp_ne (tgt := 52) d_M_consent_44 rfl (fun c => ?_) (fun c => ?_)
    · replace h := kr_ip c h
      refine r_bipush (v := (6 : Int32)) (by decide) d_M_consent_47 ?_
      refine r_goto (tgt := 53) d_M_consent_49 rfl ?_
      exact kr_sub [1, 3, 4] rfl (s_M_consent_B53 h)
    · replace h := kr_in_ c h
      refine r_iload_n (i := 1) (x := x1) 2 rfl d_M_consent_52 ?_
      exact kr_sub [1, 3, 4] rfl (s_M_consent_B53 h)
set_option maxRecDepth 20000 in
set_option maxHeartbeats 4000000 in
theorem s_M_consent_B20 {S : AS} {x0 : Option Nat} {x1 : Int32} {x2 : Int32} {x3 : Int32} {r : (Int32 × AS)} (h : f_M_consent_B20 S x0 x1 x2 x3 = some r) : kr_AW m_M_consent 2 20 [(0, va_rf x0), (1, .int x1), (2, .int x2), (3, .int x3)] [] S (kr_eI r) := by
  unfold f_M_consent_B20 at h
  refine r_iconst (v := (0 : Int32)) (by decide) d_M_consent_20 ?_
  exact kr_sub [0, 1, 2, 3] rfl (s_M_consent_B21 h)
set_option maxRecDepth 20000 in
set_option maxHeartbeats 4000000 in
theorem s_M_consent {S : AS} {a0 : Option Nat} {a1 : Int32} {a2 : Int32} {a3 : Int32} {r : (Int32 × AS)} (h : f_M_consent S a0 a1 a2 a3 = some r) : kr_Con m_M_consent 2 [va_rf a0, .int a1, .int a2, .int a3] S (kr_eI r) := by
  refine kr_con rfl rfl (by decide +kernel) (by simp [lg_sl, kr_rfcat, kr_icat, m_M_consent, mL]) ?_
  rw [show lv_args 0 [va_rf a0, .int a1, .int a2, .int a3] = [(0, va_rf a0), (1, .int a1), (2, .int a2), (3, .int a3)] from by simp [lv_args, kr_rfcat, kr_icat]]
  unfold f_M_consent at h
  refine r_iload_n (i := 1) (x := a1) 1 rfl d_M_consent_0 ?_
  refine r_iconst (v := (-1 : Int32)) (by decide) d_M_consent_1 ?_
  refine r_iconst (v := (5 : Int32)) (by decide) d_M_consent_2 ?_
  have h2 := kr_ob2 h
  clear h
  obtain ⟨v13, S12, eS12, h⟩ := h2
  refine r_callS (M1 := m_M_isIn) (As := [.int a1, .int (-1 : Int32), .int (5 : Int32)]) (s_M_isIn eS12) mok_M_isIn rfl w1700 w1701 (by decide) (kr_c8 kr_c0) d_M_consent_3 (kr_k1 ?_) kr_kn
  refine r_if_eq (tgt := 20) d_M_consent_6 rfl (fun c => ?_) (fun c => ?_)
  · replace h := kr_ip c h
    exact kr_sub [0, 1, 2, 3] rfl (s_M_consent_B20 h)
  · replace h := kr_in_ c h
    refine r_iload_n (i := 2) (x := a2) 2 rfl d_M_consent_9 ?_
    have h2 := kr_ob2 h
    clear h
    obtain ⟨v15, S14, eS14, h⟩ := h2
    refine r_callS (M1 := m_M_isService) (As := [.int a2]) (s_M_isService eS14) mok_M_isService rfl w1919 w1920 (by decide) (kr_c8 kr_c0) d_M_consent_10 (kr_k1 ?_) kr_kn
    refine r_if_eq (tgt := 20) d_M_consent_13 rfl (fun c => ?_) (fun c => ?_)
    · replace h := kr_ip c h
      exact kr_sub [0, 1, 2, 3] rfl (s_M_consent_B20 h)
    · replace h := kr_in_ c h
      refine r_iconst (v := (1 : Int32)) (by decide) d_M_consent_16 ?_
      refine r_goto (tgt := 21) d_M_consent_17 rfl ?_
      exact kr_sub [0, 1, 2, 3] rfl (s_M_consent_B21 h)
/-! KeyringCourtModel.withdraw(II)I -/
def f_M_withdraw_B131 (k44 : AS → Option Nat → Int32 → Int32 → Int32 → Int32 → Option (Int32 × AS)) (S : AS) (x0 : Option Nat) (x1 : Int32) (x2 : Int32) (x3 : Int32) (x4 : Int32) : Option (Int32 × AS) :=
  (some (x4 + (1 : Int32))).bind fun i1 =>
  k44 S x0 x1 x2 x3 i1
def f_M_withdraw_B118 (k44 : AS → Option Nat → Int32 → Int32 → Int32 → Int32 → Option (Int32 × AS)) (S : AS) (x0 : Option Nat) (x1 : Int32) (x2 : Int32) (x4 : Int32) (x5 : Int32) (y0 : Int32) (y1 : Int32) : Option (Int32 × AS) :=
  (some (y0 + y1)).bind fun i2 =>
  if x5 = 0 then
  f_M_withdraw_B131 k44 S x0 x1 x2 i2 x4
  else
  (kr_rv S 23 x0).bind fun u3 =>
  (f_M_endFamily S x0 x4).bind fun S4 =>
  f_M_withdraw_B131 k44 S4 x0 x1 x2 i2 x4
def f_M_withdraw_B105 (k44 : AS → Option Nat → Int32 → Int32 → Int32 → Int32 → Option (Int32 × AS)) (S : AS) (x0 : Option Nat) (x1 : Int32) (x2 : Int32) (x3 : Int32) (x4 : Int32) (y0 : Int32) : Option (Int32 × AS) :=
  if y0 = 0 then
  f_M_withdraw_B118 k44 S x0 x1 x2 x4 y0 x3 (0 : Int32)
  else
  f_M_withdraw_B118 k44 S x0 x1 x2 x4 y0 x3 (1 : Int32)
def f_M_withdraw_B104 (k44 : AS → Option Nat → Int32 → Int32 → Int32 → Int32 → Option (Int32 × AS)) (S : AS) (x0 : Option Nat) (x1 : Int32) (x2 : Int32) (x3 : Int32) (x4 : Int32) : Option (Int32 × AS) :=
  f_M_withdraw_B105 k44 S x0 x1 x2 x3 x4 (0 : Int32)
def f_M_withdraw_C44 (k44 : AS → Option Nat → Int32 → Int32 → Int32 → Int32 → Option (Int32 × AS)) (S : AS) (x0 : Option Nat) (x1 : Int32) (x2 : Int32) (x3 : Int32) (x4 : Int32) : Option (Int32 × AS) :=
  (gI S 23 46 x0).bind fun v5 =>
  if v5 ≤ x4 then
  some (x3, S)
  else
  (gR S 23 51 x0).bind fun v6 =>
  (aI S 41 v6 x4).bind fun v7 =>
  if v7 = 0 then
  f_M_withdraw_B104 k44 S x0 x1 x2 x3 x4
  else
  (gR S 23 31 x0).bind fun v8 =>
  (gR S 23 40 x0).bind fun v9 =>
  (gR S 23 47 x0).bind fun v10 =>
  (aI S 40 v10 x4).bind fun v11 =>
  (aI S 40 v9 v11).bind fun v12 =>
  (aI S 40 v8 v12).bind fun v13 =>
  if v13 = x1 then
  (gR S 23 41 x0).bind fun v14 =>
  (gR S 23 47 x0).bind fun v15 =>
  (aI S 40 v15 x4).bind fun v16 =>
  (aI S 40 v14 v16).bind fun v17 =>
  if v17 = x2 then
  f_M_withdraw_B105 k44 S x0 x1 x2 x3 x4 (1 : Int32)
  else
  f_M_withdraw_B104 k44 S x0 x1 x2 x3 x4
  else
  f_M_withdraw_B104 k44 S x0 x1 x2 x3 x4
def f_M_withdraw_L44 : Nat → AS → Option Nat → Int32 → Int32 → Int32 → Int32 → Option (Int32 × AS)
  | 0, S, x0, x1, x2, x3, x4 => none
  | n + 1, S, x0, x1, x2, x3, x4 => f_M_withdraw_C44 (f_M_withdraw_L44 n) S x0 x1 x2 x3 x4
def f_M_withdraw_B20 (S : AS) (x0 : Option Nat) (x1 : Int32) (x2 : Int32) (y0 : Option Nat) (y1 : Int32) : Option (Int32 × AS) :=
  (kr_rv S 23 y0).bind fun u18 =>
  kr_b2 (f_M_may S y0 y1) fun v20 S19 =>
  if v20 = 0 then
  some ((0 : Int32), S19)
  else
  (gR S19 23 37 x0).bind fun v21 =>
  (bI S19 v21 (((4 : Int32) * x1) + x2) (0 : Int32)).bind fun S22 =>
  f_M_withdraw_L44 kr_FU S22 x0 x1 x2 (0 : Int32) (0 : Int32)
def f_M_withdraw_B19 (S : AS) (x0 : Option Nat) (x1 : Int32) (x2 : Int32) (y0 : Option Nat) : Option (Int32 × AS) :=
  f_M_withdraw_B20 S x0 x1 x2 y0 (0 : Int32)
def f_M_withdraw (S : AS) (a0 : Option Nat) (a1 : Int32) (a2 : Int32) : Option (Int32 × AS) :=
  kr_b2 (f_M_isSix S a1) fun v24 S23 =>
  if v24 = 0 then
  f_M_withdraw_B19 S23 a0 a1 a2 a0
  else
  kr_b2 (f_M_isService S23 a2) fun v26 S25 =>
  if v26 = 0 then
  f_M_withdraw_B19 S25 a0 a1 a2 a0
  else
  f_M_withdraw_B20 S25 a0 a1 a2 a0 (1 : Int32)
set_option maxRecDepth 20000 in
set_option maxHeartbeats 4000000 in
theorem s_M_withdraw_B131 {k44 : AS → Option Nat → Int32 → Int32 → Int32 → Int32 → Option (Int32 × AS)} (hk44 : ∀ {S : AS} {x0 : Option Nat} {x1 : Int32} {x2 : Int32} {x3 : Int32} {x4 : Int32} {r : (Int32 × AS)}, k44 S x0 x1 x2 x3 x4 = some r → kr_AW m_M_withdraw 2 44 [(0, va_rf x0), (1, .int x1), (2, .int x2), (3, .int x3), (4, .int x4)] [] S (kr_eI r)) {S : AS} {x0 : Option Nat} {x1 : Int32} {x2 : Int32} {x3 : Int32} {x4 : Int32} {r : (Int32 × AS)} (h : f_M_withdraw_B131 k44 S x0 x1 x2 x3 x4 = some r) : kr_AW m_M_withdraw 2 131 [(0, va_rf x0), (1, .int x1), (2, .int x2), (3, .int x3), (4, .int x4)] [] S (kr_eI r) := by
  unfold f_M_withdraw_B131 at h
  have h2 := kr_ob h
  clear h
  obtain ⟨i1, ei1, h⟩ := h2
  refine r_iinc (v := i1) (lv' := [(4, .int i1), (0, va_rf x0), (1, .int x1), (2, .int x2), (3, .int x3)]) 4 rfl (kr_inc (by decide) ei1) (by decide) rfl d_M_withdraw_131 ?_
  refine r_goto (tgt := 44) d_M_withdraw_134 rfl ?_
  exact kr_sub [1, 2, 3, 4, 0] rfl (hk44 h)
set_option maxRecDepth 20000 in
set_option maxHeartbeats 4000000 in
theorem s_M_withdraw_B118 {k44 : AS → Option Nat → Int32 → Int32 → Int32 → Int32 → Option (Int32 × AS)} (hk44 : ∀ {S : AS} {x0 : Option Nat} {x1 : Int32} {x2 : Int32} {x3 : Int32} {x4 : Int32} {r : (Int32 × AS)}, k44 S x0 x1 x2 x3 x4 = some r → kr_AW m_M_withdraw 2 44 [(0, va_rf x0), (1, .int x1), (2, .int x2), (3, .int x3), (4, .int x4)] [] S (kr_eI r)) {S : AS} {x0 : Option Nat} {x1 : Int32} {x2 : Int32} {x4 : Int32} {x5 : Int32} {y0 : Int32} {y1 : Int32} {r : (Int32 × AS)} (h : f_M_withdraw_B118 k44 S x0 x1 x2 x4 x5 y0 y1 = some r) : kr_AW m_M_withdraw 2 118 [(0, va_rf x0), (1, .int x1), (2, .int x2), (4, .int x4), (5, .int x5)] [.int y1, .int y0] S (kr_eI r) := by
  unfold f_M_withdraw_B118 at h
  refine r_iadd d_M_withdraw_118 ?_
  have h2 := kr_ob h
  clear h
  obtain ⟨i2, ei2, h⟩ := h2
  refine kr_nmI ei2 ?_
  refine r_istore_n (i := 3) (lv' := [(3, .int i2), (0, va_rf x0), (1, .int x1), (2, .int x2), (4, .int x4), (5, .int x5)]) (by decide) rfl d_M_withdraw_119 ?_
  refine r_iload (i := 5) (x := x5) 5 rfl d_M_withdraw_120 ?_
  refine r_if_eq (tgt := 131) d_M_withdraw_122 rfl (fun c => ?_) (fun c => ?_)
  · replace h := kr_ip c h
    exact kr_sub [1, 2, 3, 0, 4] rfl (s_M_withdraw_B131 hk44 h)
  · replace h := kr_in_ c h
    refine r_aload_n (i := 0) (x := x0) 1 rfl d_M_withdraw_125 ?_
    refine r_iload (i := 4) (x := x4) 4 rfl d_M_withdraw_126 ?_
    have h2 := kr_ob h
    clear h
    obtain ⟨⟨⟩, eu3, h⟩ := h2
    have h2 := kr_ob h
    clear h
    obtain ⟨S4, eS4, h⟩ := h2
    refine r_callV (M1 := m_M_endFamily) (κ := 23) (As := [.int x4]) eu3 (s_M_endFamily eS4) mok_M_endFamily rfl (by decide) rfl w1736 w1738 w47 (by decide) (kr_c8 kr_c0) d_M_withdraw_128 (kr_k0 ?_) kr_kn
    exact kr_sub [1, 2, 3, 0, 4] rfl (s_M_withdraw_B131 hk44 h)
set_option maxRecDepth 20000 in
set_option maxHeartbeats 4000000 in
theorem s_M_withdraw_B105 {k44 : AS → Option Nat → Int32 → Int32 → Int32 → Int32 → Option (Int32 × AS)} (hk44 : ∀ {S : AS} {x0 : Option Nat} {x1 : Int32} {x2 : Int32} {x3 : Int32} {x4 : Int32} {r : (Int32 × AS)}, k44 S x0 x1 x2 x3 x4 = some r → kr_AW m_M_withdraw 2 44 [(0, va_rf x0), (1, .int x1), (2, .int x2), (3, .int x3), (4, .int x4)] [] S (kr_eI r)) {S : AS} {x0 : Option Nat} {x1 : Int32} {x2 : Int32} {x3 : Int32} {x4 : Int32} {y0 : Int32} {r : (Int32 × AS)} (h : f_M_withdraw_B105 k44 S x0 x1 x2 x3 x4 y0 = some r) : kr_AW m_M_withdraw 2 105 [(0, va_rf x0), (1, .int x1), (2, .int x2), (3, .int x3), (4, .int x4)] [.int y0] S (kr_eI r) := by
  unfold f_M_withdraw_B105 at h
  refine r_istore (i := 5) (lv' := [(5, .int y0), (0, va_rf x0), (1, .int x1), (2, .int x2), (3, .int x3), (4, .int x4)]) (by decide) rfl d_M_withdraw_105 ?_
  refine r_iload_n (i := 3) (x := x3) 4 rfl d_M_withdraw_107 ?_
  refine r_iload (i := 5) (x := y0) 0 rfl d_M_withdraw_108 ?_
  refine r_if_eq (tgt := 117) d_M_withdraw_110 rfl (fun c => ?_) (fun c => ?_)
  · replace h := kr_ip c h
    refine r_iconst (v := (0 : Int32)) (by decide) d_M_withdraw_117 ?_
    exact kr_sub [1, 2, 3, 5, 0] rfl (s_M_withdraw_B118 hk44 h)
  · replace h := kr_in_ c h
    refine r_iconst (v := (1 : Int32)) (by decide) d_M_withdraw_113 ?_
    refine r_goto (tgt := 118) d_M_withdraw_114 rfl ?_
    exact kr_sub [1, 2, 3, 5, 0] rfl (s_M_withdraw_B118 hk44 h)
set_option maxRecDepth 20000 in
set_option maxHeartbeats 4000000 in
theorem s_M_withdraw_B104 {k44 : AS → Option Nat → Int32 → Int32 → Int32 → Int32 → Option (Int32 × AS)} (hk44 : ∀ {S : AS} {x0 : Option Nat} {x1 : Int32} {x2 : Int32} {x3 : Int32} {x4 : Int32} {r : (Int32 × AS)}, k44 S x0 x1 x2 x3 x4 = some r → kr_AW m_M_withdraw 2 44 [(0, va_rf x0), (1, .int x1), (2, .int x2), (3, .int x3), (4, .int x4)] [] S (kr_eI r)) {S : AS} {x0 : Option Nat} {x1 : Int32} {x2 : Int32} {x3 : Int32} {x4 : Int32} {r : (Int32 × AS)} (h : f_M_withdraw_B104 k44 S x0 x1 x2 x3 x4 = some r) : kr_AW m_M_withdraw 2 104 [(0, va_rf x0), (1, .int x1), (2, .int x2), (3, .int x3), (4, .int x4)] [] S (kr_eI r) := by
  unfold f_M_withdraw_B104 at h
  refine r_iconst (v := (0 : Int32)) (by decide) d_M_withdraw_104 ?_
  exact kr_sub [0, 1, 2, 3, 4] rfl (s_M_withdraw_B105 hk44 h)
set_option maxRecDepth 20000 in
set_option maxHeartbeats 4000000 in
theorem s_M_withdraw_C44 {k44 : AS → Option Nat → Int32 → Int32 → Int32 → Int32 → Option (Int32 × AS)} (hk44 : ∀ {S : AS} {x0 : Option Nat} {x1 : Int32} {x2 : Int32} {x3 : Int32} {x4 : Int32} {r : (Int32 × AS)}, k44 S x0 x1 x2 x3 x4 = some r → kr_AW m_M_withdraw 2 44 [(0, va_rf x0), (1, .int x1), (2, .int x2), (3, .int x3), (4, .int x4)] [] S (kr_eI r)) {S : AS} {x0 : Option Nat} {x1 : Int32} {x2 : Int32} {x3 : Int32} {x4 : Int32} {r : (Int32 × AS)} (h : f_M_withdraw_C44 k44 S x0 x1 x2 x3 x4 = some r) : kr_AW m_M_withdraw 2 44 [(0, va_rf x0), (1, .int x1), (2, .int x2), (3, .int x3), (4, .int x4)] [] S (kr_eI r) := by
  unfold f_M_withdraw_C44 at h
  refine r_iload (i := 4) (x := x4) 4 rfl d_M_withdraw_44 ?_
  refine r_aload_n (i := 0) (x := x0) 0 rfl d_M_withdraw_46 ?_
  have h2 := kr_ob h
  clear h
  obtain ⟨v5, ev5, h⟩ := h2
  refine r_getI ev5 fk132 rfl d_M_withdraw_47 ?_
  refine r_icmp_ge (tgt := 137) d_M_withdraw_50 rfl (fun c => ?_) (fun c => ?_)
  · replace h := kr_ip c h
    refine r_iload_n (i := 3) (x := x3) 3 rfl d_M_withdraw_137 ?_
    cases h
    exact r_iret rfl d_M_withdraw_138
  · replace h := kr_in_ c h
    refine r_aload_n (i := 0) (x := x0) 0 rfl d_M_withdraw_53 ?_
    have h2 := kr_ob h
    clear h
    obtain ⟨v6, ev6, h⟩ := h2
    refine r_getR ev6 fk87 rfl d_M_withdraw_54 ?_
    refine r_iload (i := 4) (x := x4) 4 rfl d_M_withdraw_57 ?_
    have h2 := kr_ob h
    clear h
    obtain ⟨v7, ev7, h⟩ := h2
    refine r_baload ev7 d_M_withdraw_59 ?_
    refine r_if_eq (tgt := 104) d_M_withdraw_60 rfl (fun c => ?_) (fun c => ?_)
    · replace h := kr_ip c h
      exact kr_sub [0, 1, 2, 3, 4] rfl (s_M_withdraw_B104 hk44 h)
    · replace h := kr_in_ c h
      refine r_aload_n (i := 0) (x := x0) 0 rfl d_M_withdraw_63 ?_
      have h2 := kr_ob h
      clear h
      obtain ⟨v8, ev8, h⟩ := h2
      refine r_getR ev8 fk69 rfl d_M_withdraw_64 ?_
      refine r_aload_n (i := 0) (x := x0) 0 rfl d_M_withdraw_67 ?_
      have h2 := kr_ob h
      clear h
      obtain ⟨v9, ev9, h⟩ := h2
      refine r_getR ev9 fk77 rfl d_M_withdraw_68 ?_
      refine r_aload_n (i := 0) (x := x0) 0 rfl d_M_withdraw_71 ?_
      have h2 := kr_ob h
      clear h
      obtain ⟨v10, ev10, h⟩ := h2
      refine r_getR ev10 fk83 rfl d_M_withdraw_72 ?_
      refine r_iload (i := 4) (x := x4) 4 rfl d_M_withdraw_75 ?_
      have h2 := kr_ob h
      clear h
      obtain ⟨v11, ev11, h⟩ := h2
      refine r_iaload ev11 d_M_withdraw_77 ?_
      have h2 := kr_ob h
      clear h
      obtain ⟨v12, ev12, h⟩ := h2
      refine r_iaload ev12 d_M_withdraw_78 ?_
      have h2 := kr_ob h
      clear h
      obtain ⟨v13, ev13, h⟩ := h2
      refine r_iaload ev13 d_M_withdraw_79 ?_
      refine r_iload_n (i := 1) (x := x1) 1 rfl d_M_withdraw_80 ?_
      refine r_icmp_ne (tgt := 104) d_M_withdraw_81 rfl (fun c => ?_) (fun c => ?_)
      · replace h := kr_ip c h
        refine r_aload_n (i := 0) (x := x0) 0 rfl d_M_withdraw_84 ?_
        have h2 := kr_ob h
        clear h
        obtain ⟨v14, ev14, h⟩ := h2
        refine r_getR ev14 fk78 rfl d_M_withdraw_85 ?_
        refine r_aload_n (i := 0) (x := x0) 0 rfl d_M_withdraw_88 ?_
        have h2 := kr_ob h
        clear h
        obtain ⟨v15, ev15, h⟩ := h2
        refine r_getR ev15 fk83 rfl d_M_withdraw_89 ?_
        refine r_iload (i := 4) (x := x4) 4 rfl d_M_withdraw_92 ?_
        have h2 := kr_ob h
        clear h
        obtain ⟨v16, ev16, h⟩ := h2
        refine r_iaload ev16 d_M_withdraw_94 ?_
        have h2 := kr_ob h
        clear h
        obtain ⟨v17, ev17, h⟩ := h2
        refine r_iaload ev17 d_M_withdraw_95 ?_
        refine r_iload_n (i := 2) (x := x2) 2 rfl d_M_withdraw_96 ?_
        refine r_icmp_ne (tgt := 104) d_M_withdraw_97 rfl (fun c => ?_) (fun c => ?_)
        · replace h := kr_ip c h
          refine r_iconst (v := (1 : Int32)) (by decide) d_M_withdraw_100 ?_
          refine r_goto (tgt := 105) d_M_withdraw_101 rfl ?_
          exact kr_sub [0, 1, 2, 3, 4] rfl (s_M_withdraw_B105 hk44 h)
        · replace h := kr_in_ c h
          exact kr_sub [0, 1, 2, 3, 4] rfl (s_M_withdraw_B104 hk44 h)
      · replace h := kr_in_ c h
        exact kr_sub [0, 1, 2, 3, 4] rfl (s_M_withdraw_B104 hk44 h)
theorem s_M_withdraw_L44 (n : Nat) : ∀ {S : AS} {x0 : Option Nat} {x1 : Int32} {x2 : Int32} {x3 : Int32} {x4 : Int32} {r : (Int32 × AS)}, f_M_withdraw_L44 n S x0 x1 x2 x3 x4 = some r → kr_AW m_M_withdraw 2 44 [(0, va_rf x0), (1, .int x1), (2, .int x2), (3, .int x3), (4, .int x4)] [] S (kr_eI r) := by
  induction n with
  | zero => intro S x0 x1 x2 x3 x4 r h; cases h
  | succ n ih => intro S x0 x1 x2 x3 x4 r h; exact s_M_withdraw_C44 (fun {_} {_} {_} {_} {_} {_} {_} h => ih h) h
set_option maxRecDepth 20000 in
set_option maxHeartbeats 4000000 in
theorem s_M_withdraw_B20 {S : AS} {x0 : Option Nat} {x1 : Int32} {x2 : Int32} {y0 : Option Nat} {y1 : Int32} {r : (Int32 × AS)} (h : f_M_withdraw_B20 S x0 x1 x2 y0 y1 = some r) : kr_AW m_M_withdraw 2 20 [(0, va_rf x0), (1, .int x1), (2, .int x2)] [.int y1, va_rf y0] S (kr_eI r) := by
  unfold f_M_withdraw_B20 at h
  have h2 := kr_ob h
  clear h
  obtain ⟨⟨⟩, eu18, h⟩ := h2
  have h2 := kr_ob2 h
  clear h
  obtain ⟨v20, S19, eS19, h⟩ := h2
  refine r_callV (M1 := m_M_may) (κ := 23) (As := [.int y1]) eu18 (s_M_may eS19) mok_M_may rfl (by decide) rfl w1703 w1705 w42 (by decide) (kr_c8 kr_c0) d_M_withdraw_20 (kr_k1 ?_) kr_kn
  refine r_if_ne (tgt := 28) d_M_withdraw_23 rfl (fun c => ?_) (fun c => ?_)
  · replace h := kr_ip c h
    refine r_iconst (v := (0 : Int32)) (by decide) d_M_withdraw_26 ?_
    cases h
    exact r_iret rfl d_M_withdraw_27
  · replace h := kr_in_ c h
    refine r_aload_n (i := 0) (x := x0) 0 rfl d_M_withdraw_28 ?_
    have h2 := kr_ob h
    clear h
    obtain ⟨v21, ev21, h⟩ := h2
    refine r_getR ev21 fk75 rfl d_M_withdraw_29 ?_
    refine r_iconst (v := (4 : Int32)) (by decide) d_M_withdraw_32 ?_
    refine r_iload_n (i := 1) (x := x1) 1 rfl d_M_withdraw_33 ?_
    refine r_imul d_M_withdraw_34 ?_
    refine r_iload_n (i := 2) (x := x2) 2 rfl d_M_withdraw_35 ?_
    refine r_iadd d_M_withdraw_36 ?_
    refine r_iconst (v := (0 : Int32)) (by decide) d_M_withdraw_37 ?_
    have h2 := kr_ob h
    clear h
    obtain ⟨S22, eS22, h⟩ := h2
    refine r_iastore eS22 d_M_withdraw_38 ?_
    refine r_iconst (v := (0 : Int32)) (by decide) d_M_withdraw_39 ?_
    refine r_istore_n (i := 3) (lv' := [(3, .int (0 : Int32)), (0, va_rf x0), (1, .int x1), (2, .int x2)]) (by decide) rfl d_M_withdraw_40 ?_
    refine r_iconst (v := (0 : Int32)) (by decide) d_M_withdraw_41 ?_
    refine r_istore (i := 4) (lv' := [(4, .int (0 : Int32)), (3, .int (0 : Int32)), (0, va_rf x0), (1, .int x1), (2, .int x2)]) (by decide) rfl d_M_withdraw_42 ?_
    exact kr_sub [2, 3, 4, 1, 0] rfl (s_M_withdraw_L44 kr_FU h)
set_option maxRecDepth 20000 in
set_option maxHeartbeats 4000000 in
theorem s_M_withdraw_B19 {S : AS} {x0 : Option Nat} {x1 : Int32} {x2 : Int32} {y0 : Option Nat} {r : (Int32 × AS)} (h : f_M_withdraw_B19 S x0 x1 x2 y0 = some r) : kr_AW m_M_withdraw 2 19 [(0, va_rf x0), (1, .int x1), (2, .int x2)] [va_rf y0] S (kr_eI r) := by
  unfold f_M_withdraw_B19 at h
  refine r_iconst (v := (0 : Int32)) (by decide) d_M_withdraw_19 ?_
  exact kr_sub [0, 1, 2] rfl (s_M_withdraw_B20 h)
set_option maxRecDepth 20000 in
set_option maxHeartbeats 4000000 in
theorem s_M_withdraw {S : AS} {a0 : Option Nat} {a1 : Int32} {a2 : Int32} {r : (Int32 × AS)} (h : f_M_withdraw S a0 a1 a2 = some r) : kr_Con m_M_withdraw 2 [va_rf a0, .int a1, .int a2] S (kr_eI r) := by
  refine kr_con rfl rfl (by decide +kernel) (by simp [lg_sl, kr_rfcat, kr_icat, m_M_withdraw, mL]) ?_
  rw [show lv_args 0 [va_rf a0, .int a1, .int a2] = [(0, va_rf a0), (1, .int a1), (2, .int a2)] from by simp [lv_args, kr_rfcat, kr_icat]]
  unfold f_M_withdraw at h
  refine r_aload_n (i := 0) (x := a0) 0 rfl d_M_withdraw_0 ?_
  refine r_iload_n (i := 1) (x := a1) 1 rfl d_M_withdraw_1 ?_
  have h2 := kr_ob2 h
  clear h
  obtain ⟨v24, S23, eS23, h⟩ := h2
  refine r_callS (M1 := m_M_isSix) (As := [.int a1]) (s_M_isSix eS23) mok_M_isSix rfl w1748 w1749 (by decide) (kr_c8 (kr_cR kr_c0)) d_M_withdraw_2 (kr_k1 ?_) kr_kn
  refine r_if_eq (tgt := 19) d_M_withdraw_5 rfl (fun c => ?_) (fun c => ?_)
  · replace h := kr_ip c h
    exact kr_sub [0, 1, 2] rfl (s_M_withdraw_B19 h)
  · replace h := kr_in_ c h
    refine r_iload_n (i := 2) (x := a2) 2 rfl d_M_withdraw_8 ?_
    have h2 := kr_ob2 h
    clear h
    obtain ⟨v26, S25, eS25, h⟩ := h2
    refine r_callS (M1 := m_M_isService) (As := [.int a2]) (s_M_isService eS25) mok_M_isService rfl w1919 w1920 (by decide) (kr_c8 (kr_cR kr_c0)) d_M_withdraw_9 (kr_k1 ?_) kr_kn
    refine r_if_eq (tgt := 19) d_M_withdraw_12 rfl (fun c => ?_) (fun c => ?_)
    · replace h := kr_ip c h
      exact kr_sub [0, 1, 2] rfl (s_M_withdraw_B19 h)
    · replace h := kr_in_ c h
      refine r_iconst (v := (1 : Int32)) (by decide) d_M_withdraw_15 ?_
      refine r_goto (tgt := 20) d_M_withdraw_16 rfl ?_
      exact kr_sub [0, 1, 2] rfl (s_M_withdraw_B20 h)
/-! KeyringCourtModel.need(II)I -/
def f_M_need (S : AS) (a0 : Option Nat) (a1 : Int32) (a2 : Int32) : Option (Int32 × AS) :=
  kr_b2 (f_M_isService S a1) fun v2 S1 =>
  kr_b2 (f_M_isIn S1 a2 (0 : Int32) (6 : Int32)) fun v4 S3 =>
  (kr_rv S3 23 a0).bind fun u5 =>
  kr_b2 (f_M_mayBoth S3 a0 v2 v4) fun v7 S6 =>
  if v7 = 0 then
  some ((0 : Int32), S6)
  else
  (gR S6 23 38 a0).bind fun v8 =>
  (aI S6 40 v8 a1).bind fun v9 =>
  (gR S6 23 38 a0).bind fun v10 =>
  (bI S6 v10 a1 a2).bind fun S11 =>
  some (v9, S11)
set_option maxRecDepth 20000 in
set_option maxHeartbeats 4000000 in
theorem s_M_need {S : AS} {a0 : Option Nat} {a1 : Int32} {a2 : Int32} {r : (Int32 × AS)} (h : f_M_need S a0 a1 a2 = some r) : kr_Con m_M_need 2 [va_rf a0, .int a1, .int a2] S (kr_eI r) := by
  refine kr_con rfl rfl (by decide +kernel) (by simp [lg_sl, kr_rfcat, kr_icat, m_M_need, mL]) ?_
  rw [show lv_args 0 [va_rf a0, .int a1, .int a2] = [(0, va_rf a0), (1, .int a1), (2, .int a2)] from by simp [lv_args, kr_rfcat, kr_icat]]
  unfold f_M_need at h
  refine r_aload_n (i := 0) (x := a0) 0 rfl d_M_need_0 ?_
  refine r_iload_n (i := 1) (x := a1) 1 rfl d_M_need_1 ?_
  have h2 := kr_ob2 h
  clear h
  obtain ⟨v2, S1, eS1, h⟩ := h2
  refine r_callS (M1 := m_M_isService) (As := [.int a1]) (s_M_isService eS1) mok_M_isService rfl w1919 w1920 (by decide) (kr_c8 (kr_cR kr_c0)) d_M_need_2 (kr_k1 ?_) kr_kn
  refine r_iload_n (i := 2) (x := a2) 2 rfl d_M_need_5 ?_
  refine r_iconst (v := (0 : Int32)) (by decide) d_M_need_6 ?_
  refine r_bipush (v := (6 : Int32)) (by decide) d_M_need_7 ?_
  have h2 := kr_ob2 h
  clear h
  obtain ⟨v4, S3, eS3, h⟩ := h2
  refine r_callS (M1 := m_M_isIn) (As := [.int a2, .int (0 : Int32), .int (6 : Int32)]) (s_M_isIn eS3) mok_M_isIn rfl w1700 w1701 (by decide) (kr_c8 (kr_cI (kr_cR kr_c0))) d_M_need_9 (kr_k1 ?_) kr_kn
  have h2 := kr_ob h
  clear h
  obtain ⟨⟨⟩, eu5, h⟩ := h2
  have h2 := kr_ob2 h
  clear h
  obtain ⟨v7, S6, eS6, h⟩ := h2
  refine r_callV (M1 := m_M_mayBoth) (κ := 23) (As := [.int v2, .int v4]) eu5 (s_M_mayBoth eS6) mok_M_mayBoth rfl (by decide) rfl w1720 w1722 w43 (by decide) (kr_c8 kr_c0) d_M_need_12 (kr_k1 ?_) kr_kn
  refine r_if_ne (tgt := 20) d_M_need_15 rfl (fun c => ?_) (fun c => ?_)
  · replace h := kr_ip c h
    refine r_iconst (v := (0 : Int32)) (by decide) d_M_need_18 ?_
    cases h
    exact r_iret rfl d_M_need_19
  · replace h := kr_in_ c h
    refine r_aload_n (i := 0) (x := a0) 0 rfl d_M_need_20 ?_
    have h2 := kr_ob h
    clear h
    obtain ⟨v8, ev8, h⟩ := h2
    refine r_getR ev8 fk76 rfl d_M_need_21 ?_
    refine r_iload_n (i := 1) (x := a1) 1 rfl d_M_need_24 ?_
    have h2 := kr_ob h
    clear h
    obtain ⟨v9, ev9, h⟩ := h2
    refine r_iaload ev9 d_M_need_25 ?_
    refine r_istore_n (i := 3) (lv' := [(3, .int v9), (0, va_rf a0), (1, .int a1), (2, .int a2)]) (by decide) rfl d_M_need_26 ?_
    refine r_aload_n (i := 0) (x := a0) 1 rfl d_M_need_27 ?_
    have h2 := kr_ob h
    clear h
    obtain ⟨v10, ev10, h⟩ := h2
    refine r_getR ev10 fk76 rfl d_M_need_28 ?_
    refine r_iload_n (i := 1) (x := a1) 2 rfl d_M_need_31 ?_
    refine r_iload_n (i := 2) (x := a2) 3 rfl d_M_need_32 ?_
    have h2 := kr_ob h
    clear h
    obtain ⟨S11, eS11, h⟩ := h2
    refine r_iastore eS11 d_M_need_33 ?_
    refine r_iload_n (i := 3) (x := v9) 0 rfl d_M_need_34 ?_
    cases h
    exact r_iret rfl d_M_need_35
/-! KeyringCourtModel.authorize(IIII)I -/
def f_M_authorize_B68 (S : AS) (x0 : Option Nat) (x1 : Int32) (x2 : Int32) (x3 : Int32) (x4 : Int32) (y0 : Option Nat) (y1 : Int32) (y2 : Int32) (y3 : Int32) : Option (Int32 × AS) :=
  (kr_rv S 23 y0).bind fun u1 =>
  kr_b2 (f_M_mayAll S y0 y1 y2 y3) fun v3 S2 =>
  if v3 = 0 then
  some ((0 : Int32), S2)
  else
  (gR S2 23 33 x0).bind fun v4 =>
  (gI S2 23 0 x0).bind fun v5 =>
  (bI S2 v4 x1 v5).bind fun S6 =>
  (gR S6 23 37 x0).bind fun v7 =>
  (gR S6 23 31 x0).bind fun v8 =>
  (aI S6 40 v8 x1).bind fun v9 =>
  (aI S6 40 v7 (((4 : Int32) * v9) + x2)).bind fun v10 =>
  (gR S6 23 37 x0).bind fun v11 =>
  (aI S6 40 v11 ((24 : Int32) + x2)).bind fun v12 =>
  (some (v10 ||| v12)).bind fun i13 =>
  if (x4 &&& (i13 ^^^ (-1 : Int32))) = 0 then
  (kr_rv S6 23 x0).bind fun u14 =>
  kr_b2 (f_M_levelNow S6 x0 x1) fun v16 S15 =>
  (gR S15 23 38 x0).bind fun v17 =>
  (aI S15 40 v17 x3).bind fun v18 =>
  if v18 ≤ v16 then
  (gR S15 23 40 x0).bind fun v19 =>
  (gI S15 23 39 x0).bind fun v20 =>
  (bI S15 v19 v20 x1).bind fun S21 =>
  (gR S21 23 41 x0).bind fun v22 =>
  (gI S21 23 39 x0).bind fun v23 =>
  (bI S21 v22 v23 x2).bind fun S24 =>
  (gR S24 23 42 x0).bind fun v25 =>
  (gI S24 23 39 x0).bind fun v26 =>
  (bI S24 v25 v26 x3).bind fun S27 =>
  (gR S27 23 43 x0).bind fun v28 =>
  (gI S27 23 39 x0).bind fun v29 =>
  (bI S27 v28 v29 x4).bind fun S30 =>
  (gR S30 23 44 x0).bind fun v31 =>
  (gI S30 23 39 x0).bind fun v32 =>
  (gI S30 23 0 x0).bind fun v33 =>
  (bI S30 v31 v32 v33).bind fun S34 =>
  (gR S34 23 45 x0).bind fun v35 =>
  (gI S34 23 39 x0).bind fun v36 =>
  (bI S34 v35 v36 (-1 : Int32)).bind fun S37 =>
  (gI S37 23 39 x0).bind fun v38 =>
  (pI S37 23 39 x0 (v38 + (1 : Int32))).bind fun S39 =>
  (gI S39 23 39 x0).bind fun v40 =>
  some (v40 - (1 : Int32), S39)
  else
  some ((-2 : Int32), S15)
  else
  some ((-3 : Int32), S6)
def f_M_authorize_B67 (S : AS) (x0 : Option Nat) (x1 : Int32) (x2 : Int32) (x3 : Int32) (x4 : Int32) (y0 : Option Nat) (y1 : Int32) (y2 : Int32) : Option (Int32 × AS) :=
  f_M_authorize_B68 S x0 x1 x2 x3 x4 y0 y1 y2 (0 : Int32)
def f_M_authorize_B27 (S : AS) (x0 : Option Nat) (x1 : Int32) (x2 : Int32) (x3 : Int32) (x4 : Int32) (y0 : Int32) : Option (Int32 × AS) :=
  kr_b2 (f_M_isIn S x4 (1 : Int32) (15 : Int32)) fun v42 S41 =>
  if y0 = 0 then
  f_M_authorize_B67 S41 x0 x1 x2 x3 x4 x0 y0 v42
  else
  (gR S41 23 35 x0).bind fun v43 =>
  (aI S41 41 v43 x1).bind fun v44 =>
  if v44 = 0 then
  f_M_authorize_B67 S41 x0 x1 x2 x3 x4 x0 y0 v42
  else
  (gI S41 23 39 x0).bind fun v45 =>
  if (60 : Int32) ≤ v45 then
  f_M_authorize_B67 S41 x0 x1 x2 x3 x4 x0 y0 v42
  else
  f_M_authorize_B68 S41 x0 x1 x2 x3 x4 x0 y0 v42 (1 : Int32)
def f_M_authorize_B26 (S : AS) (x0 : Option Nat) (x1 : Int32) (x2 : Int32) (x3 : Int32) (x4 : Int32) : Option (Int32 × AS) :=
  f_M_authorize_B27 S x0 x1 x2 x3 x4 (0 : Int32)
def f_M_authorize (S : AS) (a0 : Option Nat) (a1 : Int32) (a2 : Int32) (a3 : Int32) (a4 : Int32) : Option (Int32 × AS) :=
  (kr_rv S 23 a0).bind fun u46 =>
  kr_b2 (f_M_isSession S a0 a1) fun v48 S47 =>
  if v48 = 0 then
  f_M_authorize_B26 S47 a0 a1 a2 a3 a4
  else
  kr_b2 (f_M_isService S47 a2) fun v50 S49 =>
  if v50 = 0 then
  f_M_authorize_B26 S49 a0 a1 a2 a3 a4
  else
  kr_b2 (f_M_isService S49 a3) fun v52 S51 =>
  if v52 = 0 then
  f_M_authorize_B26 S51 a0 a1 a2 a3 a4
  else
  f_M_authorize_B27 S51 a0 a1 a2 a3 a4 (1 : Int32)
set_option maxRecDepth 20000 in
set_option maxHeartbeats 4000000 in
theorem s_M_authorize_B68 {S : AS} {x0 : Option Nat} {x1 : Int32} {x2 : Int32} {x3 : Int32} {x4 : Int32} {y0 : Option Nat} {y1 : Int32} {y2 : Int32} {y3 : Int32} {r : (Int32 × AS)} (h : f_M_authorize_B68 S x0 x1 x2 x3 x4 y0 y1 y2 y3 = some r) : kr_AW m_M_authorize 2 68 [(0, va_rf x0), (1, .int x1), (2, .int x2), (3, .int x3), (4, .int x4)] [.int y3, .int y2, .int y1, va_rf y0] S (kr_eI r) := by
  unfold f_M_authorize_B68 at h
  have h2 := kr_ob h
  clear h
  obtain ⟨⟨⟩, eu1, h⟩ := h2
  have h2 := kr_ob2 h
  clear h
  obtain ⟨v3, S2, eS2, h⟩ := h2
  refine r_callV (M1 := m_M_mayAll) (κ := 23) (As := [.int y1, .int y2, .int y3]) eu1 (s_M_mayAll eS2) mok_M_mayAll rfl (by decide) rfl w1843 w1845 w61 (by decide) (kr_c8 kr_c0) d_M_authorize_68 (kr_k1 ?_) kr_kn
  refine r_if_ne (tgt := 76) d_M_authorize_71 rfl (fun c => ?_) (fun c => ?_)
  · replace h := kr_ip c h
    refine r_iconst (v := (0 : Int32)) (by decide) d_M_authorize_74 ?_
    cases h
    exact r_iret rfl d_M_authorize_75
  · replace h := kr_in_ c h
    refine r_aload_n (i := 0) (x := x0) 0 rfl d_M_authorize_76 ?_
    have h2 := kr_ob h
    clear h
    obtain ⟨v4, ev4, h⟩ := h2
    refine r_getR ev4 fk71 rfl d_M_authorize_77 ?_
    refine r_iload_n (i := 1) (x := x1) 1 rfl d_M_authorize_80 ?_
    refine r_aload_n (i := 0) (x := x0) 0 rfl d_M_authorize_81 ?_
    have h2 := kr_ob h
    clear h
    obtain ⟨v5, ev5, h⟩ := h2
    refine r_getI ev5 fk130 rfl d_M_authorize_82 ?_
    have h2 := kr_ob h
    clear h
    obtain ⟨S6, eS6, h⟩ := h2
    refine r_iastore eS6 d_M_authorize_85 ?_
    refine r_aload_n (i := 0) (x := x0) 0 rfl d_M_authorize_86 ?_
    have h2 := kr_ob h
    clear h
    obtain ⟨v7, ev7, h⟩ := h2
    refine r_getR ev7 fk75 rfl d_M_authorize_87 ?_
    refine r_iconst (v := (4 : Int32)) (by decide) d_M_authorize_90 ?_
    refine r_aload_n (i := 0) (x := x0) 0 rfl d_M_authorize_91 ?_
    have h2 := kr_ob h
    clear h
    obtain ⟨v8, ev8, h⟩ := h2
    refine r_getR ev8 fk69 rfl d_M_authorize_92 ?_
    refine r_iload_n (i := 1) (x := x1) 1 rfl d_M_authorize_95 ?_
    have h2 := kr_ob h
    clear h
    obtain ⟨v9, ev9, h⟩ := h2
    refine r_iaload ev9 d_M_authorize_96 ?_
    refine r_imul d_M_authorize_97 ?_
    refine r_iload_n (i := 2) (x := x2) 2 rfl d_M_authorize_98 ?_
    refine r_iadd d_M_authorize_99 ?_
    have h2 := kr_ob h
    clear h
    obtain ⟨v10, ev10, h⟩ := h2
    refine r_iaload ev10 d_M_authorize_100 ?_
    refine r_aload_n (i := 0) (x := x0) 0 rfl d_M_authorize_101 ?_
    have h2 := kr_ob h
    clear h
    obtain ⟨v11, ev11, h⟩ := h2
    refine r_getR ev11 fk75 rfl d_M_authorize_102 ?_
    refine r_bipush (v := (24 : Int32)) (by decide) d_M_authorize_105 ?_
    refine r_iload_n (i := 2) (x := x2) 2 rfl d_M_authorize_107 ?_
    refine r_iadd d_M_authorize_108 ?_
    have h2 := kr_ob h
    clear h
    obtain ⟨v12, ev12, h⟩ := h2
    refine r_iaload ev12 d_M_authorize_109 ?_
    refine r_ior d_M_authorize_110 ?_
    have h2 := kr_ob h
    clear h
    obtain ⟨i13, ei13, h⟩ := h2
    refine kr_nmI ei13 ?_
    refine r_istore (i := 6) (lv' := [(6, .int i13), (0, va_rf x0), (1, .int x1), (2, .int x2), (3, .int x3), (4, .int x4)]) (by decide) rfl d_M_authorize_111 ?_
    refine r_iload (i := 4) (x := x4) 5 rfl d_M_authorize_113 ?_
    refine r_iload (i := 6) (x := i13) 0 rfl d_M_authorize_115 ?_
    refine r_iconst (v := (-1 : Int32)) (by decide) d_M_authorize_117 ?_
    refine r_ixor d_M_authorize_118 ?_
    refine r_iand d_M_authorize_119 ?_
    refine r_if_eq (tgt := 126) d_M_authorize_120 rfl (fun c => ?_) (fun c => ?_)
    · replace h := kr_ip c h
      refine r_aload_n (i := 0) (x := x0) 1 rfl d_M_authorize_126 ?_
      refine r_iload_n (i := 1) (x := x1) 2 rfl d_M_authorize_127 ?_
      have h2 := kr_ob h
      clear h
      obtain ⟨⟨⟩, eu14, h⟩ := h2
      have h2 := kr_ob2 h
      clear h
      obtain ⟨v16, S15, eS15, h⟩ := h2
      refine r_callV (M1 := m_M_levelNow) (κ := 23) (As := [.int x1]) eu14 (s_M_levelNow eS15) mok_M_levelNow rfl (by decide) rfl w1895 w1897 w65 (by decide) (kr_c8 kr_c0) d_M_authorize_128 (kr_k1 ?_) kr_kn
      refine r_aload_n (i := 0) (x := x0) 1 rfl d_M_authorize_131 ?_
      have h2 := kr_ob h
      clear h
      obtain ⟨v17, ev17, h⟩ := h2
      refine r_getR ev17 fk76 rfl d_M_authorize_132 ?_
      refine r_iload_n (i := 3) (x := x3) 4 rfl d_M_authorize_135 ?_
      have h2 := kr_ob h
      clear h
      obtain ⟨v18, ev18, h⟩ := h2
      refine r_iaload ev18 d_M_authorize_136 ?_
      refine r_icmp_ge (tgt := 143) d_M_authorize_137 rfl (fun c => ?_) (fun c => ?_)
      · replace h := kr_ip c h
        refine r_aload_n (i := 0) (x := x0) 1 rfl d_M_authorize_143 ?_
        have h2 := kr_ob h
        clear h
        obtain ⟨v19, ev19, h⟩ := h2
        refine r_getR ev19 fk77 rfl d_M_authorize_144 ?_
        refine r_aload_n (i := 0) (x := x0) 1 rfl d_M_authorize_147 ?_
        have h2 := kr_ob h
        clear h
        obtain ⟨v20, ev20, h⟩ := h2
        refine r_getI ev20 fk187 rfl d_M_authorize_148 ?_
        refine r_iload_n (i := 1) (x := x1) 2 rfl d_M_authorize_151 ?_
        have h2 := kr_ob h
        clear h
        obtain ⟨S21, eS21, h⟩ := h2
        refine r_iastore eS21 d_M_authorize_152 ?_
        refine r_aload_n (i := 0) (x := x0) 1 rfl d_M_authorize_153 ?_
        have h2 := kr_ob h
        clear h
        obtain ⟨v22, ev22, h⟩ := h2
        refine r_getR ev22 fk78 rfl d_M_authorize_154 ?_
        refine r_aload_n (i := 0) (x := x0) 1 rfl d_M_authorize_157 ?_
        have h2 := kr_ob h
        clear h
        obtain ⟨v23, ev23, h⟩ := h2
        refine r_getI ev23 fk187 rfl d_M_authorize_158 ?_
        refine r_iload_n (i := 2) (x := x2) 3 rfl d_M_authorize_161 ?_
        have h2 := kr_ob h
        clear h
        obtain ⟨S24, eS24, h⟩ := h2
        refine r_iastore eS24 d_M_authorize_162 ?_
        refine r_aload_n (i := 0) (x := x0) 1 rfl d_M_authorize_163 ?_
        have h2 := kr_ob h
        clear h
        obtain ⟨v25, ev25, h⟩ := h2
        refine r_getR ev25 fk79 rfl d_M_authorize_164 ?_
        refine r_aload_n (i := 0) (x := x0) 1 rfl d_M_authorize_167 ?_
        have h2 := kr_ob h
        clear h
        obtain ⟨v26, ev26, h⟩ := h2
        refine r_getI ev26 fk187 rfl d_M_authorize_168 ?_
        refine r_iload_n (i := 3) (x := x3) 4 rfl d_M_authorize_171 ?_
        have h2 := kr_ob h
        clear h
        obtain ⟨S27, eS27, h⟩ := h2
        refine r_iastore eS27 d_M_authorize_172 ?_
        refine r_aload_n (i := 0) (x := x0) 1 rfl d_M_authorize_173 ?_
        have h2 := kr_ob h
        clear h
        obtain ⟨v28, ev28, h⟩ := h2
        refine r_getR ev28 fk80 rfl d_M_authorize_174 ?_
        refine r_aload_n (i := 0) (x := x0) 1 rfl d_M_authorize_177 ?_
        have h2 := kr_ob h
        clear h
        obtain ⟨v29, ev29, h⟩ := h2
        refine r_getI ev29 fk187 rfl d_M_authorize_178 ?_
        refine r_iload (i := 4) (x := x4) 5 rfl d_M_authorize_181 ?_
        have h2 := kr_ob h
        clear h
        obtain ⟨S30, eS30, h⟩ := h2
        refine r_iastore eS30 d_M_authorize_183 ?_
        refine r_aload_n (i := 0) (x := x0) 1 rfl d_M_authorize_184 ?_
        have h2 := kr_ob h
        clear h
        obtain ⟨v31, ev31, h⟩ := h2
        refine r_getR ev31 fk81 rfl d_M_authorize_185 ?_
        refine r_aload_n (i := 0) (x := x0) 1 rfl d_M_authorize_188 ?_
        have h2 := kr_ob h
        clear h
        obtain ⟨v32, ev32, h⟩ := h2
        refine r_getI ev32 fk187 rfl d_M_authorize_189 ?_
        refine r_aload_n (i := 0) (x := x0) 1 rfl d_M_authorize_192 ?_
        have h2 := kr_ob h
        clear h
        obtain ⟨v33, ev33, h⟩ := h2
        refine r_getI ev33 fk130 rfl d_M_authorize_193 ?_
        have h2 := kr_ob h
        clear h
        obtain ⟨S34, eS34, h⟩ := h2
        refine r_iastore eS34 d_M_authorize_196 ?_
        refine r_aload_n (i := 0) (x := x0) 1 rfl d_M_authorize_197 ?_
        have h2 := kr_ob h
        clear h
        obtain ⟨v35, ev35, h⟩ := h2
        refine r_getR ev35 fk82 rfl d_M_authorize_198 ?_
        refine r_aload_n (i := 0) (x := x0) 1 rfl d_M_authorize_201 ?_
        have h2 := kr_ob h
        clear h
        obtain ⟨v36, ev36, h⟩ := h2
        refine r_getI ev36 fk187 rfl d_M_authorize_202 ?_
        refine r_iconst (v := (-1 : Int32)) (by decide) d_M_authorize_205 ?_
        have h2 := kr_ob h
        clear h
        obtain ⟨S37, eS37, h⟩ := h2
        refine r_iastore eS37 d_M_authorize_206 ?_
        refine r_aload_n (i := 0) (x := x0) 1 rfl d_M_authorize_207 ?_
        refine r_dup (kr_rfcat _) d_M_authorize_208 ?_
        have h2 := kr_ob h
        clear h
        obtain ⟨v38, ev38, h⟩ := h2
        refine r_getI ev38 fk187 rfl d_M_authorize_209 ?_
        refine r_iconst (v := (1 : Int32)) (by decide) d_M_authorize_212 ?_
        refine r_iadd d_M_authorize_213 ?_
        have h2 := kr_ob h
        clear h
        obtain ⟨S39, eS39, h⟩ := h2
        refine r_putI eS39 fk187 (Or.inl rfl) rfl d_M_authorize_214 ?_
        refine r_aload_n (i := 0) (x := x0) 1 rfl d_M_authorize_217 ?_
        have h2 := kr_ob h
        clear h
        obtain ⟨v40, ev40, h⟩ := h2
        refine r_getI ev40 fk187 rfl d_M_authorize_218 ?_
        refine r_iconst (v := (1 : Int32)) (by decide) d_M_authorize_221 ?_
        refine r_isub d_M_authorize_222 ?_
        cases h
        exact r_iret rfl d_M_authorize_223
      · replace h := kr_in_ c h
        refine r_bipush (v := (-2 : Int32)) (by decide) d_M_authorize_140 ?_
        cases h
        exact r_iret rfl d_M_authorize_142
    · replace h := kr_in_ c h
      refine r_bipush (v := (-3 : Int32)) (by decide) d_M_authorize_123 ?_
      cases h
      exact r_iret rfl d_M_authorize_125
set_option maxRecDepth 20000 in
set_option maxHeartbeats 4000000 in
theorem s_M_authorize_B67 {S : AS} {x0 : Option Nat} {x1 : Int32} {x2 : Int32} {x3 : Int32} {x4 : Int32} {y0 : Option Nat} {y1 : Int32} {y2 : Int32} {r : (Int32 × AS)} (h : f_M_authorize_B67 S x0 x1 x2 x3 x4 y0 y1 y2 = some r) : kr_AW m_M_authorize 2 67 [(0, va_rf x0), (1, .int x1), (2, .int x2), (3, .int x3), (4, .int x4)] [.int y2, .int y1, va_rf y0] S (kr_eI r) := by
  unfold f_M_authorize_B67 at h
  refine r_iconst (v := (0 : Int32)) (by decide) d_M_authorize_67 ?_
  exact kr_sub [0, 1, 2, 3, 4] rfl (s_M_authorize_B68 h)
set_option maxRecDepth 20000 in
set_option maxHeartbeats 4000000 in
theorem s_M_authorize_B27 {S : AS} {x0 : Option Nat} {x1 : Int32} {x2 : Int32} {x3 : Int32} {x4 : Int32} {y0 : Int32} {r : (Int32 × AS)} (h : f_M_authorize_B27 S x0 x1 x2 x3 x4 y0 = some r) : kr_AW m_M_authorize 2 27 [(0, va_rf x0), (1, .int x1), (2, .int x2), (3, .int x3), (4, .int x4)] [.int y0] S (kr_eI r) := by
  unfold f_M_authorize_B27 at h
  refine r_istore (i := 5) (lv' := [(5, .int y0), (0, va_rf x0), (1, .int x1), (2, .int x2), (3, .int x3), (4, .int x4)]) (by decide) rfl d_M_authorize_27 ?_
  refine r_aload_n (i := 0) (x := x0) 1 rfl d_M_authorize_29 ?_
  refine r_iload (i := 5) (x := y0) 0 rfl d_M_authorize_30 ?_
  refine r_iload (i := 4) (x := x4) 5 rfl d_M_authorize_32 ?_
  refine r_iconst (v := (1 : Int32)) (by decide) d_M_authorize_34 ?_
  refine r_bipush (v := (15 : Int32)) (by decide) d_M_authorize_35 ?_
  have h2 := kr_ob2 h
  clear h
  obtain ⟨v42, S41, eS41, h⟩ := h2
  refine r_callS (M1 := m_M_isIn) (As := [.int x4, .int (1 : Int32), .int (15 : Int32)]) (s_M_isIn eS41) mok_M_isIn rfl w1700 w1701 (by decide) (kr_c8 (kr_cI (kr_cR kr_c0))) d_M_authorize_37 (kr_k1 ?_) kr_kn
  refine r_iload (i := 5) (x := y0) 0 rfl d_M_authorize_40 ?_
  refine r_if_eq (tgt := 67) d_M_authorize_42 rfl (fun c => ?_) (fun c => ?_)
  · replace h := kr_ip c h
    exact kr_sub [1, 2, 3, 4, 5] rfl (s_M_authorize_B67 h)
  · replace h := kr_in_ c h
    refine r_aload_n (i := 0) (x := x0) 1 rfl d_M_authorize_45 ?_
    have h2 := kr_ob h
    clear h
    obtain ⟨v43, ev43, h⟩ := h2
    refine r_getR ev43 fk73 rfl d_M_authorize_46 ?_
    refine r_iload_n (i := 1) (x := x1) 2 rfl d_M_authorize_49 ?_
    have h2 := kr_ob h
    clear h
    obtain ⟨v44, ev44, h⟩ := h2
    refine r_baload ev44 d_M_authorize_50 ?_
    refine r_if_eq (tgt := 67) d_M_authorize_51 rfl (fun c => ?_) (fun c => ?_)
    · replace h := kr_ip c h
      exact kr_sub [1, 2, 3, 4, 5] rfl (s_M_authorize_B67 h)
    · replace h := kr_in_ c h
      refine r_aload_n (i := 0) (x := x0) 1 rfl d_M_authorize_54 ?_
      have h2 := kr_ob h
      clear h
      obtain ⟨v45, ev45, h⟩ := h2
      refine r_getI ev45 fk187 rfl d_M_authorize_55 ?_
      refine r_bipush (v := (60 : Int32)) (by decide) d_M_authorize_58 ?_
      refine r_icmp_ge (tgt := 67) d_M_authorize_60 rfl (fun c => ?_) (fun c => ?_)
      · replace h := kr_ip c h
        exact kr_sub [1, 2, 3, 4, 5] rfl (s_M_authorize_B67 h)
      · replace h := kr_in_ c h
        refine r_iconst (v := (1 : Int32)) (by decide) d_M_authorize_63 ?_
        refine r_goto (tgt := 68) d_M_authorize_64 rfl ?_
        exact kr_sub [1, 2, 3, 4, 5] rfl (s_M_authorize_B68 h)
set_option maxRecDepth 20000 in
set_option maxHeartbeats 4000000 in
theorem s_M_authorize_B26 {S : AS} {x0 : Option Nat} {x1 : Int32} {x2 : Int32} {x3 : Int32} {x4 : Int32} {r : (Int32 × AS)} (h : f_M_authorize_B26 S x0 x1 x2 x3 x4 = some r) : kr_AW m_M_authorize 2 26 [(0, va_rf x0), (1, .int x1), (2, .int x2), (3, .int x3), (4, .int x4)] [] S (kr_eI r) := by
  unfold f_M_authorize_B26 at h
  refine r_iconst (v := (0 : Int32)) (by decide) d_M_authorize_26 ?_
  exact kr_sub [0, 1, 2, 3, 4] rfl (s_M_authorize_B27 h)
set_option maxRecDepth 20000 in
set_option maxHeartbeats 4000000 in
theorem s_M_authorize {S : AS} {a0 : Option Nat} {a1 : Int32} {a2 : Int32} {a3 : Int32} {a4 : Int32} {r : (Int32 × AS)} (h : f_M_authorize S a0 a1 a2 a3 a4 = some r) : kr_Con m_M_authorize 2 [va_rf a0, .int a1, .int a2, .int a3, .int a4] S (kr_eI r) := by
  refine kr_con rfl rfl (by decide +kernel) (by simp [lg_sl, kr_rfcat, kr_icat, m_M_authorize, mL]) ?_
  rw [show lv_args 0 [va_rf a0, .int a1, .int a2, .int a3, .int a4] = [(0, va_rf a0), (1, .int a1), (2, .int a2), (3, .int a3), (4, .int a4)] from by simp [lv_args, kr_rfcat, kr_icat]]
  unfold f_M_authorize at h
  refine r_aload_n (i := 0) (x := a0) 0 rfl d_M_authorize_0 ?_
  refine r_iload_n (i := 1) (x := a1) 1 rfl d_M_authorize_1 ?_
  have h2 := kr_ob h
  clear h
  obtain ⟨⟨⟩, eu46, h⟩ := h2
  have h2 := kr_ob2 h
  clear h
  obtain ⟨v48, S47, eS47, h⟩ := h2
  refine r_callV (M1 := m_M_isSession) (κ := 23) (As := [.int a1]) eu46 (s_M_isSession eS47) mok_M_isSession rfl (by decide) rfl w1883 w1885 w64 (by decide) (kr_c8 kr_c0) d_M_authorize_2 (kr_k1 ?_) kr_kn
  refine r_if_eq (tgt := 26) d_M_authorize_5 rfl (fun c => ?_) (fun c => ?_)
  · replace h := kr_ip c h
    exact kr_sub [0, 1, 2, 3, 4] rfl (s_M_authorize_B26 h)
  · replace h := kr_in_ c h
    refine r_iload_n (i := 2) (x := a2) 2 rfl d_M_authorize_8 ?_
    have h2 := kr_ob2 h
    clear h
    obtain ⟨v50, S49, eS49, h⟩ := h2
    refine r_callS (M1 := m_M_isService) (As := [.int a2]) (s_M_isService eS49) mok_M_isService rfl w1919 w1920 (by decide) (kr_c8 kr_c0) d_M_authorize_9 (kr_k1 ?_) kr_kn
    refine r_if_eq (tgt := 26) d_M_authorize_12 rfl (fun c => ?_) (fun c => ?_)
    · replace h := kr_ip c h
      exact kr_sub [0, 1, 2, 3, 4] rfl (s_M_authorize_B26 h)
    · replace h := kr_in_ c h
      refine r_iload_n (i := 3) (x := a3) 3 rfl d_M_authorize_15 ?_
      have h2 := kr_ob2 h
      clear h
      obtain ⟨v52, S51, eS51, h⟩ := h2
      refine r_callS (M1 := m_M_isService) (As := [.int a3]) (s_M_isService eS51) mok_M_isService rfl w1919 w1920 (by decide) (kr_c8 kr_c0) d_M_authorize_16 (kr_k1 ?_) kr_kn
      refine r_if_eq (tgt := 26) d_M_authorize_19 rfl (fun c => ?_) (fun c => ?_)
      · replace h := kr_ip c h
        exact kr_sub [0, 1, 2, 3, 4] rfl (s_M_authorize_B26 h)
      · replace h := kr_in_ c h
        refine r_iconst (v := (1 : Int32)) (by decide) d_M_authorize_22 ?_
        refine r_goto (tgt := 27) d_M_authorize_23 rfl ?_
        exact kr_sub [0, 1, 2, 3, 4] rfl (s_M_authorize_B27 h)
/-! KeyringCourtModel.newToken(IIIIII)I -/
def f_M_newToken (S : AS) (a0 : Option Nat) (a1 : Int32) (a2 : Int32) (a3 : Int32) (a4 : Int32) (a5 : Int32) (a6 : Int32) : Option (Int32 × AS) :=
  (gI S 23 52 a0).bind fun v1 =>
  (gR S 23 57 a0).bind fun v2 =>
  (bI S v2 v1 a1).bind fun S3 =>
  (gR S3 23 53 a0).bind fun v4 =>
  (bI S3 v4 v1 a2).bind fun S5 =>
  (gR S5 23 54 a0).bind fun v6 =>
  (bI S5 v6 v1 a3).bind fun S7 =>
  (gR S7 23 55 a0).bind fun v8 =>
  (bI S7 v8 v1 a4).bind fun S9 =>
  (gR S9 23 56 a0).bind fun v10 =>
  (bI S9 v10 v1 a5).bind fun S11 =>
  (gR S11 23 59 a0).bind fun v12 =>
  (bI S11 v12 v1 a6).bind fun S13 =>
  (gR S13 23 58 a0).bind fun v14 =>
  (gI S13 23 61 a0).bind fun v15 =>
  (bI S13 v14 v1 v15).bind fun S16 =>
  (gR S16 23 50 a0).bind fun v17 =>
  (bI S16 v17 a1 v1).bind fun S18 =>
  (gI S18 23 52 a0).bind fun v19 =>
  (pI S18 23 52 a0 (v19 + (1 : Int32))).bind fun S20 =>
  some (v1, S20)
set_option maxRecDepth 20000 in
set_option maxHeartbeats 4000000 in
theorem s_M_newToken {S : AS} {a0 : Option Nat} {a1 : Int32} {a2 : Int32} {a3 : Int32} {a4 : Int32} {a5 : Int32} {a6 : Int32} {r : (Int32 × AS)} (h : f_M_newToken S a0 a1 a2 a3 a4 a5 a6 = some r) : kr_Con m_M_newToken 0 [va_rf a0, .int a1, .int a2, .int a3, .int a4, .int a5, .int a6] S (kr_eI r) := by
  refine kr_con rfl rfl (by decide +kernel) (by simp [lg_sl, kr_rfcat, kr_icat, m_M_newToken, mL]) ?_
  rw [show lv_args 0 [va_rf a0, .int a1, .int a2, .int a3, .int a4, .int a5, .int a6] = [(0, va_rf a0), (1, .int a1), (2, .int a2), (3, .int a3), (4, .int a4), (5, .int a5), (6, .int a6)] from by simp [lv_args, kr_rfcat, kr_icat]]
  unfold f_M_newToken at h
  refine r_aload_n (i := 0) (x := a0) 0 rfl d_M_newToken_0 ?_
  have h2 := kr_ob h
  clear h
  obtain ⟨v1, ev1, h⟩ := h2
  refine r_getI ev1 fk131 rfl d_M_newToken_1 ?_
  refine r_istore (i := 7) (lv' := [(7, .int v1), (0, va_rf a0), (1, .int a1), (2, .int a2), (3, .int a3), (4, .int a4), (5, .int a5), (6, .int a6)]) (by decide) rfl d_M_newToken_4 ?_
  refine r_aload_n (i := 0) (x := a0) 1 rfl d_M_newToken_6 ?_
  have h2 := kr_ob h
  clear h
  obtain ⟨v2, ev2, h⟩ := h2
  refine r_getR ev2 fk92 rfl d_M_newToken_7 ?_
  refine r_iload (i := 7) (x := v1) 0 rfl d_M_newToken_10 ?_
  refine r_iload_n (i := 1) (x := a1) 2 rfl d_M_newToken_12 ?_
  have h2 := kr_ob h
  clear h
  obtain ⟨S3, eS3, h⟩ := h2
  refine r_iastore eS3 d_M_newToken_13 ?_
  refine r_aload_n (i := 0) (x := a0) 1 rfl d_M_newToken_14 ?_
  have h2 := kr_ob h
  clear h
  obtain ⟨v4, ev4, h⟩ := h2
  refine r_getR ev4 fk88 rfl d_M_newToken_15 ?_
  refine r_iload (i := 7) (x := v1) 0 rfl d_M_newToken_18 ?_
  refine r_iload_n (i := 2) (x := a2) 3 rfl d_M_newToken_20 ?_
  have h2 := kr_ob h
  clear h
  obtain ⟨S5, eS5, h⟩ := h2
  refine r_iastore eS5 d_M_newToken_21 ?_
  refine r_aload_n (i := 0) (x := a0) 1 rfl d_M_newToken_22 ?_
  have h2 := kr_ob h
  clear h
  obtain ⟨v6, ev6, h⟩ := h2
  refine r_getR ev6 fk89 rfl d_M_newToken_23 ?_
  refine r_iload (i := 7) (x := v1) 0 rfl d_M_newToken_26 ?_
  refine r_iload_n (i := 3) (x := a3) 4 rfl d_M_newToken_28 ?_
  have h2 := kr_ob h
  clear h
  obtain ⟨S7, eS7, h⟩ := h2
  refine r_iastore eS7 d_M_newToken_29 ?_
  refine r_aload_n (i := 0) (x := a0) 1 rfl d_M_newToken_30 ?_
  have h2 := kr_ob h
  clear h
  obtain ⟨v8, ev8, h⟩ := h2
  refine r_getR ev8 fk90 rfl d_M_newToken_31 ?_
  refine r_iload (i := 7) (x := v1) 0 rfl d_M_newToken_34 ?_
  refine r_iload (i := 4) (x := a4) 5 rfl d_M_newToken_36 ?_
  have h2 := kr_ob h
  clear h
  obtain ⟨S9, eS9, h⟩ := h2
  refine r_iastore eS9 d_M_newToken_38 ?_
  refine r_aload_n (i := 0) (x := a0) 1 rfl d_M_newToken_39 ?_
  have h2 := kr_ob h
  clear h
  obtain ⟨v10, ev10, h⟩ := h2
  refine r_getR ev10 fk91 rfl d_M_newToken_40 ?_
  refine r_iload (i := 7) (x := v1) 0 rfl d_M_newToken_43 ?_
  refine r_iload (i := 5) (x := a5) 6 rfl d_M_newToken_45 ?_
  have h2 := kr_ob h
  clear h
  obtain ⟨S11, eS11, h⟩ := h2
  refine r_iastore eS11 d_M_newToken_47 ?_
  refine r_aload_n (i := 0) (x := a0) 1 rfl d_M_newToken_48 ?_
  have h2 := kr_ob h
  clear h
  obtain ⟨v12, ev12, h⟩ := h2
  refine r_getR ev12 fk94 rfl d_M_newToken_49 ?_
  refine r_iload (i := 7) (x := v1) 0 rfl d_M_newToken_52 ?_
  refine r_iload (i := 6) (x := a6) 7 rfl d_M_newToken_54 ?_
  have h2 := kr_ob h
  clear h
  obtain ⟨S13, eS13, h⟩ := h2
  refine r_iastore eS13 d_M_newToken_56 ?_
  refine r_aload_n (i := 0) (x := a0) 1 rfl d_M_newToken_57 ?_
  have h2 := kr_ob h
  clear h
  obtain ⟨v14, ev14, h⟩ := h2
  refine r_getR ev14 fk93 rfl d_M_newToken_58 ?_
  refine r_iload (i := 7) (x := v1) 0 rfl d_M_newToken_61 ?_
  refine r_aload_n (i := 0) (x := a0) 1 rfl d_M_newToken_63 ?_
  have h2 := kr_ob h
  clear h
  obtain ⟨v15, ev15, h⟩ := h2
  refine r_getI ev15 fk135 rfl d_M_newToken_64 ?_
  have h2 := kr_ob h
  clear h
  obtain ⟨S16, eS16, h⟩ := h2
  refine r_iastore eS16 d_M_newToken_67 ?_
  refine r_aload_n (i := 0) (x := a0) 1 rfl d_M_newToken_68 ?_
  have h2 := kr_ob h
  clear h
  obtain ⟨v17, ev17, h⟩ := h2
  refine r_getR ev17 fk86 rfl d_M_newToken_69 ?_
  refine r_iload_n (i := 1) (x := a1) 2 rfl d_M_newToken_72 ?_
  refine r_iload (i := 7) (x := v1) 0 rfl d_M_newToken_73 ?_
  have h2 := kr_ob h
  clear h
  obtain ⟨S18, eS18, h⟩ := h2
  refine r_iastore eS18 d_M_newToken_75 ?_
  refine r_aload_n (i := 0) (x := a0) 1 rfl d_M_newToken_76 ?_
  refine r_dup (kr_rfcat _) d_M_newToken_77 ?_
  have h2 := kr_ob h
  clear h
  obtain ⟨v19, ev19, h⟩ := h2
  refine r_getI ev19 fk131 rfl d_M_newToken_78 ?_
  refine r_iconst (v := (1 : Int32)) (by decide) d_M_newToken_81 ?_
  refine r_iadd d_M_newToken_82 ?_
  have h2 := kr_ob h
  clear h
  obtain ⟨S20, eS20, h⟩ := h2
  refine r_putI eS20 fk131 (Or.inl rfl) rfl d_M_newToken_83 ?_
  refine r_iload (i := 7) (x := v1) 0 rfl d_M_newToken_86 ?_
  cases h
  exact r_iret rfl d_M_newToken_88
/-! KeyringCourtModel.firstToken(I)V -/
def f_M_firstToken (S : AS) (a0 : Option Nat) (a1 : Int32) : Option AS :=
  (gR S 23 47 a0).bind fun v1 =>
  (aI S 40 v1 a1).bind fun v2 =>
  (gR S 23 41 a0).bind fun v3 =>
  (aI S 40 v3 v2).bind fun v4 =>
  (gR S 23 42 a0).bind fun v5 =>
  (aI S 40 v5 v2).bind fun v6 =>
  (gR S 23 43 a0).bind fun v7 =>
  (aI S 40 v7 v2).bind fun v8 =>
  (gI S 23 0 a0).bind fun v9 =>
  (kr_rv S 23 a0).bind fun u10 =>
  kr_b2 (f_M_newToken S a0 a1 v4 v6 v8 (0 : Int32) (v9 + (10 : Int32))) fun v12 S11 =>
  some S11
set_option maxRecDepth 20000 in
set_option maxHeartbeats 4000000 in
theorem s_M_firstToken {S : AS} {a0 : Option Nat} {a1 : Int32} {r : AS} (h : f_M_firstToken S a0 a1 = some r) : kr_Con m_M_firstToken 1 [va_rf a0, .int a1] S (kr_eV r) := by
  refine kr_con rfl rfl (by decide +kernel) (by simp [lg_sl, kr_rfcat, kr_icat, m_M_firstToken, mL]) ?_
  rw [show lv_args 0 [va_rf a0, .int a1] = [(0, va_rf a0), (1, .int a1)] from by simp [lv_args, kr_rfcat, kr_icat]]
  unfold f_M_firstToken at h
  refine r_aload_n (i := 0) (x := a0) 0 rfl d_M_firstToken_0 ?_
  have h2 := kr_ob h
  clear h
  obtain ⟨v1, ev1, h⟩ := h2
  refine r_getR ev1 fk83 rfl d_M_firstToken_1 ?_
  refine r_iload_n (i := 1) (x := a1) 1 rfl d_M_firstToken_4 ?_
  have h2 := kr_ob h
  clear h
  obtain ⟨v2, ev2, h⟩ := h2
  refine r_iaload ev2 d_M_firstToken_5 ?_
  refine r_istore_n (i := 2) (lv' := [(2, .int v2), (0, va_rf a0), (1, .int a1)]) (by decide) rfl d_M_firstToken_6 ?_
  refine r_aload_n (i := 0) (x := a0) 1 rfl d_M_firstToken_7 ?_
  refine r_iload_n (i := 1) (x := a1) 2 rfl d_M_firstToken_8 ?_
  refine r_aload_n (i := 0) (x := a0) 1 rfl d_M_firstToken_9 ?_
  have h2 := kr_ob h
  clear h
  obtain ⟨v3, ev3, h⟩ := h2
  refine r_getR ev3 fk78 rfl d_M_firstToken_10 ?_
  refine r_iload_n (i := 2) (x := v2) 0 rfl d_M_firstToken_13 ?_
  have h2 := kr_ob h
  clear h
  obtain ⟨v4, ev4, h⟩ := h2
  refine r_iaload ev4 d_M_firstToken_14 ?_
  refine r_aload_n (i := 0) (x := a0) 1 rfl d_M_firstToken_15 ?_
  have h2 := kr_ob h
  clear h
  obtain ⟨v5, ev5, h⟩ := h2
  refine r_getR ev5 fk79 rfl d_M_firstToken_16 ?_
  refine r_iload_n (i := 2) (x := v2) 0 rfl d_M_firstToken_19 ?_
  have h2 := kr_ob h
  clear h
  obtain ⟨v6, ev6, h⟩ := h2
  refine r_iaload ev6 d_M_firstToken_20 ?_
  refine r_aload_n (i := 0) (x := a0) 1 rfl d_M_firstToken_21 ?_
  have h2 := kr_ob h
  clear h
  obtain ⟨v7, ev7, h⟩ := h2
  refine r_getR ev7 fk80 rfl d_M_firstToken_22 ?_
  refine r_iload_n (i := 2) (x := v2) 0 rfl d_M_firstToken_25 ?_
  have h2 := kr_ob h
  clear h
  obtain ⟨v8, ev8, h⟩ := h2
  refine r_iaload ev8 d_M_firstToken_26 ?_
  refine r_iconst (v := (0 : Int32)) (by decide) d_M_firstToken_27 ?_
  refine r_aload_n (i := 0) (x := a0) 1 rfl d_M_firstToken_28 ?_
  have h2 := kr_ob h
  clear h
  obtain ⟨v9, ev9, h⟩ := h2
  refine r_getI ev9 fk130 rfl d_M_firstToken_29 ?_
  refine r_bipush (v := (10 : Int32)) (by decide) d_M_firstToken_32 ?_
  refine r_iadd d_M_firstToken_34 ?_
  have h2 := kr_ob h
  clear h
  obtain ⟨⟨⟩, eu10, h⟩ := h2
  have h2 := kr_ob2 h
  clear h
  obtain ⟨v12, S11, eS11, h⟩ := h2
  refine r_callV (M1 := m_M_newToken) (κ := 23) (As := [.int a1, .int v4, .int v6, .int v8, .int (0 : Int32), .int (v9 + (10 : Int32))]) eu10 (s_M_newToken eS11) mok_M_newToken rfl (by decide) rfl w1942 w1944 w67 (by decide) (kr_c8 kr_c0) d_M_firstToken_35 (kr_k1 ?_) kr_kn
  refine r_pop rfl d_M_firstToken_38 ?_
  cases h
  exact r_vret rfl d_M_firstToken_39
/-! KeyringCourtModel.redeem(I)I -/
def f_M_redeem_B82 (S : AS) (x0 : Option Nat) (x1 : Int32) (x3 : Int32) (y0 : Option Nat) (y1 : Int32) (y2 : Int32) : Option (Int32 × AS) :=
  (kr_rv S 23 y0).bind fun u1 =>
  kr_b2 (f_M_mayBoth S y0 y1 y2) fun v3 S2 =>
  if v3 = 0 then
  some ((0 : Int32), S2)
  else
  if x3 = 0 then
  (gR S2 23 45 x0).bind fun v4 =>
  (aI S2 40 v4 x1).bind fun v5 =>
  if v5 = (-1 : Int32) then
  some ((-1 : Int32), S2)
  else
  (gR S2 23 45 x0).bind fun v6 =>
  (aI S2 40 v6 x1).bind fun v7 =>
  (kr_rv S2 23 x0).bind fun u8 =>
  (f_M_endFamily S2 x0 v7).bind fun S9 =>
  some ((-1 : Int32), S9)
  else
  (gI S2 23 46 x0).bind fun v10 =>
  (gR S2 23 47 x0).bind fun v11 =>
  (bI S2 v11 v10 x1).bind fun S12 =>
  (gR S12 23 48 x0).bind fun v13 =>
  (bI S12 v13 v10 (0 : Int32)).bind fun S14 =>
  (gR S14 23 49 x0).bind fun v15 =>
  (gI S14 23 0 x0).bind fun v16 =>
  (bI S14 v15 v10 v16).bind fun S17 =>
  (gR S17 23 51 x0).bind fun v18 =>
  (bZ S17 v18 v10 (1 : Int32)).bind fun S19 =>
  (gR S19 23 45 x0).bind fun v20 =>
  (bI S19 v20 x1 v10).bind fun S21 =>
  (gI S21 23 46 x0).bind fun v22 =>
  (pI S21 23 46 x0 (v22 + (1 : Int32))).bind fun S23 =>
  (kr_rv S23 23 x0).bind fun u24 =>
  (f_M_write S23 x0 (2 : Int32) v10).bind fun S25 =>
  (kr_rv S25 23 x0).bind fun u26 =>
  (f_M_firstToken S25 x0 v10).bind fun S27 =>
  some (v10, S27)
def f_M_redeem_B77 (S : AS) (x0 : Option Nat) (x1 : Int32) (x3 : Int32) (y0 : Option Nat) (y1 : Int32) : Option (Int32 × AS) :=
  f_M_redeem_B82 S x0 x1 x3 y0 y1 (1 : Int32)
def f_M_redeem_B60 (S : AS) (x0 : Option Nat) (x1 : Int32) (x2 : Int32) (y0 : Int32) : Option (Int32 × AS) :=
  if y0 = 0 then
  f_M_redeem_B77 S x0 x1 y0 x0 x2
  else
  (gI S 23 52 x0).bind fun v28 =>
  if (200 : Int32) ≤ v28 then
  f_M_redeem_B82 S x0 x1 y0 x0 x2 (0 : Int32)
  else
  f_M_redeem_B77 S x0 x1 y0 x0 x2
def f_M_redeem_B59 (S : AS) (x0 : Option Nat) (x1 : Int32) (x2 : Int32) : Option (Int32 × AS) :=
  f_M_redeem_B60 S x0 x1 x2 (0 : Int32)
def f_M_redeem (S : AS) (a0 : Option Nat) (a1 : Int32) : Option (Int32 × AS) :=
  (gI S 23 39 a0).bind fun v29 =>
  kr_b2 (f_M_isIn S a1 (0 : Int32) (v29 - (1 : Int32))) fun v31 S30 =>
  if v31 = 0 then
  f_M_redeem_B59 S30 a0 a1 v31
  else
  (gR S30 23 45 a0).bind fun v32 =>
  (aI S30 40 v32 a1).bind fun v33 =>
  if v33 = (-1 : Int32) then
  (gI S30 23 0 a0).bind fun v34 =>
  (gR S30 23 44 a0).bind fun v35 =>
  (aI S30 40 v35 a1).bind fun v36 =>
  if (5 : Int32) < (v34 - v36) then
  f_M_redeem_B59 S30 a0 a1 v31
  else
  (gR S30 23 35 a0).bind fun v37 =>
  (gR S30 23 40 a0).bind fun v38 =>
  (aI S30 40 v38 a1).bind fun v39 =>
  (aI S30 41 v37 v39).bind fun v40 =>
  if v40 = 0 then
  f_M_redeem_B59 S30 a0 a1 v31
  else
  f_M_redeem_B60 S30 a0 a1 v31 (1 : Int32)
  else
  f_M_redeem_B59 S30 a0 a1 v31
set_option maxRecDepth 20000 in
set_option maxHeartbeats 4000000 in
theorem s_M_redeem_B82 {S : AS} {x0 : Option Nat} {x1 : Int32} {x3 : Int32} {y0 : Option Nat} {y1 : Int32} {y2 : Int32} {r : (Int32 × AS)} (h : f_M_redeem_B82 S x0 x1 x3 y0 y1 y2 = some r) : kr_AW m_M_redeem 2 82 [(0, va_rf x0), (1, .int x1), (3, .int x3)] [.int y2, .int y1, va_rf y0] S (kr_eI r) := by
  unfold f_M_redeem_B82 at h
  have h2 := kr_ob h
  clear h
  obtain ⟨⟨⟩, eu1, h⟩ := h2
  have h2 := kr_ob2 h
  clear h
  obtain ⟨v3, S2, eS2, h⟩ := h2
  refine r_callV (M1 := m_M_mayBoth) (κ := 23) (As := [.int y1, .int y2]) eu1 (s_M_mayBoth eS2) mok_M_mayBoth rfl (by decide) rfl w1720 w1722 w43 (by decide) (kr_c8 kr_c0) d_M_redeem_82 (kr_k1 ?_) kr_kn
  refine r_if_ne (tgt := 90) d_M_redeem_85 rfl (fun c => ?_) (fun c => ?_)
  · replace h := kr_ip c h
    refine r_iconst (v := (0 : Int32)) (by decide) d_M_redeem_88 ?_
    cases h
    exact r_iret rfl d_M_redeem_89
  · replace h := kr_in_ c h
    refine r_iload_n (i := 3) (x := x3) 2 rfl d_M_redeem_90 ?_
    refine r_if_ne (tgt := 116) d_M_redeem_91 rfl (fun c => ?_) (fun c => ?_)
    · replace h := kr_ip c h
      refine r_aload_n (i := 0) (x := x0) 0 rfl d_M_redeem_94 ?_
      have h2 := kr_ob h
      clear h
      obtain ⟨v4, ev4, h⟩ := h2
      refine r_getR ev4 fk82 rfl d_M_redeem_95 ?_
      refine r_iload_n (i := 1) (x := x1) 1 rfl d_M_redeem_98 ?_
      have h2 := kr_ob h
      clear h
      obtain ⟨v5, ev5, h⟩ := h2
      refine r_iaload ev5 d_M_redeem_99 ?_
      refine r_iconst (v := (-1 : Int32)) (by decide) d_M_redeem_100 ?_
      refine r_icmp_eq (tgt := 114) d_M_redeem_101 rfl (fun c => ?_) (fun c => ?_)
      · replace h := kr_ip c h
        refine r_iconst (v := (-1 : Int32)) (by decide) d_M_redeem_114 ?_
        cases h
        exact r_iret rfl d_M_redeem_115
      · replace h := kr_in_ c h
        refine r_aload_n (i := 0) (x := x0) 0 rfl d_M_redeem_104 ?_
        refine r_aload_n (i := 0) (x := x0) 0 rfl d_M_redeem_105 ?_
        have h2 := kr_ob h
        clear h
        obtain ⟨v6, ev6, h⟩ := h2
        refine r_getR ev6 fk82 rfl d_M_redeem_106 ?_
        refine r_iload_n (i := 1) (x := x1) 1 rfl d_M_redeem_109 ?_
        have h2 := kr_ob h
        clear h
        obtain ⟨v7, ev7, h⟩ := h2
        refine r_iaload ev7 d_M_redeem_110 ?_
        have h2 := kr_ob h
        clear h
        obtain ⟨⟨⟩, eu8, h⟩ := h2
        have h2 := kr_ob h
        clear h
        obtain ⟨S9, eS9, h⟩ := h2
        refine r_callV (M1 := m_M_endFamily) (κ := 23) (As := [.int v7]) eu8 (s_M_endFamily eS9) mok_M_endFamily rfl (by decide) rfl w1736 w1738 w47 (by decide) (kr_c8 kr_c0) d_M_redeem_111 (kr_k0 ?_) kr_kn
        refine r_iconst (v := (-1 : Int32)) (by decide) d_M_redeem_114 ?_
        cases h
        exact r_iret rfl d_M_redeem_115
    · replace h := kr_in_ c h
      refine r_aload_n (i := 0) (x := x0) 0 rfl d_M_redeem_116 ?_
      have h2 := kr_ob h
      clear h
      obtain ⟨v10, ev10, h⟩ := h2
      refine r_getI ev10 fk132 rfl d_M_redeem_117 ?_
      refine r_istore (i := 4) (lv' := [(4, .int v10), (0, va_rf x0), (1, .int x1), (3, .int x3)]) (by decide) rfl d_M_redeem_120 ?_
      refine r_aload_n (i := 0) (x := x0) 1 rfl d_M_redeem_122 ?_
      have h2 := kr_ob h
      clear h
      obtain ⟨v11, ev11, h⟩ := h2
      refine r_getR ev11 fk83 rfl d_M_redeem_123 ?_
      refine r_iload (i := 4) (x := v10) 0 rfl d_M_redeem_126 ?_
      refine r_iload_n (i := 1) (x := x1) 2 rfl d_M_redeem_128 ?_
      have h2 := kr_ob h
      clear h
      obtain ⟨S12, eS12, h⟩ := h2
      refine r_iastore eS12 d_M_redeem_129 ?_
      refine r_aload_n (i := 0) (x := x0) 1 rfl d_M_redeem_130 ?_
      have h2 := kr_ob h
      clear h
      obtain ⟨v13, ev13, h⟩ := h2
      refine r_getR ev13 fk84 rfl d_M_redeem_131 ?_
      refine r_iload (i := 4) (x := v10) 0 rfl d_M_redeem_134 ?_
      refine r_iconst (v := (0 : Int32)) (by decide) d_M_redeem_136 ?_
      have h2 := kr_ob h
      clear h
      obtain ⟨S14, eS14, h⟩ := h2
      refine r_iastore eS14 d_M_redeem_137 ?_
      refine r_aload_n (i := 0) (x := x0) 1 rfl d_M_redeem_138 ?_
      have h2 := kr_ob h
      clear h
      obtain ⟨v15, ev15, h⟩ := h2
      refine r_getR ev15 fk85 rfl d_M_redeem_139 ?_
      refine r_iload (i := 4) (x := v10) 0 rfl d_M_redeem_142 ?_
      refine r_aload_n (i := 0) (x := x0) 1 rfl d_M_redeem_144 ?_
      have h2 := kr_ob h
      clear h
      obtain ⟨v16, ev16, h⟩ := h2
      refine r_getI ev16 fk130 rfl d_M_redeem_145 ?_
      have h2 := kr_ob h
      clear h
      obtain ⟨S17, eS17, h⟩ := h2
      refine r_iastore eS17 d_M_redeem_148 ?_
      refine r_aload_n (i := 0) (x := x0) 1 rfl d_M_redeem_149 ?_
      have h2 := kr_ob h
      clear h
      obtain ⟨v18, ev18, h⟩ := h2
      refine r_getR ev18 fk87 rfl d_M_redeem_150 ?_
      refine r_iload (i := 4) (x := v10) 0 rfl d_M_redeem_153 ?_
      refine r_iconst (v := (1 : Int32)) (by decide) d_M_redeem_155 ?_
      have h2 := kr_ob h
      clear h
      obtain ⟨S19, eS19, h⟩ := h2
      refine r_bastore eS19 d_M_redeem_156 ?_
      refine r_aload_n (i := 0) (x := x0) 1 rfl d_M_redeem_157 ?_
      have h2 := kr_ob h
      clear h
      obtain ⟨v20, ev20, h⟩ := h2
      refine r_getR ev20 fk82 rfl d_M_redeem_158 ?_
      refine r_iload_n (i := 1) (x := x1) 2 rfl d_M_redeem_161 ?_
      refine r_iload (i := 4) (x := v10) 0 rfl d_M_redeem_162 ?_
      have h2 := kr_ob h
      clear h
      obtain ⟨S21, eS21, h⟩ := h2
      refine r_iastore eS21 d_M_redeem_164 ?_
      refine r_aload_n (i := 0) (x := x0) 1 rfl d_M_redeem_165 ?_
      refine r_dup (kr_rfcat _) d_M_redeem_166 ?_
      have h2 := kr_ob h
      clear h
      obtain ⟨v22, ev22, h⟩ := h2
      refine r_getI ev22 fk132 rfl d_M_redeem_167 ?_
      refine r_iconst (v := (1 : Int32)) (by decide) d_M_redeem_170 ?_
      refine r_iadd d_M_redeem_171 ?_
      have h2 := kr_ob h
      clear h
      obtain ⟨S23, eS23, h⟩ := h2
      refine r_putI eS23 fk132 (Or.inl rfl) rfl d_M_redeem_172 ?_
      refine r_aload_n (i := 0) (x := x0) 1 rfl d_M_redeem_175 ?_
      refine r_iconst (v := (2 : Int32)) (by decide) d_M_redeem_176 ?_
      refine r_iload (i := 4) (x := v10) 0 rfl d_M_redeem_177 ?_
      have h2 := kr_ob h
      clear h
      obtain ⟨⟨⟩, eu24, h⟩ := h2
      have h2 := kr_ob h
      clear h
      obtain ⟨S25, eS25, h⟩ := h2
      refine r_callV (M1 := m_M_write) (κ := 23) (As := [.int (2 : Int32), .int v10]) eu24 (s_M_write eS25) mok_M_write rfl (by decide) rfl w1724 w1726 w44 (by decide) (kr_c8 kr_c0) d_M_redeem_179 (kr_k0 ?_) kr_kn
      refine r_aload_n (i := 0) (x := x0) 1 rfl d_M_redeem_182 ?_
      refine r_iload (i := 4) (x := v10) 0 rfl d_M_redeem_183 ?_
      have h2 := kr_ob h
      clear h
      obtain ⟨⟨⟩, eu26, h⟩ := h2
      have h2 := kr_ob h
      clear h
      obtain ⟨S27, eS27, h⟩ := h2
      refine r_callV (M1 := m_M_firstToken) (κ := 23) (As := [.int v10]) eu26 (s_M_firstToken eS27) mok_M_firstToken rfl (by decide) rfl w1938 w1940 w66 (by decide) (kr_c8 kr_c0) d_M_redeem_185 (kr_k0 ?_) kr_kn
      refine r_iload (i := 4) (x := v10) 0 rfl d_M_redeem_188 ?_
      cases h
      exact r_iret rfl d_M_redeem_190
set_option maxRecDepth 20000 in
set_option maxHeartbeats 4000000 in
theorem s_M_redeem_B77 {S : AS} {x0 : Option Nat} {x1 : Int32} {x3 : Int32} {y0 : Option Nat} {y1 : Int32} {r : (Int32 × AS)} (h : f_M_redeem_B77 S x0 x1 x3 y0 y1 = some r) : kr_AW m_M_redeem 2 77 [(0, va_rf x0), (1, .int x1), (3, .int x3)] [.int y1, va_rf y0] S (kr_eI r) := by
  unfold f_M_redeem_B77 at h
  refine r_iconst (v := (1 : Int32)) (by decide) d_M_redeem_77 ?_
  refine r_goto (tgt := 82) d_M_redeem_78 rfl ?_
  exact kr_sub [0, 1, 2] rfl (s_M_redeem_B82 h)
set_option maxRecDepth 20000 in
set_option maxHeartbeats 4000000 in
theorem s_M_redeem_B60 {S : AS} {x0 : Option Nat} {x1 : Int32} {x2 : Int32} {y0 : Int32} {r : (Int32 × AS)} (h : f_M_redeem_B60 S x0 x1 x2 y0 = some r) : kr_AW m_M_redeem 2 60 [(0, va_rf x0), (1, .int x1), (2, .int x2)] [.int y0] S (kr_eI r) := by
  unfold f_M_redeem_B60 at h
  refine r_istore_n (i := 3) (lv' := [(3, .int y0), (0, va_rf x0), (1, .int x1), (2, .int x2)]) (by decide) rfl d_M_redeem_60 ?_
  refine r_aload_n (i := 0) (x := x0) 1 rfl d_M_redeem_61 ?_
  refine r_iload_n (i := 2) (x := x2) 3 rfl d_M_redeem_62 ?_
  refine r_iload_n (i := 3) (x := y0) 0 rfl d_M_redeem_63 ?_
  refine r_if_eq (tgt := 77) d_M_redeem_64 rfl (fun c => ?_) (fun c => ?_)
  · replace h := kr_ip c h
    exact kr_sub [1, 2, 0] rfl (s_M_redeem_B77 h)
  · replace h := kr_in_ c h
    refine r_aload_n (i := 0) (x := x0) 1 rfl d_M_redeem_67 ?_
    have h2 := kr_ob h
    clear h
    obtain ⟨v28, ev28, h⟩ := h2
    refine r_getI ev28 fk131 rfl d_M_redeem_68 ?_
    refine r_sipush (v := (200 : Int32)) (by decide) d_M_redeem_71 ?_
    refine r_icmp_ge (tgt := 81) d_M_redeem_74 rfl (fun c => ?_) (fun c => ?_)
    · replace h := kr_ip c h
      refine r_iconst (v := (0 : Int32)) (by decide) d_M_redeem_81 ?_
      exact kr_sub [1, 2, 0] rfl (s_M_redeem_B82 h)
    · replace h := kr_in_ c h
      exact kr_sub [1, 2, 0] rfl (s_M_redeem_B77 h)
set_option maxRecDepth 20000 in
set_option maxHeartbeats 4000000 in
theorem s_M_redeem_B59 {S : AS} {x0 : Option Nat} {x1 : Int32} {x2 : Int32} {r : (Int32 × AS)} (h : f_M_redeem_B59 S x0 x1 x2 = some r) : kr_AW m_M_redeem 2 59 [(0, va_rf x0), (1, .int x1), (2, .int x2)] [] S (kr_eI r) := by
  unfold f_M_redeem_B59 at h
  refine r_iconst (v := (0 : Int32)) (by decide) d_M_redeem_59 ?_
  exact kr_sub [0, 1, 2] rfl (s_M_redeem_B60 h)
set_option maxRecDepth 20000 in
set_option maxHeartbeats 4000000 in
theorem s_M_redeem {S : AS} {a0 : Option Nat} {a1 : Int32} {r : (Int32 × AS)} (h : f_M_redeem S a0 a1 = some r) : kr_Con m_M_redeem 2 [va_rf a0, .int a1] S (kr_eI r) := by
  refine kr_con rfl rfl (by decide +kernel) (by simp [lg_sl, kr_rfcat, kr_icat, m_M_redeem, mL]) ?_
  rw [show lv_args 0 [va_rf a0, .int a1] = [(0, va_rf a0), (1, .int a1)] from by simp [lv_args, kr_rfcat, kr_icat]]
  unfold f_M_redeem at h
  refine r_iload_n (i := 1) (x := a1) 1 rfl d_M_redeem_0 ?_
  refine r_iconst (v := (0 : Int32)) (by decide) d_M_redeem_1 ?_
  refine r_aload_n (i := 0) (x := a0) 0 rfl d_M_redeem_2 ?_
  have h2 := kr_ob h
  clear h
  obtain ⟨v29, ev29, h⟩ := h2
  refine r_getI ev29 fk187 rfl d_M_redeem_3 ?_
  refine r_iconst (v := (1 : Int32)) (by decide) d_M_redeem_6 ?_
  refine r_isub d_M_redeem_7 ?_
  have h2 := kr_ob2 h
  clear h
  obtain ⟨v31, S30, eS30, h⟩ := h2
  refine r_callS (M1 := m_M_isIn) (As := [.int a1, .int (0 : Int32), .int (v29 - (1 : Int32))]) (s_M_isIn eS30) mok_M_isIn rfl w1700 w1701 (by decide) (kr_c8 kr_c0) d_M_redeem_8 (kr_k1 ?_) kr_kn
  refine r_istore_n (i := 2) (lv' := [(2, .int v31), (0, va_rf a0), (1, .int a1)]) (by decide) rfl d_M_redeem_11 ?_
  refine r_iload_n (i := 2) (x := v31) 0 rfl d_M_redeem_12 ?_
  refine r_if_eq (tgt := 59) d_M_redeem_13 rfl (fun c => ?_) (fun c => ?_)
  · replace h := kr_ip c h
    exact kr_sub [1, 2, 0] rfl (s_M_redeem_B59 h)
  · replace h := kr_in_ c h
    refine r_aload_n (i := 0) (x := a0) 1 rfl d_M_redeem_16 ?_
    have h2 := kr_ob h
    clear h
    obtain ⟨v32, ev32, h⟩ := h2
    refine r_getR ev32 fk82 rfl d_M_redeem_17 ?_
    refine r_iload_n (i := 1) (x := a1) 2 rfl d_M_redeem_20 ?_
    have h2 := kr_ob h
    clear h
    obtain ⟨v33, ev33, h⟩ := h2
    refine r_iaload ev33 d_M_redeem_21 ?_
    refine r_iconst (v := (-1 : Int32)) (by decide) d_M_redeem_22 ?_
    refine r_icmp_ne (tgt := 59) d_M_redeem_23 rfl (fun c => ?_) (fun c => ?_)
    · replace h := kr_ip c h
      refine r_aload_n (i := 0) (x := a0) 1 rfl d_M_redeem_26 ?_
      have h2 := kr_ob h
      clear h
      obtain ⟨v34, ev34, h⟩ := h2
      refine r_getI ev34 fk130 rfl d_M_redeem_27 ?_
      refine r_aload_n (i := 0) (x := a0) 1 rfl d_M_redeem_30 ?_
      have h2 := kr_ob h
      clear h
      obtain ⟨v35, ev35, h⟩ := h2
      refine r_getR ev35 fk81 rfl d_M_redeem_31 ?_
      refine r_iload_n (i := 1) (x := a1) 2 rfl d_M_redeem_34 ?_
      have h2 := kr_ob h
      clear h
      obtain ⟨v36, ev36, h⟩ := h2
      refine r_iaload ev36 d_M_redeem_35 ?_
      refine r_isub d_M_redeem_36 ?_
      refine r_iconst (v := (5 : Int32)) (by decide) d_M_redeem_37 ?_
      refine r_icmp_gt (tgt := 59) d_M_redeem_38 rfl (fun c => ?_) (fun c => ?_)
      · replace h := kr_ip c h
        exact kr_sub [1, 2, 0] rfl (s_M_redeem_B59 h)
      · replace h := kr_in_ c h
        refine r_aload_n (i := 0) (x := a0) 1 rfl d_M_redeem_41 ?_
        have h2 := kr_ob h
        clear h
        obtain ⟨v37, ev37, h⟩ := h2
        refine r_getR ev37 fk73 rfl d_M_redeem_42 ?_
        refine r_aload_n (i := 0) (x := a0) 1 rfl d_M_redeem_45 ?_
        have h2 := kr_ob h
        clear h
        obtain ⟨v38, ev38, h⟩ := h2
        refine r_getR ev38 fk77 rfl d_M_redeem_46 ?_
        refine r_iload_n (i := 1) (x := a1) 2 rfl d_M_redeem_49 ?_
        have h2 := kr_ob h
        clear h
        obtain ⟨v39, ev39, h⟩ := h2
        refine r_iaload ev39 d_M_redeem_50 ?_
        have h2 := kr_ob h
        clear h
        obtain ⟨v40, ev40, h⟩ := h2
        refine r_baload ev40 d_M_redeem_51 ?_
        refine r_if_eq (tgt := 59) d_M_redeem_52 rfl (fun c => ?_) (fun c => ?_)
        · replace h := kr_ip c h
          exact kr_sub [1, 2, 0] rfl (s_M_redeem_B59 h)
        · replace h := kr_in_ c h
          refine r_iconst (v := (1 : Int32)) (by decide) d_M_redeem_55 ?_
          refine r_goto (tgt := 60) d_M_redeem_56 rfl ?_
          exact kr_sub [1, 2, 0] rfl (s_M_redeem_B60 h)
    · replace h := kr_in_ c h
      exact kr_sub [1, 2, 0] rfl (s_M_redeem_B59 h)
/-! KeyringCourtModel.thrown()I -/
def f_M_thrown (S : AS) (a0 : Option Nat) : Option (Int32 × AS) :=
  (gI S 23 82 a0).bind fun v1 =>
  some (v1, S)
set_option maxRecDepth 20000 in
set_option maxHeartbeats 4000000 in
theorem s_M_thrown {S : AS} {a0 : Option Nat} {r : (Int32 × AS)} (h : f_M_thrown S a0 = some r) : kr_Con m_M_thrown 0 [va_rf a0] S (kr_eI r) := by
  refine kr_con rfl rfl (by decide +kernel) (by simp [lg_sl, kr_rfcat, kr_icat, m_M_thrown, mL]) ?_
  rw [show lv_args 0 [va_rf a0] = [(0, va_rf a0)] from by simp [lv_args, kr_rfcat, kr_icat]]
  unfold f_M_thrown at h
  refine r_aload_n (i := 0) (x := a0) 0 rfl d_M_thrown_0 ?_
  have h2 := kr_ob h
  clear h
  obtain ⟨v1, ev1, h⟩ := h2
  refine r_getI ev1 fk128 rfl d_M_thrown_1 ?_
  cases h
  exact r_iret rfl d_M_thrown_4
/-! KeyringCourtModel.isFamily(I)Z -/
def f_M_isFamily (S : AS) (a0 : Option Nat) (a1 : Int32) : Option (Int32 × AS) :=
  (gI S 23 46 a0).bind fun v1 =>
  kr_b2 (f_M_isIn S a1 (0 : Int32) (v1 - (1 : Int32))) fun v3 S2 =>
  (kr_z v3).bind fun u4 =>
  some (v3, S2)
set_option maxRecDepth 20000 in
set_option maxHeartbeats 4000000 in
theorem s_M_isFamily {S : AS} {a0 : Option Nat} {a1 : Int32} {r : (Int32 × AS)} (h : f_M_isFamily S a0 a1 = some r) : kr_Con m_M_isFamily 1 [va_rf a0, .int a1] S (kr_eI r) := by
  refine kr_con rfl rfl (by decide +kernel) (by simp [lg_sl, kr_rfcat, kr_icat, m_M_isFamily, mL]) ?_
  rw [show lv_args 0 [va_rf a0, .int a1] = [(0, va_rf a0), (1, .int a1)] from by simp [lv_args, kr_rfcat, kr_icat]]
  unfold f_M_isFamily at h
  refine r_iload_n (i := 1) (x := a1) 1 rfl d_M_isFamily_0 ?_
  refine r_iconst (v := (0 : Int32)) (by decide) d_M_isFamily_1 ?_
  refine r_aload_n (i := 0) (x := a0) 0 rfl d_M_isFamily_2 ?_
  have h2 := kr_ob h
  clear h
  obtain ⟨v1, ev1, h⟩ := h2
  refine r_getI ev1 fk132 rfl d_M_isFamily_3 ?_
  refine r_iconst (v := (1 : Int32)) (by decide) d_M_isFamily_6 ?_
  refine r_isub d_M_isFamily_7 ?_
  have h2 := kr_ob2 h
  clear h
  obtain ⟨v3, S2, eS2, h⟩ := h2
  refine r_callS (M1 := m_M_isIn) (As := [.int a1, .int (0 : Int32), .int (v1 - (1 : Int32))]) (s_M_isIn eS2) mok_M_isIn rfl w1700 w1701 (by decide) (kr_c8 kr_c0) d_M_isFamily_8 (kr_k1 ?_) kr_kn
  have h2 := kr_ob h
  clear h
  obtain ⟨⟨⟩, eu4, h⟩ := h2
  cases h
  exact r_zret rfl eu4 d_M_isFamily_11
/-! KeyringCourtModel.refresh(II)I -/
def f_M_refresh_B227 (S : AS) (x0 : Option Nat) (x1 : Int32) : Option (Int32 × AS) :=
  (kr_rv S 23 x0).bind fun u1 =>
  (f_M_endFamily S x0 x1).bind fun S2 =>
  some ((-1 : Int32), S2)
def f_M_refresh_B121 (S : AS) (x0 : Option Nat) (x1 : Int32) (x2 : Int32) (x5 : Int32) (x6 : Int32) (y0 : Option Nat) (y1 : Int32) (y2 : Int32) (y3 : Int32) : Option (Int32 × AS) :=
  (kr_rv S 23 y0).bind fun u3 =>
  kr_b2 (f_M_mayAll S y0 y1 y2 y3) fun v5 S4 =>
  if v5 = 0 then
  some ((0 : Int32), S4)
  else
  if x5 = 0 then
  some ((-1 : Int32), S4)
  else
  if x6 = 0 then
  (gR S4 23 48 x0).bind fun v6 =>
  (aI S4 40 v6 x1).bind fun v7 =>
  if x2 = (v7 - (1 : Int32)) then
  (gI S4 23 0 x0).bind fun v8 =>
  (gR S4 23 49 x0).bind fun v9 =>
  (aI S4 40 v9 x1).bind fun v10 =>
  if (1 : Int32) < (v8 - v10) then
  f_M_refresh_B227 S4 x0 x1
  else
  (gR S4 23 48 x0).bind fun v11 =>
  (aI S4 40 v11 x1).bind fun v12 =>
  some (v12, S4)
  else
  f_M_refresh_B227 S4 x0 x1
  else
  (gR S4 23 48 x0).bind fun v13 =>
  (aI S4 40 v13 x1).bind fun v14 =>
  (bI S4 v13 x1 (v14 + (1 : Int32))).bind fun S15 =>
  (gR S15 23 49 x0).bind fun v16 =>
  (gI S15 23 0 x0).bind fun v17 =>
  (bI S15 v16 x1 v17).bind fun S18 =>
  (kr_rv S18 23 x0).bind fun u19 =>
  (f_M_firstToken S18 x0 x1).bind fun S20 =>
  (gR S20 23 33 x0).bind fun v21 =>
  (gR S20 23 40 x0).bind fun v22 =>
  (gR S20 23 47 x0).bind fun v23 =>
  (aI S20 40 v23 x1).bind fun v24 =>
  (aI S20 40 v22 v24).bind fun v25 =>
  (gI S20 23 0 x0).bind fun v26 =>
  (bI S20 v21 v25 v26).bind fun S27 =>
  (gR S27 23 48 x0).bind fun v28 =>
  (aI S27 40 v28 x1).bind fun v29 =>
  some (v29, S27)
def f_M_refresh_B116 (S : AS) (x0 : Option Nat) (x1 : Int32) (x2 : Int32) (x5 : Int32) (x6 : Int32) (y0 : Option Nat) (y1 : Int32) (y2 : Int32) : Option (Int32 × AS) :=
  f_M_refresh_B121 S x0 x1 x2 x5 x6 y0 y1 y2 (1 : Int32)
def f_M_refresh_B95 (S : AS) (x0 : Option Nat) (x1 : Int32) (x2 : Int32) (x3 : Int32) (x4 : Int32) (x5 : Int32) (y0 : Int32) : Option (Int32 × AS) :=
  if y0 = 0 then
  f_M_refresh_B116 S x0 x1 x2 x5 y0 x0 x3 x4
  else
  (gI S 23 52 x0).bind fun v30 =>
  if (200 : Int32) ≤ v30 then
  f_M_refresh_B121 S x0 x1 x2 x5 y0 x0 x3 x4 (0 : Int32)
  else
  f_M_refresh_B116 S x0 x1 x2 x5 y0 x0 x3 x4
def f_M_refresh_B94 (S : AS) (x0 : Option Nat) (x1 : Int32) (x2 : Int32) (x3 : Int32) (x4 : Int32) (x5 : Int32) : Option (Int32 × AS) :=
  f_M_refresh_B95 S x0 x1 x2 x3 x4 x5 (0 : Int32)
def f_M_refresh_B68 (S : AS) (x0 : Option Nat) (x1 : Int32) (x2 : Int32) (x3 : Int32) (x4 : Int32) (y0 : Int32) : Option (Int32 × AS) :=
  if x4 = 0 then
  f_M_refresh_B94 S x0 x1 x2 x3 x4 y0
  else
  if y0 = 0 then
  f_M_refresh_B94 S x0 x1 x2 x3 x4 y0
  else
  (gR S 23 48 x0).bind fun v31 =>
  (aI S 40 v31 x1).bind fun v32 =>
  if x2 = v32 then
  f_M_refresh_B95 S x0 x1 x2 x3 x4 y0 (1 : Int32)
  else
  f_M_refresh_B94 S x0 x1 x2 x3 x4 y0
def f_M_refresh_B67 (S : AS) (x0 : Option Nat) (x1 : Int32) (x2 : Int32) (x3 : Int32) (x4 : Int32) : Option (Int32 × AS) :=
  f_M_refresh_B68 S x0 x1 x2 x3 x4 (0 : Int32)
def f_M_refresh_B29 (S : AS) (x0 : Option Nat) (x1 : Int32) (x2 : Int32) (x3 : Int32) (y0 : Int32) : Option (Int32 × AS) :=
  if x3 = 0 then
  f_M_refresh_B67 S x0 x1 x2 x3 y0
  else
  (gR S 23 51 x0).bind fun v33 =>
  (aI S 41 v33 x1).bind fun v34 =>
  if v34 = 0 then
  f_M_refresh_B67 S x0 x1 x2 x3 y0
  else
  (gR S 23 35 x0).bind fun v35 =>
  (gR S 23 40 x0).bind fun v36 =>
  (gR S 23 47 x0).bind fun v37 =>
  (aI S 40 v37 x1).bind fun v38 =>
  (aI S 40 v36 v38).bind fun v39 =>
  (aI S 41 v35 v39).bind fun v40 =>
  if v40 = 0 then
  f_M_refresh_B67 S x0 x1 x2 x3 y0
  else
  f_M_refresh_B68 S x0 x1 x2 x3 y0 (1 : Int32)
def f_M_refresh_B28 (S : AS) (x0 : Option Nat) (x1 : Int32) (x2 : Int32) (x3 : Int32) : Option (Int32 × AS) :=
  f_M_refresh_B29 S x0 x1 x2 x3 (0 : Int32)
def f_M_refresh (S : AS) (a0 : Option Nat) (a1 : Int32) (a2 : Int32) : Option (Int32 × AS) :=
  (kr_rv S 23 a0).bind fun u41 =>
  kr_b2 (f_M_isFamily S a0 a1) fun v43 S42 =>
  if v43 = 0 then
  f_M_refresh_B28 S42 a0 a1 a2 v43
  else
  (gR S42 23 48 a0).bind fun v44 =>
  (aI S42 40 v44 a1).bind fun v45 =>
  kr_b2 (f_M_isIn S42 a2 (0 : Int32) v45) fun v47 S46 =>
  if v47 = 0 then
  f_M_refresh_B28 S46 a0 a1 a2 v43
  else
  f_M_refresh_B29 S46 a0 a1 a2 v43 (1 : Int32)
set_option maxRecDepth 20000 in
set_option maxHeartbeats 4000000 in
theorem s_M_refresh_B227 {S : AS} {x0 : Option Nat} {x1 : Int32} {r : (Int32 × AS)} (h : f_M_refresh_B227 S x0 x1 = some r) : kr_AW m_M_refresh 2 227 [(0, va_rf x0), (1, .int x1)] [] S (kr_eI r) := by
  unfold f_M_refresh_B227 at h
  refine r_aload_n (i := 0) (x := x0) 0 rfl d_M_refresh_227 ?_
  refine r_iload_n (i := 1) (x := x1) 1 rfl d_M_refresh_228 ?_
  have h2 := kr_ob h
  clear h
  obtain ⟨⟨⟩, eu1, h⟩ := h2
  have h2 := kr_ob h
  clear h
  obtain ⟨S2, eS2, h⟩ := h2
  refine r_callV (M1 := m_M_endFamily) (κ := 23) (As := [.int x1]) eu1 (s_M_endFamily eS2) mok_M_endFamily rfl (by decide) rfl w1736 w1738 w47 (by decide) (kr_c8 kr_c0) d_M_refresh_229 (kr_k0 ?_) kr_kn
  refine r_iconst (v := (-1 : Int32)) (by decide) d_M_refresh_232 ?_
  cases h
  exact r_iret rfl d_M_refresh_233
set_option maxRecDepth 20000 in
set_option maxHeartbeats 4000000 in
theorem s_M_refresh_B121 {S : AS} {x0 : Option Nat} {x1 : Int32} {x2 : Int32} {x5 : Int32} {x6 : Int32} {y0 : Option Nat} {y1 : Int32} {y2 : Int32} {y3 : Int32} {r : (Int32 × AS)} (h : f_M_refresh_B121 S x0 x1 x2 x5 x6 y0 y1 y2 y3 = some r) : kr_AW m_M_refresh 2 121 [(0, va_rf x0), (1, .int x1), (2, .int x2), (5, .int x5), (6, .int x6)] [.int y3, .int y2, .int y1, va_rf y0] S (kr_eI r) := by
  unfold f_M_refresh_B121 at h
  have h2 := kr_ob h
  clear h
  obtain ⟨⟨⟩, eu3, h⟩ := h2
  have h2 := kr_ob2 h
  clear h
  obtain ⟨v5, S4, eS4, h⟩ := h2
  refine r_callV (M1 := m_M_mayAll) (κ := 23) (As := [.int y1, .int y2, .int y3]) eu3 (s_M_mayAll eS4) mok_M_mayAll rfl (by decide) rfl w1843 w1845 w61 (by decide) (kr_c8 kr_c0) d_M_refresh_121 (kr_k1 ?_) kr_kn
  refine r_if_ne (tgt := 129) d_M_refresh_124 rfl (fun c => ?_) (fun c => ?_)
  · replace h := kr_ip c h
    refine r_iconst (v := (0 : Int32)) (by decide) d_M_refresh_127 ?_
    cases h
    exact r_iret rfl d_M_refresh_128
  · replace h := kr_in_ c h
    refine r_iload (i := 5) (x := x5) 3 rfl d_M_refresh_129 ?_
    refine r_if_ne (tgt := 136) d_M_refresh_131 rfl (fun c => ?_) (fun c => ?_)
    · replace h := kr_ip c h
      refine r_iconst (v := (-1 : Int32)) (by decide) d_M_refresh_134 ?_
      cases h
      exact r_iret rfl d_M_refresh_135
    · replace h := kr_in_ c h
      refine r_iload (i := 6) (x := x6) 4 rfl d_M_refresh_136 ?_
      refine r_if_eq (tgt := 193) d_M_refresh_138 rfl (fun c => ?_) (fun c => ?_)
      · replace h := kr_ip c h
        refine r_iload_n (i := 2) (x := x2) 2 rfl d_M_refresh_193 ?_
        refine r_aload_n (i := 0) (x := x0) 0 rfl d_M_refresh_194 ?_
        have h2 := kr_ob h
        clear h
        obtain ⟨v6, ev6, h⟩ := h2
        refine r_getR ev6 fk84 rfl d_M_refresh_195 ?_
        refine r_iload_n (i := 1) (x := x1) 1 rfl d_M_refresh_198 ?_
        have h2 := kr_ob h
        clear h
        obtain ⟨v7, ev7, h⟩ := h2
        refine r_iaload ev7 d_M_refresh_199 ?_
        refine r_iconst (v := (1 : Int32)) (by decide) d_M_refresh_200 ?_
        refine r_isub d_M_refresh_201 ?_
        refine r_icmp_ne (tgt := 227) d_M_refresh_202 rfl (fun c => ?_) (fun c => ?_)
        · replace h := kr_ip c h
          refine r_aload_n (i := 0) (x := x0) 0 rfl d_M_refresh_205 ?_
          have h2 := kr_ob h
          clear h
          obtain ⟨v8, ev8, h⟩ := h2
          refine r_getI ev8 fk130 rfl d_M_refresh_206 ?_
          refine r_aload_n (i := 0) (x := x0) 0 rfl d_M_refresh_209 ?_
          have h2 := kr_ob h
          clear h
          obtain ⟨v9, ev9, h⟩ := h2
          refine r_getR ev9 fk85 rfl d_M_refresh_210 ?_
          refine r_iload_n (i := 1) (x := x1) 1 rfl d_M_refresh_213 ?_
          have h2 := kr_ob h
          clear h
          obtain ⟨v10, ev10, h⟩ := h2
          refine r_iaload ev10 d_M_refresh_214 ?_
          refine r_isub d_M_refresh_215 ?_
          refine r_iconst (v := (1 : Int32)) (by decide) d_M_refresh_216 ?_
          refine r_icmp_gt (tgt := 227) d_M_refresh_217 rfl (fun c => ?_) (fun c => ?_)
          · replace h := kr_ip c h
            exact kr_sub [0, 1] rfl (s_M_refresh_B227 h)
          · replace h := kr_in_ c h
            refine r_aload_n (i := 0) (x := x0) 0 rfl d_M_refresh_220 ?_
            have h2 := kr_ob h
            clear h
            obtain ⟨v11, ev11, h⟩ := h2
            refine r_getR ev11 fk84 rfl d_M_refresh_221 ?_
            refine r_iload_n (i := 1) (x := x1) 1 rfl d_M_refresh_224 ?_
            have h2 := kr_ob h
            clear h
            obtain ⟨v12, ev12, h⟩ := h2
            refine r_iaload ev12 d_M_refresh_225 ?_
            cases h
            exact r_iret rfl d_M_refresh_226
        · replace h := kr_in_ c h
          exact kr_sub [0, 1] rfl (s_M_refresh_B227 h)
      · replace h := kr_in_ c h
        refine r_aload_n (i := 0) (x := x0) 0 rfl d_M_refresh_141 ?_
        have h2 := kr_ob h
        clear h
        obtain ⟨v13, ev13, h⟩ := h2
        refine r_getR ev13 fk84 rfl d_M_refresh_142 ?_
        refine r_iload_n (i := 1) (x := x1) 1 rfl d_M_refresh_145 ?_
        refine r_dup2 rfl (kr_rfcat _) d_M_refresh_146 ?_
        have h2 := kr_ob h
        clear h
        obtain ⟨v14, ev14, h⟩ := h2
        refine r_iaload ev14 d_M_refresh_147 ?_
        refine r_iconst (v := (1 : Int32)) (by decide) d_M_refresh_148 ?_
        refine r_iadd d_M_refresh_149 ?_
        have h2 := kr_ob h
        clear h
        obtain ⟨S15, eS15, h⟩ := h2
        refine r_iastore eS15 d_M_refresh_150 ?_
        refine r_aload_n (i := 0) (x := x0) 0 rfl d_M_refresh_151 ?_
        have h2 := kr_ob h
        clear h
        obtain ⟨v16, ev16, h⟩ := h2
        refine r_getR ev16 fk85 rfl d_M_refresh_152 ?_
        refine r_iload_n (i := 1) (x := x1) 1 rfl d_M_refresh_155 ?_
        refine r_aload_n (i := 0) (x := x0) 0 rfl d_M_refresh_156 ?_
        have h2 := kr_ob h
        clear h
        obtain ⟨v17, ev17, h⟩ := h2
        refine r_getI ev17 fk130 rfl d_M_refresh_157 ?_
        have h2 := kr_ob h
        clear h
        obtain ⟨S18, eS18, h⟩ := h2
        refine r_iastore eS18 d_M_refresh_160 ?_
        refine r_aload_n (i := 0) (x := x0) 0 rfl d_M_refresh_161 ?_
        refine r_iload_n (i := 1) (x := x1) 1 rfl d_M_refresh_162 ?_
        have h2 := kr_ob h
        clear h
        obtain ⟨⟨⟩, eu19, h⟩ := h2
        have h2 := kr_ob h
        clear h
        obtain ⟨S20, eS20, h⟩ := h2
        refine r_callV (M1 := m_M_firstToken) (κ := 23) (As := [.int x1]) eu19 (s_M_firstToken eS20) mok_M_firstToken rfl (by decide) rfl w1938 w1940 w66 (by decide) (kr_c8 kr_c0) d_M_refresh_163 (kr_k0 ?_) kr_kn
        refine r_aload_n (i := 0) (x := x0) 0 rfl d_M_refresh_166 ?_
        have h2 := kr_ob h
        clear h
        obtain ⟨v21, ev21, h⟩ := h2
        refine r_getR ev21 fk71 rfl d_M_refresh_167 ?_
        refine r_aload_n (i := 0) (x := x0) 0 rfl d_M_refresh_170 ?_
        have h2 := kr_ob h
        clear h
        obtain ⟨v22, ev22, h⟩ := h2
        refine r_getR ev22 fk77 rfl d_M_refresh_171 ?_
        refine r_aload_n (i := 0) (x := x0) 0 rfl d_M_refresh_174 ?_
        have h2 := kr_ob h
        clear h
        obtain ⟨v23, ev23, h⟩ := h2
        refine r_getR ev23 fk83 rfl d_M_refresh_175 ?_
        refine r_iload_n (i := 1) (x := x1) 1 rfl d_M_refresh_178 ?_
        have h2 := kr_ob h
        clear h
        obtain ⟨v24, ev24, h⟩ := h2
        refine r_iaload ev24 d_M_refresh_179 ?_
        have h2 := kr_ob h
        clear h
        obtain ⟨v25, ev25, h⟩ := h2
        refine r_iaload ev25 d_M_refresh_180 ?_
        refine r_aload_n (i := 0) (x := x0) 0 rfl d_M_refresh_181 ?_
        have h2 := kr_ob h
        clear h
        obtain ⟨v26, ev26, h⟩ := h2
        refine r_getI ev26 fk130 rfl d_M_refresh_182 ?_
        have h2 := kr_ob h
        clear h
        obtain ⟨S27, eS27, h⟩ := h2
        refine r_iastore eS27 d_M_refresh_185 ?_
        refine r_aload_n (i := 0) (x := x0) 0 rfl d_M_refresh_186 ?_
        have h2 := kr_ob h
        clear h
        obtain ⟨v28, ev28, h⟩ := h2
        refine r_getR ev28 fk84 rfl d_M_refresh_187 ?_
        refine r_iload_n (i := 1) (x := x1) 1 rfl d_M_refresh_190 ?_
        have h2 := kr_ob h
        clear h
        obtain ⟨v29, ev29, h⟩ := h2
        refine r_iaload ev29 d_M_refresh_191 ?_
        cases h
        exact r_iret rfl d_M_refresh_192
set_option maxRecDepth 20000 in
set_option maxHeartbeats 4000000 in
theorem s_M_refresh_B116 {S : AS} {x0 : Option Nat} {x1 : Int32} {x2 : Int32} {x5 : Int32} {x6 : Int32} {y0 : Option Nat} {y1 : Int32} {y2 : Int32} {r : (Int32 × AS)} (h : f_M_refresh_B116 S x0 x1 x2 x5 x6 y0 y1 y2 = some r) : kr_AW m_M_refresh 2 116 [(0, va_rf x0), (1, .int x1), (2, .int x2), (5, .int x5), (6, .int x6)] [.int y2, .int y1, va_rf y0] S (kr_eI r) := by
  unfold f_M_refresh_B116 at h
  refine r_iconst (v := (1 : Int32)) (by decide) d_M_refresh_116 ?_
  refine r_goto (tgt := 121) d_M_refresh_117 rfl ?_
  exact kr_sub [0, 1, 2, 3, 4] rfl (s_M_refresh_B121 h)
set_option maxRecDepth 20000 in
set_option maxHeartbeats 4000000 in
theorem s_M_refresh_B95 {S : AS} {x0 : Option Nat} {x1 : Int32} {x2 : Int32} {x3 : Int32} {x4 : Int32} {x5 : Int32} {y0 : Int32} {r : (Int32 × AS)} (h : f_M_refresh_B95 S x0 x1 x2 x3 x4 x5 y0 = some r) : kr_AW m_M_refresh 2 95 [(0, va_rf x0), (1, .int x1), (2, .int x2), (3, .int x3), (4, .int x4), (5, .int x5)] [.int y0] S (kr_eI r) := by
  unfold f_M_refresh_B95 at h
  refine r_istore (i := 6) (lv' := [(6, .int y0), (0, va_rf x0), (1, .int x1), (2, .int x2), (3, .int x3), (4, .int x4), (5, .int x5)]) (by decide) rfl d_M_refresh_95 ?_
  refine r_aload_n (i := 0) (x := x0) 1 rfl d_M_refresh_97 ?_
  refine r_iload_n (i := 3) (x := x3) 4 rfl d_M_refresh_98 ?_
  refine r_iload (i := 4) (x := x4) 5 rfl d_M_refresh_99 ?_
  refine r_iload (i := 6) (x := y0) 0 rfl d_M_refresh_101 ?_
  refine r_if_eq (tgt := 116) d_M_refresh_103 rfl (fun c => ?_) (fun c => ?_)
  · replace h := kr_ip c h
    exact kr_sub [1, 2, 3, 6, 0] rfl (s_M_refresh_B116 h)
  · replace h := kr_in_ c h
    refine r_aload_n (i := 0) (x := x0) 1 rfl d_M_refresh_106 ?_
    have h2 := kr_ob h
    clear h
    obtain ⟨v30, ev30, h⟩ := h2
    refine r_getI ev30 fk131 rfl d_M_refresh_107 ?_
    refine r_sipush (v := (200 : Int32)) (by decide) d_M_refresh_110 ?_
    refine r_icmp_ge (tgt := 120) d_M_refresh_113 rfl (fun c => ?_) (fun c => ?_)
    · replace h := kr_ip c h
      refine r_iconst (v := (0 : Int32)) (by decide) d_M_refresh_120 ?_
      exact kr_sub [1, 2, 3, 6, 0] rfl (s_M_refresh_B121 h)
    · replace h := kr_in_ c h
      exact kr_sub [1, 2, 3, 6, 0] rfl (s_M_refresh_B116 h)
set_option maxRecDepth 20000 in
set_option maxHeartbeats 4000000 in
theorem s_M_refresh_B94 {S : AS} {x0 : Option Nat} {x1 : Int32} {x2 : Int32} {x3 : Int32} {x4 : Int32} {x5 : Int32} {r : (Int32 × AS)} (h : f_M_refresh_B94 S x0 x1 x2 x3 x4 x5 = some r) : kr_AW m_M_refresh 2 94 [(0, va_rf x0), (1, .int x1), (2, .int x2), (3, .int x3), (4, .int x4), (5, .int x5)] [] S (kr_eI r) := by
  unfold f_M_refresh_B94 at h
  refine r_iconst (v := (0 : Int32)) (by decide) d_M_refresh_94 ?_
  exact kr_sub [0, 1, 2, 3, 4, 5] rfl (s_M_refresh_B95 h)
set_option maxRecDepth 20000 in
set_option maxHeartbeats 4000000 in
theorem s_M_refresh_B68 {S : AS} {x0 : Option Nat} {x1 : Int32} {x2 : Int32} {x3 : Int32} {x4 : Int32} {y0 : Int32} {r : (Int32 × AS)} (h : f_M_refresh_B68 S x0 x1 x2 x3 x4 y0 = some r) : kr_AW m_M_refresh 2 68 [(0, va_rf x0), (1, .int x1), (2, .int x2), (3, .int x3), (4, .int x4)] [.int y0] S (kr_eI r) := by
  unfold f_M_refresh_B68 at h
  refine r_istore (i := 5) (lv' := [(5, .int y0), (0, va_rf x0), (1, .int x1), (2, .int x2), (3, .int x3), (4, .int x4)]) (by decide) rfl d_M_refresh_68 ?_
  refine r_iload (i := 4) (x := x4) 5 rfl d_M_refresh_70 ?_
  refine r_if_eq (tgt := 94) d_M_refresh_72 rfl (fun c => ?_) (fun c => ?_)
  · replace h := kr_ip c h
    exact kr_sub [1, 2, 3, 4, 5, 0] rfl (s_M_refresh_B94 h)
  · replace h := kr_in_ c h
    refine r_iload (i := 5) (x := y0) 0 rfl d_M_refresh_75 ?_
    refine r_if_eq (tgt := 94) d_M_refresh_77 rfl (fun c => ?_) (fun c => ?_)
    · replace h := kr_ip c h
      exact kr_sub [1, 2, 3, 4, 5, 0] rfl (s_M_refresh_B94 h)
    · replace h := kr_in_ c h
      refine r_iload_n (i := 2) (x := x2) 3 rfl d_M_refresh_80 ?_
      refine r_aload_n (i := 0) (x := x0) 1 rfl d_M_refresh_81 ?_
      have h2 := kr_ob h
      clear h
      obtain ⟨v31, ev31, h⟩ := h2
      refine r_getR ev31 fk84 rfl d_M_refresh_82 ?_
      refine r_iload_n (i := 1) (x := x1) 2 rfl d_M_refresh_85 ?_
      have h2 := kr_ob h
      clear h
      obtain ⟨v32, ev32, h⟩ := h2
      refine r_iaload ev32 d_M_refresh_86 ?_
      refine r_icmp_ne (tgt := 94) d_M_refresh_87 rfl (fun c => ?_) (fun c => ?_)
      · replace h := kr_ip c h
        refine r_iconst (v := (1 : Int32)) (by decide) d_M_refresh_90 ?_
        refine r_goto (tgt := 95) d_M_refresh_91 rfl ?_
        exact kr_sub [1, 2, 3, 4, 5, 0] rfl (s_M_refresh_B95 h)
      · replace h := kr_in_ c h
        exact kr_sub [1, 2, 3, 4, 5, 0] rfl (s_M_refresh_B94 h)
set_option maxRecDepth 20000 in
set_option maxHeartbeats 4000000 in
theorem s_M_refresh_B67 {S : AS} {x0 : Option Nat} {x1 : Int32} {x2 : Int32} {x3 : Int32} {x4 : Int32} {r : (Int32 × AS)} (h : f_M_refresh_B67 S x0 x1 x2 x3 x4 = some r) : kr_AW m_M_refresh 2 67 [(0, va_rf x0), (1, .int x1), (2, .int x2), (3, .int x3), (4, .int x4)] [] S (kr_eI r) := by
  unfold f_M_refresh_B67 at h
  refine r_iconst (v := (0 : Int32)) (by decide) d_M_refresh_67 ?_
  exact kr_sub [0, 1, 2, 3, 4] rfl (s_M_refresh_B68 h)
set_option maxRecDepth 20000 in
set_option maxHeartbeats 4000000 in
theorem s_M_refresh_B29 {S : AS} {x0 : Option Nat} {x1 : Int32} {x2 : Int32} {x3 : Int32} {y0 : Int32} {r : (Int32 × AS)} (h : f_M_refresh_B29 S x0 x1 x2 x3 y0 = some r) : kr_AW m_M_refresh 2 29 [(0, va_rf x0), (1, .int x1), (2, .int x2), (3, .int x3)] [.int y0] S (kr_eI r) := by
  unfold f_M_refresh_B29 at h
  refine r_istore (i := 4) (lv' := [(4, .int y0), (0, va_rf x0), (1, .int x1), (2, .int x2), (3, .int x3)]) (by decide) rfl d_M_refresh_29 ?_
  refine r_iload_n (i := 3) (x := x3) 4 rfl d_M_refresh_31 ?_
  refine r_if_eq (tgt := 67) d_M_refresh_32 rfl (fun c => ?_) (fun c => ?_)
  · replace h := kr_ip c h
    exact kr_sub [1, 2, 3, 4, 0] rfl (s_M_refresh_B67 h)
  · replace h := kr_in_ c h
    refine r_aload_n (i := 0) (x := x0) 1 rfl d_M_refresh_35 ?_
    have h2 := kr_ob h
    clear h
    obtain ⟨v33, ev33, h⟩ := h2
    refine r_getR ev33 fk87 rfl d_M_refresh_36 ?_
    refine r_iload_n (i := 1) (x := x1) 2 rfl d_M_refresh_39 ?_
    have h2 := kr_ob h
    clear h
    obtain ⟨v34, ev34, h⟩ := h2
    refine r_baload ev34 d_M_refresh_40 ?_
    refine r_if_eq (tgt := 67) d_M_refresh_41 rfl (fun c => ?_) (fun c => ?_)
    · replace h := kr_ip c h
      exact kr_sub [1, 2, 3, 4, 0] rfl (s_M_refresh_B67 h)
    · replace h := kr_in_ c h
      refine r_aload_n (i := 0) (x := x0) 1 rfl d_M_refresh_44 ?_
      have h2 := kr_ob h
      clear h
      obtain ⟨v35, ev35, h⟩ := h2
      refine r_getR ev35 fk73 rfl d_M_refresh_45 ?_
      refine r_aload_n (i := 0) (x := x0) 1 rfl d_M_refresh_48 ?_
      have h2 := kr_ob h
      clear h
      obtain ⟨v36, ev36, h⟩ := h2
      refine r_getR ev36 fk77 rfl d_M_refresh_49 ?_
      refine r_aload_n (i := 0) (x := x0) 1 rfl d_M_refresh_52 ?_
      have h2 := kr_ob h
      clear h
      obtain ⟨v37, ev37, h⟩ := h2
      refine r_getR ev37 fk83 rfl d_M_refresh_53 ?_
      refine r_iload_n (i := 1) (x := x1) 2 rfl d_M_refresh_56 ?_
      have h2 := kr_ob h
      clear h
      obtain ⟨v38, ev38, h⟩ := h2
      refine r_iaload ev38 d_M_refresh_57 ?_
      have h2 := kr_ob h
      clear h
      obtain ⟨v39, ev39, h⟩ := h2
      refine r_iaload ev39 d_M_refresh_58 ?_
      have h2 := kr_ob h
      clear h
      obtain ⟨v40, ev40, h⟩ := h2
      refine r_baload ev40 d_M_refresh_59 ?_
      refine r_if_eq (tgt := 67) d_M_refresh_60 rfl (fun c => ?_) (fun c => ?_)
      · replace h := kr_ip c h
        exact kr_sub [1, 2, 3, 4, 0] rfl (s_M_refresh_B67 h)
      · replace h := kr_in_ c h
        refine r_iconst (v := (1 : Int32)) (by decide) d_M_refresh_63 ?_
        refine r_goto (tgt := 68) d_M_refresh_64 rfl ?_
        exact kr_sub [1, 2, 3, 4, 0] rfl (s_M_refresh_B68 h)
set_option maxRecDepth 20000 in
set_option maxHeartbeats 4000000 in
theorem s_M_refresh_B28 {S : AS} {x0 : Option Nat} {x1 : Int32} {x2 : Int32} {x3 : Int32} {r : (Int32 × AS)} (h : f_M_refresh_B28 S x0 x1 x2 x3 = some r) : kr_AW m_M_refresh 2 28 [(0, va_rf x0), (1, .int x1), (2, .int x2), (3, .int x3)] [] S (kr_eI r) := by
  unfold f_M_refresh_B28 at h
  refine r_iconst (v := (0 : Int32)) (by decide) d_M_refresh_28 ?_
  exact kr_sub [0, 1, 2, 3] rfl (s_M_refresh_B29 h)
set_option maxRecDepth 20000 in
set_option maxHeartbeats 4000000 in
theorem s_M_refresh {S : AS} {a0 : Option Nat} {a1 : Int32} {a2 : Int32} {r : (Int32 × AS)} (h : f_M_refresh S a0 a1 a2 = some r) : kr_Con m_M_refresh 2 [va_rf a0, .int a1, .int a2] S (kr_eI r) := by
  refine kr_con rfl rfl (by decide +kernel) (by simp [lg_sl, kr_rfcat, kr_icat, m_M_refresh, mL]) ?_
  rw [show lv_args 0 [va_rf a0, .int a1, .int a2] = [(0, va_rf a0), (1, .int a1), (2, .int a2)] from by simp [lv_args, kr_rfcat, kr_icat]]
  unfold f_M_refresh at h
  refine r_aload_n (i := 0) (x := a0) 0 rfl d_M_refresh_0 ?_
  refine r_iload_n (i := 1) (x := a1) 1 rfl d_M_refresh_1 ?_
  have h2 := kr_ob h
  clear h
  obtain ⟨⟨⟩, eu41, h⟩ := h2
  have h2 := kr_ob2 h
  clear h
  obtain ⟨v43, S42, eS42, h⟩ := h2
  refine r_callV (M1 := m_M_isFamily) (κ := 23) (As := [.int a1]) eu41 (s_M_isFamily eS42) mok_M_isFamily rfl (by decide) rfl w1950 w1952 w68 (by decide) (kr_c8 kr_c0) d_M_refresh_2 (kr_k1 ?_) kr_kn
  refine r_istore_n (i := 3) (lv' := [(3, .int v43), (0, va_rf a0), (1, .int a1), (2, .int a2)]) (by decide) rfl d_M_refresh_5 ?_
  refine r_iload_n (i := 3) (x := v43) 0 rfl d_M_refresh_6 ?_
  refine r_if_eq (tgt := 28) d_M_refresh_7 rfl (fun c => ?_) (fun c => ?_)
  · replace h := kr_ip c h
    exact kr_sub [1, 2, 3, 0] rfl (s_M_refresh_B28 h)
  · replace h := kr_in_ c h
    refine r_iload_n (i := 2) (x := a2) 3 rfl d_M_refresh_10 ?_
    refine r_iconst (v := (0 : Int32)) (by decide) d_M_refresh_11 ?_
    refine r_aload_n (i := 0) (x := a0) 1 rfl d_M_refresh_12 ?_
    have h2 := kr_ob h
    clear h
    obtain ⟨v44, ev44, h⟩ := h2
    refine r_getR ev44 fk84 rfl d_M_refresh_13 ?_
    refine r_iload_n (i := 1) (x := a1) 2 rfl d_M_refresh_16 ?_
    have h2 := kr_ob h
    clear h
    obtain ⟨v45, ev45, h⟩ := h2
    refine r_iaload ev45 d_M_refresh_17 ?_
    have h2 := kr_ob2 h
    clear h
    obtain ⟨v47, S46, eS46, h⟩ := h2
    refine r_callS (M1 := m_M_isIn) (As := [.int a2, .int (0 : Int32), .int v45]) (s_M_isIn eS46) mok_M_isIn rfl w1700 w1701 (by decide) (kr_c8 kr_c0) d_M_refresh_18 (kr_k1 ?_) kr_kn
    refine r_if_eq (tgt := 28) d_M_refresh_21 rfl (fun c => ?_) (fun c => ?_)
    · replace h := kr_ip c h
      exact kr_sub [1, 2, 3, 0] rfl (s_M_refresh_B28 h)
    · replace h := kr_in_ c h
      refine r_iconst (v := (1 : Int32)) (by decide) d_M_refresh_24 ?_
      refine r_goto (tgt := 29) d_M_refresh_25 rfl ?_
      exact kr_sub [1, 2, 3, 0] rfl (s_M_refresh_B29 h)
/-! KeyringCourtModel.isGood(I)Z -/
def f_M_isGood (S : AS) (a0 : Option Nat) (a1 : Int32) : Option (Int32 × AS) :=
  (kr_rv S 23 a0).bind fun u1 =>
  kr_b2 (f_M_isFamily S a0 a1) fun v3 S2 =>
  (kr_rv S2 23 a0).bind fun u4 =>
  kr_b2 (f_M_may S2 a0 v3) fun v6 S5 =>
  if v6 = 0 then
  some ((0 : Int32), S5)
  else
  (gR S5 23 51 a0).bind fun v7 =>
  (aI S5 41 v7 a1).bind fun v8 =>
  if v8 = 0 then
  some ((0 : Int32), S5)
  else
  some ((1 : Int32), S5)
set_option maxRecDepth 20000 in
set_option maxHeartbeats 4000000 in
theorem s_M_isGood {S : AS} {a0 : Option Nat} {a1 : Int32} {r : (Int32 × AS)} (h : f_M_isGood S a0 a1 = some r) : kr_Con m_M_isGood 2 [va_rf a0, .int a1] S (kr_eI r) := by
  refine kr_con rfl rfl (by decide +kernel) (by simp [lg_sl, kr_rfcat, kr_icat, m_M_isGood, mL]) ?_
  rw [show lv_args 0 [va_rf a0, .int a1] = [(0, va_rf a0), (1, .int a1)] from by simp [lv_args, kr_rfcat, kr_icat]]
  unfold f_M_isGood at h
  refine r_aload_n (i := 0) (x := a0) 0 rfl d_M_isGood_0 ?_
  refine r_aload_n (i := 0) (x := a0) 0 rfl d_M_isGood_1 ?_
  refine r_iload_n (i := 1) (x := a1) 1 rfl d_M_isGood_2 ?_
  have h2 := kr_ob h
  clear h
  obtain ⟨⟨⟩, eu1, h⟩ := h2
  have h2 := kr_ob2 h
  clear h
  obtain ⟨v3, S2, eS2, h⟩ := h2
  refine r_callV (M1 := m_M_isFamily) (κ := 23) (As := [.int a1]) eu1 (s_M_isFamily eS2) mok_M_isFamily rfl (by decide) rfl w1950 w1952 w68 (by decide) (kr_c8 (kr_cR kr_c0)) d_M_isGood_3 (kr_k1 ?_) kr_kn
  have h2 := kr_ob h
  clear h
  obtain ⟨⟨⟩, eu4, h⟩ := h2
  have h2 := kr_ob2 h
  clear h
  obtain ⟨v6, S5, eS5, h⟩ := h2
  refine r_callV (M1 := m_M_may) (κ := 23) (As := [.int v3]) eu4 (s_M_may eS5) mok_M_may rfl (by decide) rfl w1703 w1705 w42 (by decide) (kr_c8 kr_c0) d_M_isGood_6 (kr_k1 ?_) kr_kn
  refine r_if_eq (tgt := 25) d_M_isGood_9 rfl (fun c => ?_) (fun c => ?_)
  · replace h := kr_ip c h
    refine r_iconst (v := (0 : Int32)) (by decide) d_M_isGood_25 ?_
    cases h
    exact r_zret rfl rfl d_M_isGood_26
  · replace h := kr_in_ c h
    refine r_aload_n (i := 0) (x := a0) 0 rfl d_M_isGood_12 ?_
    have h2 := kr_ob h
    clear h
    obtain ⟨v7, ev7, h⟩ := h2
    refine r_getR ev7 fk87 rfl d_M_isGood_13 ?_
    refine r_iload_n (i := 1) (x := a1) 1 rfl d_M_isGood_16 ?_
    have h2 := kr_ob h
    clear h
    obtain ⟨v8, ev8, h⟩ := h2
    refine r_baload ev8 d_M_isGood_17 ?_
    refine r_if_eq (tgt := 25) d_M_isGood_18 rfl (fun c => ?_) (fun c => ?_)
    · replace h := kr_ip c h
      refine r_iconst (v := (0 : Int32)) (by decide) d_M_isGood_25 ?_
      cases h
      exact r_zret rfl rfl d_M_isGood_26
    · replace h := kr_in_ c h
      refine r_iconst (v := (1 : Int32)) (by decide) d_M_isGood_21 ?_
      refine r_goto (tgt := 26) d_M_isGood_22 rfl ?_
      cases h
      exact r_zret rfl rfl d_M_isGood_26
/-! KeyringCourtModel.tokenOf(I)I -/
def f_M_tokenOf (S : AS) (a0 : Option Nat) (a1 : Int32) : Option (Int32 × AS) :=
  (kr_rv S 23 a0).bind fun u1 =>
  kr_b2 (f_M_isFamily S a0 a1) fun v3 S2 =>
  (kr_rv S2 23 a0).bind fun u4 =>
  kr_b2 (f_M_may S2 a0 v3) fun v6 S5 =>
  if v6 = 0 then
  some ((0 : Int32), S5)
  else
  (gR S5 23 50 a0).bind fun v7 =>
  (aI S5 40 v7 a1).bind fun v8 =>
  some (v8, S5)
set_option maxRecDepth 20000 in
set_option maxHeartbeats 4000000 in
theorem s_M_tokenOf {S : AS} {a0 : Option Nat} {a1 : Int32} {r : (Int32 × AS)} (h : f_M_tokenOf S a0 a1 = some r) : kr_Con m_M_tokenOf 2 [va_rf a0, .int a1] S (kr_eI r) := by
  refine kr_con rfl rfl (by decide +kernel) (by simp [lg_sl, kr_rfcat, kr_icat, m_M_tokenOf, mL]) ?_
  rw [show lv_args 0 [va_rf a0, .int a1] = [(0, va_rf a0), (1, .int a1)] from by simp [lv_args, kr_rfcat, kr_icat]]
  unfold f_M_tokenOf at h
  refine r_aload_n (i := 0) (x := a0) 0 rfl d_M_tokenOf_0 ?_
  refine r_aload_n (i := 0) (x := a0) 0 rfl d_M_tokenOf_1 ?_
  refine r_iload_n (i := 1) (x := a1) 1 rfl d_M_tokenOf_2 ?_
  have h2 := kr_ob h
  clear h
  obtain ⟨⟨⟩, eu1, h⟩ := h2
  have h2 := kr_ob2 h
  clear h
  obtain ⟨v3, S2, eS2, h⟩ := h2
  refine r_callV (M1 := m_M_isFamily) (κ := 23) (As := [.int a1]) eu1 (s_M_isFamily eS2) mok_M_isFamily rfl (by decide) rfl w1950 w1952 w68 (by decide) (kr_c8 (kr_cR kr_c0)) d_M_tokenOf_3 (kr_k1 ?_) kr_kn
  have h2 := kr_ob h
  clear h
  obtain ⟨⟨⟩, eu4, h⟩ := h2
  have h2 := kr_ob2 h
  clear h
  obtain ⟨v6, S5, eS5, h⟩ := h2
  refine r_callV (M1 := m_M_may) (κ := 23) (As := [.int v3]) eu4 (s_M_may eS5) mok_M_may rfl (by decide) rfl w1703 w1705 w42 (by decide) (kr_c8 kr_c0) d_M_tokenOf_6 (kr_k1 ?_) kr_kn
  refine r_if_eq (tgt := 21) d_M_tokenOf_9 rfl (fun c => ?_) (fun c => ?_)
  · replace h := kr_ip c h
    refine r_iconst (v := (0 : Int32)) (by decide) d_M_tokenOf_21 ?_
    cases h
    exact r_iret rfl d_M_tokenOf_22
  · replace h := kr_in_ c h
    refine r_aload_n (i := 0) (x := a0) 0 rfl d_M_tokenOf_12 ?_
    have h2 := kr_ob h
    clear h
    obtain ⟨v7, ev7, h⟩ := h2
    refine r_getR ev7 fk86 rfl d_M_tokenOf_13 ?_
    refine r_iload_n (i := 1) (x := a1) 1 rfl d_M_tokenOf_16 ?_
    have h2 := kr_ob h
    clear h
    obtain ⟨v8, ev8, h⟩ := h2
    refine r_iaload ev8 d_M_tokenOf_17 ?_
    refine r_goto (tgt := 22) d_M_tokenOf_18 rfl ?_
    cases h
    exact r_iret rfl d_M_tokenOf_22
/-! KeyringCourtModel.isToken(I)Z -/
def f_M_isToken (S : AS) (a0 : Option Nat) (a1 : Int32) : Option (Int32 × AS) :=
  (gI S 23 52 a0).bind fun v1 =>
  kr_b2 (f_M_isIn S a1 (0 : Int32) (v1 - (1 : Int32))) fun v3 S2 =>
  (kr_z v3).bind fun u4 =>
  some (v3, S2)
set_option maxRecDepth 20000 in
set_option maxHeartbeats 4000000 in
theorem s_M_isToken {S : AS} {a0 : Option Nat} {a1 : Int32} {r : (Int32 × AS)} (h : f_M_isToken S a0 a1 = some r) : kr_Con m_M_isToken 1 [va_rf a0, .int a1] S (kr_eI r) := by
  refine kr_con rfl rfl (by decide +kernel) (by simp [lg_sl, kr_rfcat, kr_icat, m_M_isToken, mL]) ?_
  rw [show lv_args 0 [va_rf a0, .int a1] = [(0, va_rf a0), (1, .int a1)] from by simp [lv_args, kr_rfcat, kr_icat]]
  unfold f_M_isToken at h
  refine r_iload_n (i := 1) (x := a1) 1 rfl d_M_isToken_0 ?_
  refine r_iconst (v := (0 : Int32)) (by decide) d_M_isToken_1 ?_
  refine r_aload_n (i := 0) (x := a0) 0 rfl d_M_isToken_2 ?_
  have h2 := kr_ob h
  clear h
  obtain ⟨v1, ev1, h⟩ := h2
  refine r_getI ev1 fk131 rfl d_M_isToken_3 ?_
  refine r_iconst (v := (1 : Int32)) (by decide) d_M_isToken_6 ?_
  refine r_isub d_M_isToken_7 ?_
  have h2 := kr_ob2 h
  clear h
  obtain ⟨v3, S2, eS2, h⟩ := h2
  refine r_callS (M1 := m_M_isIn) (As := [.int a1, .int (0 : Int32), .int (v1 - (1 : Int32))]) (s_M_isIn eS2) mok_M_isIn rfl w1700 w1701 (by decide) (kr_c8 kr_c0) d_M_isToken_8 (kr_k1 ?_) kr_kn
  have h2 := kr_ob h
  clear h
  obtain ⟨⟨⟩, eu4, h⟩ := h2
  cases h
  exact r_zret rfl eu4 d_M_isToken_11
/-! KeyringCourtModel.exchange(III)I -/
def f_M_exchange_B114 (S : AS) (x0 : Option Nat) (x1 : Int32) (x2 : Int32) (x3 : Int32) (x4 : Int32) (x5 : Int32) (y0 : Int32) : Option (Int32 × AS) :=
  (kr_rv S 23 x0).bind fun u1 =>
  kr_b2 (f_M_mayAll S x0 x4 x5 y0) fun v3 S2 =>
  if v3 = 0 then
  some ((0 : Int32), S2)
  else
  (gR S2 23 57 x0).bind fun v4 =>
  (aI S2 40 v4 x1).bind fun v5 =>
  (gR S2 23 40 x0).bind fun v6 =>
  (gR S2 23 47 x0).bind fun v7 =>
  (aI S2 40 v7 v5).bind fun v8 =>
  (aI S2 40 v6 v8).bind fun v9 =>
  (kr_rv S2 23 x0).bind fun u10 =>
  kr_b2 (f_M_levelNow S2 x0 v9) fun v12 S11 =>
  (gR S11 23 38 x0).bind fun v13 =>
  (aI S11 40 v13 x2).bind fun v14 =>
  if v14 ≤ v12 then
  (gR S11 23 54 x0).bind fun v15 =>
  (aI S11 40 v15 x1).bind fun v16 =>
  (gR S11 23 56 x0).bind fun v17 =>
  (aI S11 40 v17 x1).bind fun v18 =>
  (gR S11 23 59 x0).bind fun v19 =>
  (aI S11 40 v19 x1).bind fun v20 =>
  (kr_rv S11 23 x0).bind fun u21 =>
  kr_b2 (f_M_newToken S11 x0 v5 v16 x2 x3 (v18 + (1 : Int32)) v20) fun v23 S22 =>
  some (v23, S22)
  else
  some ((-2 : Int32), S11)
def f_M_exchange_B113 (S : AS) (x0 : Option Nat) (x1 : Int32) (x2 : Int32) (x3 : Int32) (x4 : Int32) (x5 : Int32) : Option (Int32 × AS) :=
  f_M_exchange_B114 S x0 x1 x2 x3 x4 x5 (0 : Int32)
def f_M_exchange_B55 (S : AS) (x0 : Option Nat) (x1 : Int32) (x2 : Int32) (x3 : Int32) (x4 : Int32) (y0 : Int32) : Option (Int32 × AS) :=
  if x4 = 0 then
  f_M_exchange_B113 S x0 x1 x2 x3 x4 y0
  else
  (gI S 23 0 x0).bind fun v24 =>
  (gR S 23 59 x0).bind fun v25 =>
  (aI S 40 v25 x1).bind fun v26 =>
  if v26 < v24 then
  f_M_exchange_B113 S x0 x1 x2 x3 x4 y0
  else
  (gR S 23 51 x0).bind fun v27 =>
  (gR S 23 57 x0).bind fun v28 =>
  (aI S 40 v28 x1).bind fun v29 =>
  (aI S 41 v27 v29).bind fun v30 =>
  if v30 = 0 then
  f_M_exchange_B113 S x0 x1 x2 x3 x4 y0
  else
  (gR S 23 56 x0).bind fun v31 =>
  (aI S 40 v31 x1).bind fun v32 =>
  if (3 : Int32) ≤ v32 then
  f_M_exchange_B113 S x0 x1 x2 x3 x4 y0
  else
  (gI S 23 52 x0).bind fun v33 =>
  if (200 : Int32) ≤ v33 then
  f_M_exchange_B113 S x0 x1 x2 x3 x4 y0
  else
  f_M_exchange_B114 S x0 x1 x2 x3 x4 y0 (1 : Int32)
def f_M_exchange_B54 (S : AS) (x0 : Option Nat) (x1 : Int32) (x2 : Int32) (x3 : Int32) (x4 : Int32) : Option (Int32 × AS) :=
  f_M_exchange_B55 S x0 x1 x2 x3 x4 (0 : Int32)
def f_M_exchange_B20 (S : AS) (x0 : Option Nat) (x1 : Int32) (x2 : Int32) (x3 : Int32) (y0 : Int32) : Option (Int32 × AS) :=
  if y0 = 0 then
  f_M_exchange_B54 S x0 x1 x2 x3 y0
  else
  kr_b2 (f_M_isIn S x3 (1 : Int32) (15 : Int32)) fun v35 S34 =>
  if v35 = 0 then
  f_M_exchange_B54 S34 x0 x1 x2 x3 y0
  else
  (gR S34 23 55 x0).bind fun v36 =>
  (aI S34 40 v36 x1).bind fun v37 =>
  if (x3 &&& (v37 ^^^ (-1 : Int32))) = 0 then
  f_M_exchange_B55 S34 x0 x1 x2 x3 y0 (1 : Int32)
  else
  f_M_exchange_B54 S34 x0 x1 x2 x3 y0
def f_M_exchange_B19 (S : AS) (x0 : Option Nat) (x1 : Int32) (x2 : Int32) (x3 : Int32) : Option (Int32 × AS) :=
  f_M_exchange_B20 S x0 x1 x2 x3 (0 : Int32)
def f_M_exchange (S : AS) (a0 : Option Nat) (a1 : Int32) (a2 : Int32) (a3 : Int32) : Option (Int32 × AS) :=
  (kr_rv S 23 a0).bind fun u38 =>
  kr_b2 (f_M_isToken S a0 a1) fun v40 S39 =>
  if v40 = 0 then
  f_M_exchange_B19 S39 a0 a1 a2 a3
  else
  kr_b2 (f_M_isService S39 a2) fun v42 S41 =>
  if v42 = 0 then
  f_M_exchange_B19 S41 a0 a1 a2 a3
  else
  f_M_exchange_B20 S41 a0 a1 a2 a3 (1 : Int32)
set_option maxRecDepth 20000 in
set_option maxHeartbeats 4000000 in
theorem s_M_exchange_B114 {S : AS} {x0 : Option Nat} {x1 : Int32} {x2 : Int32} {x3 : Int32} {x4 : Int32} {x5 : Int32} {y0 : Int32} {r : (Int32 × AS)} (h : f_M_exchange_B114 S x0 x1 x2 x3 x4 x5 y0 = some r) : kr_AW m_M_exchange 2 114 [(0, va_rf x0), (1, .int x1), (2, .int x2), (3, .int x3), (4, .int x4), (5, .int x5)] [.int y0] S (kr_eI r) := by
  unfold f_M_exchange_B114 at h
  refine r_istore (i := 6) (lv' := [(6, .int y0), (0, va_rf x0), (1, .int x1), (2, .int x2), (3, .int x3), (4, .int x4), (5, .int x5)]) (by decide) rfl d_M_exchange_114 ?_
  refine r_aload_n (i := 0) (x := x0) 1 rfl d_M_exchange_116 ?_
  refine r_iload (i := 4) (x := x4) 5 rfl d_M_exchange_117 ?_
  refine r_iload (i := 5) (x := x5) 6 rfl d_M_exchange_119 ?_
  refine r_iload (i := 6) (x := y0) 0 rfl d_M_exchange_121 ?_
  have h2 := kr_ob h
  clear h
  obtain ⟨⟨⟩, eu1, h⟩ := h2
  have h2 := kr_ob2 h
  clear h
  obtain ⟨v3, S2, eS2, h⟩ := h2
  refine r_callV (M1 := m_M_mayAll) (κ := 23) (As := [.int x4, .int x5, .int y0]) eu1 (s_M_mayAll eS2) mok_M_mayAll rfl (by decide) rfl w1843 w1845 w61 (by decide) (kr_c8 kr_c0) d_M_exchange_123 (kr_k1 ?_) kr_kn
  refine r_if_ne (tgt := 131) d_M_exchange_126 rfl (fun c => ?_) (fun c => ?_)
  · replace h := kr_ip c h
    refine r_iconst (v := (0 : Int32)) (by decide) d_M_exchange_129 ?_
    cases h
    exact r_iret rfl d_M_exchange_130
  · replace h := kr_in_ c h
    refine r_aload_n (i := 0) (x := x0) 1 rfl d_M_exchange_131 ?_
    have h2 := kr_ob h
    clear h
    obtain ⟨v4, ev4, h⟩ := h2
    refine r_getR ev4 fk92 rfl d_M_exchange_132 ?_
    refine r_iload_n (i := 1) (x := x1) 2 rfl d_M_exchange_135 ?_
    have h2 := kr_ob h
    clear h
    obtain ⟨v5, ev5, h⟩ := h2
    refine r_iaload ev5 d_M_exchange_136 ?_
    refine r_istore (i := 7) (lv' := [(7, .int v5), (6, .int y0), (0, va_rf x0), (1, .int x1), (2, .int x2), (3, .int x3), (4, .int x4), (5, .int x5)]) (by decide) rfl d_M_exchange_137 ?_
    refine r_aload_n (i := 0) (x := x0) 2 rfl d_M_exchange_139 ?_
    refine r_aload_n (i := 0) (x := x0) 2 rfl d_M_exchange_140 ?_
    have h2 := kr_ob h
    clear h
    obtain ⟨v6, ev6, h⟩ := h2
    refine r_getR ev6 fk77 rfl d_M_exchange_141 ?_
    refine r_aload_n (i := 0) (x := x0) 2 rfl d_M_exchange_144 ?_
    have h2 := kr_ob h
    clear h
    obtain ⟨v7, ev7, h⟩ := h2
    refine r_getR ev7 fk83 rfl d_M_exchange_145 ?_
    refine r_iload (i := 7) (x := v5) 0 rfl d_M_exchange_148 ?_
    have h2 := kr_ob h
    clear h
    obtain ⟨v8, ev8, h⟩ := h2
    refine r_iaload ev8 d_M_exchange_150 ?_
    have h2 := kr_ob h
    clear h
    obtain ⟨v9, ev9, h⟩ := h2
    refine r_iaload ev9 d_M_exchange_151 ?_
    have h2 := kr_ob h
    clear h
    obtain ⟨⟨⟩, eu10, h⟩ := h2
    have h2 := kr_ob2 h
    clear h
    obtain ⟨v12, S11, eS11, h⟩ := h2
    refine r_callV (M1 := m_M_levelNow) (κ := 23) (As := [.int v9]) eu10 (s_M_levelNow eS11) mok_M_levelNow rfl (by decide) rfl w1895 w1897 w65 (by decide) (kr_c8 kr_c0) d_M_exchange_152 (kr_k1 ?_) kr_kn
    refine r_aload_n (i := 0) (x := x0) 2 rfl d_M_exchange_155 ?_
    have h2 := kr_ob h
    clear h
    obtain ⟨v13, ev13, h⟩ := h2
    refine r_getR ev13 fk76 rfl d_M_exchange_156 ?_
    refine r_iload_n (i := 2) (x := x2) 4 rfl d_M_exchange_159 ?_
    have h2 := kr_ob h
    clear h
    obtain ⟨v14, ev14, h⟩ := h2
    refine r_iaload ev14 d_M_exchange_160 ?_
    refine r_icmp_ge (tgt := 167) d_M_exchange_161 rfl (fun c => ?_) (fun c => ?_)
    · replace h := kr_ip c h
      refine r_aload_n (i := 0) (x := x0) 2 rfl d_M_exchange_167 ?_
      refine r_iload (i := 7) (x := v5) 0 rfl d_M_exchange_168 ?_
      refine r_aload_n (i := 0) (x := x0) 2 rfl d_M_exchange_170 ?_
      have h2 := kr_ob h
      clear h
      obtain ⟨v15, ev15, h⟩ := h2
      refine r_getR ev15 fk89 rfl d_M_exchange_171 ?_
      refine r_iload_n (i := 1) (x := x1) 3 rfl d_M_exchange_174 ?_
      have h2 := kr_ob h
      clear h
      obtain ⟨v16, ev16, h⟩ := h2
      refine r_iaload ev16 d_M_exchange_175 ?_
      refine r_iload_n (i := 2) (x := x2) 4 rfl d_M_exchange_176 ?_
      refine r_iload_n (i := 3) (x := x3) 5 rfl d_M_exchange_177 ?_
      refine r_aload_n (i := 0) (x := x0) 2 rfl d_M_exchange_178 ?_
      have h2 := kr_ob h
      clear h
      obtain ⟨v17, ev17, h⟩ := h2
      refine r_getR ev17 fk91 rfl d_M_exchange_179 ?_
      refine r_iload_n (i := 1) (x := x1) 3 rfl d_M_exchange_182 ?_
      have h2 := kr_ob h
      clear h
      obtain ⟨v18, ev18, h⟩ := h2
      refine r_iaload ev18 d_M_exchange_183 ?_
      refine r_iconst (v := (1 : Int32)) (by decide) d_M_exchange_184 ?_
      refine r_iadd d_M_exchange_185 ?_
      refine r_aload_n (i := 0) (x := x0) 2 rfl d_M_exchange_186 ?_
      have h2 := kr_ob h
      clear h
      obtain ⟨v19, ev19, h⟩ := h2
      refine r_getR ev19 fk94 rfl d_M_exchange_187 ?_
      refine r_iload_n (i := 1) (x := x1) 3 rfl d_M_exchange_190 ?_
      have h2 := kr_ob h
      clear h
      obtain ⟨v20, ev20, h⟩ := h2
      refine r_iaload ev20 d_M_exchange_191 ?_
      have h2 := kr_ob h
      clear h
      obtain ⟨⟨⟩, eu21, h⟩ := h2
      have h2 := kr_ob2 h
      clear h
      obtain ⟨v23, S22, eS22, h⟩ := h2
      refine r_callV (M1 := m_M_newToken) (κ := 23) (As := [.int v5, .int v16, .int x2, .int x3, .int (v18 + (1 : Int32)), .int v20]) eu21 (s_M_newToken eS22) mok_M_newToken rfl (by decide) rfl w1942 w1944 w67 (by decide) (kr_c8 kr_c0) d_M_exchange_192 (kr_k1 ?_) kr_kn
      cases h
      exact r_iret rfl d_M_exchange_195
    · replace h := kr_in_ c h
      refine r_bipush (v := (-2 : Int32)) (by decide) d_M_exchange_164 ?_
      cases h
      exact r_iret rfl d_M_exchange_166
set_option maxRecDepth 20000 in
set_option maxHeartbeats 4000000 in
theorem s_M_exchange_B113 {S : AS} {x0 : Option Nat} {x1 : Int32} {x2 : Int32} {x3 : Int32} {x4 : Int32} {x5 : Int32} {r : (Int32 × AS)} (h : f_M_exchange_B113 S x0 x1 x2 x3 x4 x5 = some r) : kr_AW m_M_exchange 2 113 [(0, va_rf x0), (1, .int x1), (2, .int x2), (3, .int x3), (4, .int x4), (5, .int x5)] [] S (kr_eI r) := by
  unfold f_M_exchange_B113 at h
  refine r_iconst (v := (0 : Int32)) (by decide) d_M_exchange_113 ?_
  exact kr_sub [0, 1, 2, 3, 4, 5] rfl (s_M_exchange_B114 h)
set_option maxRecDepth 20000 in
set_option maxHeartbeats 4000000 in
theorem s_M_exchange_B55 {S : AS} {x0 : Option Nat} {x1 : Int32} {x2 : Int32} {x3 : Int32} {x4 : Int32} {y0 : Int32} {r : (Int32 × AS)} (h : f_M_exchange_B55 S x0 x1 x2 x3 x4 y0 = some r) : kr_AW m_M_exchange 2 55 [(0, va_rf x0), (1, .int x1), (2, .int x2), (3, .int x3), (4, .int x4)] [.int y0] S (kr_eI r) := by
  unfold f_M_exchange_B55 at h
  refine r_istore (i := 5) (lv' := [(5, .int y0), (0, va_rf x0), (1, .int x1), (2, .int x2), (3, .int x3), (4, .int x4)]) (by decide) rfl d_M_exchange_55 ?_
  refine r_iload (i := 4) (x := x4) 5 rfl d_M_exchange_57 ?_
  refine r_if_eq (tgt := 113) d_M_exchange_59 rfl (fun c => ?_) (fun c => ?_)
  · replace h := kr_ip c h
    exact kr_sub [1, 2, 3, 4, 5, 0] rfl (s_M_exchange_B113 h)
  · replace h := kr_in_ c h
    refine r_aload_n (i := 0) (x := x0) 1 rfl d_M_exchange_62 ?_
    have h2 := kr_ob h
    clear h
    obtain ⟨v24, ev24, h⟩ := h2
    refine r_getI ev24 fk130 rfl d_M_exchange_63 ?_
    refine r_aload_n (i := 0) (x := x0) 1 rfl d_M_exchange_66 ?_
    have h2 := kr_ob h
    clear h
    obtain ⟨v25, ev25, h⟩ := h2
    refine r_getR ev25 fk94 rfl d_M_exchange_67 ?_
    refine r_iload_n (i := 1) (x := x1) 2 rfl d_M_exchange_70 ?_
    have h2 := kr_ob h
    clear h
    obtain ⟨v26, ev26, h⟩ := h2
    refine r_iaload ev26 d_M_exchange_71 ?_
    refine r_icmp_gt (tgt := 113) d_M_exchange_72 rfl (fun c => ?_) (fun c => ?_)
    · replace h := kr_ip c h
      exact kr_sub [1, 2, 3, 4, 5, 0] rfl (s_M_exchange_B113 h)
    · replace h := kr_in_ c h
      refine r_aload_n (i := 0) (x := x0) 1 rfl d_M_exchange_75 ?_
      have h2 := kr_ob h
      clear h
      obtain ⟨v27, ev27, h⟩ := h2
      refine r_getR ev27 fk87 rfl d_M_exchange_76 ?_
      refine r_aload_n (i := 0) (x := x0) 1 rfl d_M_exchange_79 ?_
      have h2 := kr_ob h
      clear h
      obtain ⟨v28, ev28, h⟩ := h2
      refine r_getR ev28 fk92 rfl d_M_exchange_80 ?_
      refine r_iload_n (i := 1) (x := x1) 2 rfl d_M_exchange_83 ?_
      have h2 := kr_ob h
      clear h
      obtain ⟨v29, ev29, h⟩ := h2
      refine r_iaload ev29 d_M_exchange_84 ?_
      have h2 := kr_ob h
      clear h
      obtain ⟨v30, ev30, h⟩ := h2
      refine r_baload ev30 d_M_exchange_85 ?_
      refine r_if_eq (tgt := 113) d_M_exchange_86 rfl (fun c => ?_) (fun c => ?_)
      · replace h := kr_ip c h
        exact kr_sub [1, 2, 3, 4, 5, 0] rfl (s_M_exchange_B113 h)
      · replace h := kr_in_ c h
        refine r_aload_n (i := 0) (x := x0) 1 rfl d_M_exchange_89 ?_
        have h2 := kr_ob h
        clear h
        obtain ⟨v31, ev31, h⟩ := h2
        refine r_getR ev31 fk91 rfl d_M_exchange_90 ?_
        refine r_iload_n (i := 1) (x := x1) 2 rfl d_M_exchange_93 ?_
        have h2 := kr_ob h
        clear h
        obtain ⟨v32, ev32, h⟩ := h2
        refine r_iaload ev32 d_M_exchange_94 ?_
        refine r_iconst (v := (3 : Int32)) (by decide) d_M_exchange_95 ?_
        refine r_icmp_ge (tgt := 113) d_M_exchange_96 rfl (fun c => ?_) (fun c => ?_)
        · replace h := kr_ip c h
          exact kr_sub [1, 2, 3, 4, 5, 0] rfl (s_M_exchange_B113 h)
        · replace h := kr_in_ c h
          refine r_aload_n (i := 0) (x := x0) 1 rfl d_M_exchange_99 ?_
          have h2 := kr_ob h
          clear h
          obtain ⟨v33, ev33, h⟩ := h2
          refine r_getI ev33 fk131 rfl d_M_exchange_100 ?_
          refine r_sipush (v := (200 : Int32)) (by decide) d_M_exchange_103 ?_
          refine r_icmp_ge (tgt := 113) d_M_exchange_106 rfl (fun c => ?_) (fun c => ?_)
          · replace h := kr_ip c h
            exact kr_sub [1, 2, 3, 4, 5, 0] rfl (s_M_exchange_B113 h)
          · replace h := kr_in_ c h
            refine r_iconst (v := (1 : Int32)) (by decide) d_M_exchange_109 ?_
            refine r_goto (tgt := 114) d_M_exchange_110 rfl ?_
            exact kr_sub [1, 2, 3, 4, 5, 0] rfl (s_M_exchange_B114 h)
set_option maxRecDepth 20000 in
set_option maxHeartbeats 4000000 in
theorem s_M_exchange_B54 {S : AS} {x0 : Option Nat} {x1 : Int32} {x2 : Int32} {x3 : Int32} {x4 : Int32} {r : (Int32 × AS)} (h : f_M_exchange_B54 S x0 x1 x2 x3 x4 = some r) : kr_AW m_M_exchange 2 54 [(0, va_rf x0), (1, .int x1), (2, .int x2), (3, .int x3), (4, .int x4)] [] S (kr_eI r) := by
  unfold f_M_exchange_B54 at h
  refine r_iconst (v := (0 : Int32)) (by decide) d_M_exchange_54 ?_
  exact kr_sub [0, 1, 2, 3, 4] rfl (s_M_exchange_B55 h)
set_option maxRecDepth 20000 in
set_option maxHeartbeats 4000000 in
theorem s_M_exchange_B20 {S : AS} {x0 : Option Nat} {x1 : Int32} {x2 : Int32} {x3 : Int32} {y0 : Int32} {r : (Int32 × AS)} (h : f_M_exchange_B20 S x0 x1 x2 x3 y0 = some r) : kr_AW m_M_exchange 2 20 [(0, va_rf x0), (1, .int x1), (2, .int x2), (3, .int x3)] [.int y0] S (kr_eI r) := by
  unfold f_M_exchange_B20 at h
  refine r_istore (i := 4) (lv' := [(4, .int y0), (0, va_rf x0), (1, .int x1), (2, .int x2), (3, .int x3)]) (by decide) rfl d_M_exchange_20 ?_
  refine r_iload (i := 4) (x := y0) 0 rfl d_M_exchange_22 ?_
  refine r_if_eq (tgt := 54) d_M_exchange_24 rfl (fun c => ?_) (fun c => ?_)
  · replace h := kr_ip c h
    exact kr_sub [1, 2, 3, 4, 0] rfl (s_M_exchange_B54 h)
  · replace h := kr_in_ c h
    refine r_iload_n (i := 3) (x := x3) 4 rfl d_M_exchange_27 ?_
    refine r_iconst (v := (1 : Int32)) (by decide) d_M_exchange_28 ?_
    refine r_bipush (v := (15 : Int32)) (by decide) d_M_exchange_29 ?_
    have h2 := kr_ob2 h
    clear h
    obtain ⟨v35, S34, eS34, h⟩ := h2
    refine r_callS (M1 := m_M_isIn) (As := [.int x3, .int (1 : Int32), .int (15 : Int32)]) (s_M_isIn eS34) mok_M_isIn rfl w1700 w1701 (by decide) (kr_c8 kr_c0) d_M_exchange_31 (kr_k1 ?_) kr_kn
    refine r_if_eq (tgt := 54) d_M_exchange_34 rfl (fun c => ?_) (fun c => ?_)
    · replace h := kr_ip c h
      exact kr_sub [1, 2, 3, 4, 0] rfl (s_M_exchange_B54 h)
    · replace h := kr_in_ c h
      refine r_iload_n (i := 3) (x := x3) 4 rfl d_M_exchange_37 ?_
      refine r_aload_n (i := 0) (x := x0) 1 rfl d_M_exchange_38 ?_
      have h2 := kr_ob h
      clear h
      obtain ⟨v36, ev36, h⟩ := h2
      refine r_getR ev36 fk90 rfl d_M_exchange_39 ?_
      refine r_iload_n (i := 1) (x := x1) 2 rfl d_M_exchange_42 ?_
      have h2 := kr_ob h
      clear h
      obtain ⟨v37, ev37, h⟩ := h2
      refine r_iaload ev37 d_M_exchange_43 ?_
      refine r_iconst (v := (-1 : Int32)) (by decide) d_M_exchange_44 ?_
      refine r_ixor d_M_exchange_45 ?_
      refine r_iand d_M_exchange_46 ?_
      refine r_if_ne (tgt := 54) d_M_exchange_47 rfl (fun c => ?_) (fun c => ?_)
      · replace h := kr_ip c h
        refine r_iconst (v := (1 : Int32)) (by decide) d_M_exchange_50 ?_
        refine r_goto (tgt := 55) d_M_exchange_51 rfl ?_
        exact kr_sub [1, 2, 3, 4, 0] rfl (s_M_exchange_B55 h)
      · replace h := kr_in_ c h
        exact kr_sub [1, 2, 3, 4, 0] rfl (s_M_exchange_B54 h)
set_option maxRecDepth 20000 in
set_option maxHeartbeats 4000000 in
theorem s_M_exchange_B19 {S : AS} {x0 : Option Nat} {x1 : Int32} {x2 : Int32} {x3 : Int32} {r : (Int32 × AS)} (h : f_M_exchange_B19 S x0 x1 x2 x3 = some r) : kr_AW m_M_exchange 2 19 [(0, va_rf x0), (1, .int x1), (2, .int x2), (3, .int x3)] [] S (kr_eI r) := by
  unfold f_M_exchange_B19 at h
  refine r_iconst (v := (0 : Int32)) (by decide) d_M_exchange_19 ?_
  exact kr_sub [0, 1, 2, 3] rfl (s_M_exchange_B20 h)
set_option maxRecDepth 20000 in
set_option maxHeartbeats 4000000 in
theorem s_M_exchange {S : AS} {a0 : Option Nat} {a1 : Int32} {a2 : Int32} {a3 : Int32} {r : (Int32 × AS)} (h : f_M_exchange S a0 a1 a2 a3 = some r) : kr_Con m_M_exchange 2 [va_rf a0, .int a1, .int a2, .int a3] S (kr_eI r) := by
  refine kr_con rfl rfl (by decide +kernel) (by simp [lg_sl, kr_rfcat, kr_icat, m_M_exchange, mL]) ?_
  rw [show lv_args 0 [va_rf a0, .int a1, .int a2, .int a3] = [(0, va_rf a0), (1, .int a1), (2, .int a2), (3, .int a3)] from by simp [lv_args, kr_rfcat, kr_icat]]
  unfold f_M_exchange at h
  refine r_aload_n (i := 0) (x := a0) 0 rfl d_M_exchange_0 ?_
  refine r_iload_n (i := 1) (x := a1) 1 rfl d_M_exchange_1 ?_
  have h2 := kr_ob h
  clear h
  obtain ⟨⟨⟩, eu38, h⟩ := h2
  have h2 := kr_ob2 h
  clear h
  obtain ⟨v40, S39, eS39, h⟩ := h2
  refine r_callV (M1 := m_M_isToken) (κ := 23) (As := [.int a1]) eu38 (s_M_isToken eS39) mok_M_isToken rfl (by decide) rfl w1966 w1968 w69 (by decide) (kr_c8 kr_c0) d_M_exchange_2 (kr_k1 ?_) kr_kn
  refine r_if_eq (tgt := 19) d_M_exchange_5 rfl (fun c => ?_) (fun c => ?_)
  · replace h := kr_ip c h
    exact kr_sub [0, 1, 2, 3] rfl (s_M_exchange_B19 h)
  · replace h := kr_in_ c h
    refine r_iload_n (i := 2) (x := a2) 2 rfl d_M_exchange_8 ?_
    have h2 := kr_ob2 h
    clear h
    obtain ⟨v42, S41, eS41, h⟩ := h2
    refine r_callS (M1 := m_M_isService) (As := [.int a2]) (s_M_isService eS41) mok_M_isService rfl w1919 w1920 (by decide) (kr_c8 kr_c0) d_M_exchange_9 (kr_k1 ?_) kr_kn
    refine r_if_eq (tgt := 19) d_M_exchange_12 rfl (fun c => ?_) (fun c => ?_)
    · replace h := kr_ip c h
      exact kr_sub [0, 1, 2, 3] rfl (s_M_exchange_B19 h)
    · replace h := kr_in_ c h
      refine r_iconst (v := (1 : Int32)) (by decide) d_M_exchange_15 ?_
      refine r_goto (tgt := 20) d_M_exchange_16 rfl ?_
      exact kr_sub [0, 1, 2, 3] rfl (s_M_exchange_B20 h)
/-! KeyringCourtModel.token(I)I -/
def f_M_token (S : AS) (a0 : Option Nat) (a1 : Int32) : Option (Int32 × AS) :=
  (kr_rv S 23 a0).bind fun u1 =>
  kr_b2 (f_M_isToken S a0 a1) fun v3 S2 =>
  (kr_rv S2 23 a0).bind fun u4 =>
  kr_b2 (f_M_may S2 a0 v3) fun v6 S5 =>
  if v6 = 0 then
  some ((0 : Int32), S5)
  else
  (gR S5 23 59 a0).bind fun v7 =>
  (aI S5 40 v7 a1).bind fun v8 =>
  (gR S5 23 53 a0).bind fun v9 =>
  (aI S5 40 v9 a1).bind fun v10 =>
  (gR S5 23 54 a0).bind fun v11 =>
  (aI S5 40 v11 a1).bind fun v12 =>
  (gR S5 23 56 a0).bind fun v13 =>
  (aI S5 40 v13 a1).bind fun v14 =>
  some (((((1000 : Int32) * v8) + ((100 : Int32) * v10)) + ((10 : Int32) * v12)) + v14, S5)
set_option maxRecDepth 20000 in
set_option maxHeartbeats 4000000 in
theorem s_M_token {S : AS} {a0 : Option Nat} {a1 : Int32} {r : (Int32 × AS)} (h : f_M_token S a0 a1 = some r) : kr_Con m_M_token 2 [va_rf a0, .int a1] S (kr_eI r) := by
  refine kr_con rfl rfl (by decide +kernel) (by simp [lg_sl, kr_rfcat, kr_icat, m_M_token, mL]) ?_
  rw [show lv_args 0 [va_rf a0, .int a1] = [(0, va_rf a0), (1, .int a1)] from by simp [lv_args, kr_rfcat, kr_icat]]
  unfold f_M_token at h
  refine r_aload_n (i := 0) (x := a0) 0 rfl d_M_token_0 ?_
  refine r_aload_n (i := 0) (x := a0) 0 rfl d_M_token_1 ?_
  refine r_iload_n (i := 1) (x := a1) 1 rfl d_M_token_2 ?_
  have h2 := kr_ob h
  clear h
  obtain ⟨⟨⟩, eu1, h⟩ := h2
  have h2 := kr_ob2 h
  clear h
  obtain ⟨v3, S2, eS2, h⟩ := h2
  refine r_callV (M1 := m_M_isToken) (κ := 23) (As := [.int a1]) eu1 (s_M_isToken eS2) mok_M_isToken rfl (by decide) rfl w1966 w1968 w69 (by decide) (kr_c8 (kr_cR kr_c0)) d_M_token_3 (kr_k1 ?_) kr_kn
  have h2 := kr_ob h
  clear h
  obtain ⟨⟨⟩, eu4, h⟩ := h2
  have h2 := kr_ob2 h
  clear h
  obtain ⟨v6, S5, eS5, h⟩ := h2
  refine r_callV (M1 := m_M_may) (κ := 23) (As := [.int v3]) eu4 (s_M_may eS5) mok_M_may rfl (by decide) rfl w1703 w1705 w42 (by decide) (kr_c8 kr_c0) d_M_token_6 (kr_k1 ?_) kr_kn
  refine r_if_eq (tgt := 52) d_M_token_9 rfl (fun c => ?_) (fun c => ?_)
  · replace h := kr_ip c h
    refine r_iconst (v := (0 : Int32)) (by decide) d_M_token_52 ?_
    cases h
    exact r_iret rfl d_M_token_53
  · replace h := kr_in_ c h
    refine r_sipush (v := (1000 : Int32)) (by decide) d_M_token_12 ?_
    refine r_aload_n (i := 0) (x := a0) 0 rfl d_M_token_15 ?_
    have h2 := kr_ob h
    clear h
    obtain ⟨v7, ev7, h⟩ := h2
    refine r_getR ev7 fk94 rfl d_M_token_16 ?_
    refine r_iload_n (i := 1) (x := a1) 1 rfl d_M_token_19 ?_
    have h2 := kr_ob h
    clear h
    obtain ⟨v8, ev8, h⟩ := h2
    refine r_iaload ev8 d_M_token_20 ?_
    refine r_imul d_M_token_21 ?_
    refine r_bipush (v := (100 : Int32)) (by decide) d_M_token_22 ?_
    refine r_aload_n (i := 0) (x := a0) 0 rfl d_M_token_24 ?_
    have h2 := kr_ob h
    clear h
    obtain ⟨v9, ev9, h⟩ := h2
    refine r_getR ev9 fk88 rfl d_M_token_25 ?_
    refine r_iload_n (i := 1) (x := a1) 1 rfl d_M_token_28 ?_
    have h2 := kr_ob h
    clear h
    obtain ⟨v10, ev10, h⟩ := h2
    refine r_iaload ev10 d_M_token_29 ?_
    refine r_imul d_M_token_30 ?_
    refine r_iadd d_M_token_31 ?_
    refine r_bipush (v := (10 : Int32)) (by decide) d_M_token_32 ?_
    refine r_aload_n (i := 0) (x := a0) 0 rfl d_M_token_34 ?_
    have h2 := kr_ob h
    clear h
    obtain ⟨v11, ev11, h⟩ := h2
    refine r_getR ev11 fk89 rfl d_M_token_35 ?_
    refine r_iload_n (i := 1) (x := a1) 1 rfl d_M_token_38 ?_
    have h2 := kr_ob h
    clear h
    obtain ⟨v12, ev12, h⟩ := h2
    refine r_iaload ev12 d_M_token_39 ?_
    refine r_imul d_M_token_40 ?_
    refine r_iadd d_M_token_41 ?_
    refine r_aload_n (i := 0) (x := a0) 0 rfl d_M_token_42 ?_
    have h2 := kr_ob h
    clear h
    obtain ⟨v13, ev13, h⟩ := h2
    refine r_getR ev13 fk91 rfl d_M_token_43 ?_
    refine r_iload_n (i := 1) (x := a1) 1 rfl d_M_token_46 ?_
    have h2 := kr_ob h
    clear h
    obtain ⟨v14, ev14, h⟩ := h2
    refine r_iaload ev14 d_M_token_47 ?_
    refine r_iadd d_M_token_48 ?_
    refine r_goto (tgt := 53) d_M_token_49 rfl ?_
    cases h
    exact r_iret rfl d_M_token_53
/-! KeyringCourtModel.turn()I -/
def f_M_turn_B23 (S : AS) (x0 : Option Nat) (y0 : Option Nat) (y1 : Int32) : Option (Int32 × AS) :=
  (kr_rv S 23 y0).bind fun u1 =>
  kr_b2 (f_M_may S y0 y1) fun v3 S2 =>
  if v3 = 0 then
  some ((0 : Int32), S2)
  else
  (gI S2 23 60 x0).bind fun v4 =>
  (pI S2 23 62 x0 v4).bind fun S5 =>
  (gI S5 23 0 x0).bind fun v6 =>
  (pI S5 23 63 x0 (v6 + (5 : Int32))).bind fun S7 =>
  (gI S7 23 60 x0).bind fun v8 =>
  (pI S7 23 60 x0 (v8 + (1 : Int32))).bind fun S9 =>
  (gI S9 23 62 x0).bind fun v10 =>
  some (v10, S9)
def f_M_turn_B22 (S : AS) (x0 : Option Nat) (y0 : Option Nat) : Option (Int32 × AS) :=
  f_M_turn_B23 S x0 y0 (0 : Int32)
def f_M_turn (S : AS) (a0 : Option Nat) : Option (Int32 × AS) :=
  (gI S 23 62 a0).bind fun v11 =>
  if v11 = (-1 : Int32) then
  (gI S 23 60 a0).bind fun v12 =>
  if (20 : Int32) ≤ v12 then
  f_M_turn_B22 S a0 a0
  else
  f_M_turn_B23 S a0 a0 (1 : Int32)
  else
  f_M_turn_B22 S a0 a0
set_option maxRecDepth 20000 in
set_option maxHeartbeats 4000000 in
theorem s_M_turn_B23 {S : AS} {x0 : Option Nat} {y0 : Option Nat} {y1 : Int32} {r : (Int32 × AS)} (h : f_M_turn_B23 S x0 y0 y1 = some r) : kr_AW m_M_turn 1 23 [(0, va_rf x0)] [.int y1, va_rf y0] S (kr_eI r) := by
  unfold f_M_turn_B23 at h
  have h2 := kr_ob h
  clear h
  obtain ⟨⟨⟩, eu1, h⟩ := h2
  have h2 := kr_ob2 h
  clear h
  obtain ⟨v3, S2, eS2, h⟩ := h2
  refine r_callV (M1 := m_M_may) (κ := 23) (As := [.int y1]) eu1 (s_M_may eS2) mok_M_may rfl (by decide) rfl w1703 w1705 w42 (by decide) (kr_c8 kr_c0) d_M_turn_23 (kr_k1 ?_) kr_kn
  refine r_if_ne (tgt := 31) d_M_turn_26 rfl (fun c => ?_) (fun c => ?_)
  · replace h := kr_ip c h
    refine r_iconst (v := (0 : Int32)) (by decide) d_M_turn_29 ?_
    cases h
    exact r_iret rfl d_M_turn_30
  · replace h := kr_in_ c h
    refine r_aload_n (i := 0) (x := x0) 0 rfl d_M_turn_31 ?_
    refine r_aload_n (i := 0) (x := x0) 0 rfl d_M_turn_32 ?_
    have h2 := kr_ob h
    clear h
    obtain ⟨v4, ev4, h⟩ := h2
    refine r_getI ev4 fk95 rfl d_M_turn_33 ?_
    have h2 := kr_ob h
    clear h
    obtain ⟨S5, eS5, h⟩ := h2
    refine r_putI eS5 fk96 (Or.inl rfl) rfl d_M_turn_36 ?_
    refine r_aload_n (i := 0) (x := x0) 0 rfl d_M_turn_39 ?_
    refine r_aload_n (i := 0) (x := x0) 0 rfl d_M_turn_40 ?_
    have h2 := kr_ob h
    clear h
    obtain ⟨v6, ev6, h⟩ := h2
    refine r_getI ev6 fk130 rfl d_M_turn_41 ?_
    refine r_iconst (v := (5 : Int32)) (by decide) d_M_turn_44 ?_
    refine r_iadd d_M_turn_45 ?_
    have h2 := kr_ob h
    clear h
    obtain ⟨S7, eS7, h⟩ := h2
    refine r_putI eS7 fk134 (Or.inl rfl) rfl d_M_turn_46 ?_
    refine r_aload_n (i := 0) (x := x0) 0 rfl d_M_turn_49 ?_
    refine r_dup (kr_rfcat _) d_M_turn_50 ?_
    have h2 := kr_ob h
    clear h
    obtain ⟨v8, ev8, h⟩ := h2
    refine r_getI ev8 fk95 rfl d_M_turn_51 ?_
    refine r_iconst (v := (1 : Int32)) (by decide) d_M_turn_54 ?_
    refine r_iadd d_M_turn_55 ?_
    have h2 := kr_ob h
    clear h
    obtain ⟨S9, eS9, h⟩ := h2
    refine r_putI eS9 fk95 (Or.inl rfl) rfl d_M_turn_56 ?_
    refine r_aload_n (i := 0) (x := x0) 0 rfl d_M_turn_59 ?_
    have h2 := kr_ob h
    clear h
    obtain ⟨v10, ev10, h⟩ := h2
    refine r_getI ev10 fk96 rfl d_M_turn_60 ?_
    cases h
    exact r_iret rfl d_M_turn_63
set_option maxRecDepth 20000 in
set_option maxHeartbeats 4000000 in
theorem s_M_turn_B22 {S : AS} {x0 : Option Nat} {y0 : Option Nat} {r : (Int32 × AS)} (h : f_M_turn_B22 S x0 y0 = some r) : kr_AW m_M_turn 1 22 [(0, va_rf x0)] [va_rf y0] S (kr_eI r) := by
  unfold f_M_turn_B22 at h
  refine r_iconst (v := (0 : Int32)) (by decide) d_M_turn_22 ?_
  exact kr_sub [0] rfl (s_M_turn_B23 h)
set_option maxRecDepth 20000 in
set_option maxHeartbeats 4000000 in
theorem s_M_turn {S : AS} {a0 : Option Nat} {r : (Int32 × AS)} (h : f_M_turn S a0 = some r) : kr_Con m_M_turn 1 [va_rf a0] S (kr_eI r) := by
  refine kr_con rfl rfl (by decide +kernel) (by simp [lg_sl, kr_rfcat, kr_icat, m_M_turn, mL]) ?_
  rw [show lv_args 0 [va_rf a0] = [(0, va_rf a0)] from by simp [lv_args, kr_rfcat, kr_icat]]
  unfold f_M_turn at h
  refine r_aload_n (i := 0) (x := a0) 0 rfl d_M_turn_0 ?_
  refine r_aload_n (i := 0) (x := a0) 0 rfl d_M_turn_1 ?_
  have h2 := kr_ob h
  clear h
  obtain ⟨v11, ev11, h⟩ := h2
  refine r_getI ev11 fk96 rfl d_M_turn_2 ?_
  refine r_iconst (v := (-1 : Int32)) (by decide) d_M_turn_5 ?_
  refine r_icmp_ne (tgt := 22) d_M_turn_6 rfl (fun c => ?_) (fun c => ?_)
  · replace h := kr_ip c h
    refine r_aload_n (i := 0) (x := a0) 0 rfl d_M_turn_9 ?_
    have h2 := kr_ob h
    clear h
    obtain ⟨v12, ev12, h⟩ := h2
    refine r_getI ev12 fk95 rfl d_M_turn_10 ?_
    refine r_bipush (v := (20 : Int32)) (by decide) d_M_turn_13 ?_
    refine r_icmp_ge (tgt := 22) d_M_turn_15 rfl (fun c => ?_) (fun c => ?_)
    · replace h := kr_ip c h
      exact kr_sub [0] rfl (s_M_turn_B22 h)
    · replace h := kr_in_ c h
      refine r_iconst (v := (1 : Int32)) (by decide) d_M_turn_18 ?_
      refine r_goto (tgt := 23) d_M_turn_19 rfl ?_
      exact kr_sub [0] rfl (s_M_turn_B23 h)
  · replace h := kr_in_ c h
    exact kr_sub [0] rfl (s_M_turn_B22 h)
/-! KeyringCourtModel.emergency()I -/
def f_M_emergency_B67 (S : AS) (x0 : Option Nat) : Option (Int32 × AS) :=
  (gI S 23 62 x0).bind fun v1 =>
  (pI S 23 61 x0 v1).bind fun S2 =>
  (pI S2 23 62 x0 (-1 : Int32)).bind fun S3 =>
  (gI S3 23 61 x0).bind fun v4 =>
  (kr_rv S3 23 x0).bind fun u5 =>
  (f_M_write S3 x0 (5 : Int32) v4).bind fun S6 =>
  (gI S6 23 61 x0).bind fun v7 =>
  some (v7, S6)
def f_M_emergency_B23 (S : AS) (x0 : Option Nat) (y0 : Option Nat) (y1 : Int32) : Option (Int32 × AS) :=
  (kr_rv S 23 y0).bind fun u8 =>
  kr_b2 (f_M_may S y0 y1) fun v10 S9 =>
  if v10 = 0 then
  some ((0 : Int32), S9)
  else
  (gR S9 23 64 x0).bind fun v11 =>
  (gI S9 23 61 x0).bind fun v12 =>
  (bZ S9 v11 v12 (1 : Int32)).bind fun S13 =>
  (gI S13 23 62 x0).bind fun v14 =>
  if v14 = (-1 : Int32) then
  (gI S13 23 60 x0).bind fun v15 =>
  (pI S13 23 62 x0 v15).bind fun S16 =>
  (gI S16 23 60 x0).bind fun v17 =>
  (pI S16 23 60 x0 (v17 + (1 : Int32))).bind fun S18 =>
  f_M_emergency_B67 S18 x0
  else
  f_M_emergency_B67 S13 x0
def f_M_emergency_B18 (S : AS) (x0 : Option Nat) (y0 : Option Nat) : Option (Int32 × AS) :=
  f_M_emergency_B23 S x0 y0 (1 : Int32)
def f_M_emergency (S : AS) (a0 : Option Nat) : Option (Int32 × AS) :=
  (gI S 23 62 a0).bind fun v19 =>
  if v19 = (-1 : Int32) then
  (gI S 23 60 a0).bind fun v20 =>
  if (20 : Int32) ≤ v20 then
  f_M_emergency_B23 S a0 a0 (0 : Int32)
  else
  f_M_emergency_B18 S a0 a0
  else
  f_M_emergency_B18 S a0 a0
set_option maxRecDepth 20000 in
set_option maxHeartbeats 4000000 in
theorem s_M_emergency_B67 {S : AS} {x0 : Option Nat} {r : (Int32 × AS)} (h : f_M_emergency_B67 S x0 = some r) : kr_AW m_M_emergency 1 67 [(0, va_rf x0)] [] S (kr_eI r) := by
  unfold f_M_emergency_B67 at h
  refine r_aload_n (i := 0) (x := x0) 0 rfl d_M_emergency_67 ?_
  refine r_aload_n (i := 0) (x := x0) 0 rfl d_M_emergency_68 ?_
  have h2 := kr_ob h
  clear h
  obtain ⟨v1, ev1, h⟩ := h2
  refine r_getI ev1 fk96 rfl d_M_emergency_69 ?_
  have h2 := kr_ob h
  clear h
  obtain ⟨S2, eS2, h⟩ := h2
  refine r_putI eS2 fk135 (Or.inl rfl) rfl d_M_emergency_72 ?_
  refine r_aload_n (i := 0) (x := x0) 0 rfl d_M_emergency_75 ?_
  refine r_iconst (v := (-1 : Int32)) (by decide) d_M_emergency_76 ?_
  have h2 := kr_ob h
  clear h
  obtain ⟨S3, eS3, h⟩ := h2
  refine r_putI eS3 fk96 (Or.inl rfl) rfl d_M_emergency_77 ?_
  refine r_aload_n (i := 0) (x := x0) 0 rfl d_M_emergency_80 ?_
  refine r_iconst (v := (5 : Int32)) (by decide) d_M_emergency_81 ?_
  refine r_aload_n (i := 0) (x := x0) 0 rfl d_M_emergency_82 ?_
  have h2 := kr_ob h
  clear h
  obtain ⟨v4, ev4, h⟩ := h2
  refine r_getI ev4 fk135 rfl d_M_emergency_83 ?_
  have h2 := kr_ob h
  clear h
  obtain ⟨⟨⟩, eu5, h⟩ := h2
  have h2 := kr_ob h
  clear h
  obtain ⟨S6, eS6, h⟩ := h2
  refine r_callV (M1 := m_M_write) (κ := 23) (As := [.int (5 : Int32), .int v4]) eu5 (s_M_write eS6) mok_M_write rfl (by decide) rfl w1724 w1726 w44 (by decide) (kr_c8 kr_c0) d_M_emergency_86 (kr_k0 ?_) kr_kn
  refine r_aload_n (i := 0) (x := x0) 0 rfl d_M_emergency_89 ?_
  have h2 := kr_ob h
  clear h
  obtain ⟨v7, ev7, h⟩ := h2
  refine r_getI ev7 fk135 rfl d_M_emergency_90 ?_
  cases h
  exact r_iret rfl d_M_emergency_93
set_option maxRecDepth 20000 in
set_option maxHeartbeats 4000000 in
theorem s_M_emergency_B23 {S : AS} {x0 : Option Nat} {y0 : Option Nat} {y1 : Int32} {r : (Int32 × AS)} (h : f_M_emergency_B23 S x0 y0 y1 = some r) : kr_AW m_M_emergency 1 23 [(0, va_rf x0)] [.int y1, va_rf y0] S (kr_eI r) := by
  unfold f_M_emergency_B23 at h
  have h2 := kr_ob h
  clear h
  obtain ⟨⟨⟩, eu8, h⟩ := h2
  have h2 := kr_ob2 h
  clear h
  obtain ⟨v10, S9, eS9, h⟩ := h2
  refine r_callV (M1 := m_M_may) (κ := 23) (As := [.int y1]) eu8 (s_M_may eS9) mok_M_may rfl (by decide) rfl w1703 w1705 w42 (by decide) (kr_c8 kr_c0) d_M_emergency_23 (kr_k1 ?_) kr_kn
  refine r_if_ne (tgt := 31) d_M_emergency_26 rfl (fun c => ?_) (fun c => ?_)
  · replace h := kr_ip c h
    refine r_iconst (v := (0 : Int32)) (by decide) d_M_emergency_29 ?_
    cases h
    exact r_iret rfl d_M_emergency_30
  · replace h := kr_in_ c h
    refine r_aload_n (i := 0) (x := x0) 0 rfl d_M_emergency_31 ?_
    have h2 := kr_ob h
    clear h
    obtain ⟨v11, ev11, h⟩ := h2
    refine r_getR ev11 fk97 rfl d_M_emergency_32 ?_
    refine r_aload_n (i := 0) (x := x0) 0 rfl d_M_emergency_35 ?_
    have h2 := kr_ob h
    clear h
    obtain ⟨v12, ev12, h⟩ := h2
    refine r_getI ev12 fk135 rfl d_M_emergency_36 ?_
    refine r_iconst (v := (1 : Int32)) (by decide) d_M_emergency_39 ?_
    have h2 := kr_ob h
    clear h
    obtain ⟨S13, eS13, h⟩ := h2
    refine r_bastore eS13 d_M_emergency_40 ?_
    refine r_aload_n (i := 0) (x := x0) 0 rfl d_M_emergency_41 ?_
    have h2 := kr_ob h
    clear h
    obtain ⟨v14, ev14, h⟩ := h2
    refine r_getI ev14 fk96 rfl d_M_emergency_42 ?_
    refine r_iconst (v := (-1 : Int32)) (by decide) d_M_emergency_45 ?_
    refine r_icmp_ne (tgt := 67) d_M_emergency_46 rfl (fun c => ?_) (fun c => ?_)
    · replace h := kr_ip c h
      refine r_aload_n (i := 0) (x := x0) 0 rfl d_M_emergency_49 ?_
      refine r_aload_n (i := 0) (x := x0) 0 rfl d_M_emergency_50 ?_
      have h2 := kr_ob h
      clear h
      obtain ⟨v15, ev15, h⟩ := h2
      refine r_getI ev15 fk95 rfl d_M_emergency_51 ?_
      have h2 := kr_ob h
      clear h
      obtain ⟨S16, eS16, h⟩ := h2
      refine r_putI eS16 fk96 (Or.inl rfl) rfl d_M_emergency_54 ?_
      refine r_aload_n (i := 0) (x := x0) 0 rfl d_M_emergency_57 ?_
      refine r_dup (kr_rfcat _) d_M_emergency_58 ?_
      have h2 := kr_ob h
      clear h
      obtain ⟨v17, ev17, h⟩ := h2
      refine r_getI ev17 fk95 rfl d_M_emergency_59 ?_
      refine r_iconst (v := (1 : Int32)) (by decide) d_M_emergency_62 ?_
      refine r_iadd d_M_emergency_63 ?_
      have h2 := kr_ob h
      clear h
      obtain ⟨S18, eS18, h⟩ := h2
      refine r_putI eS18 fk95 (Or.inl rfl) rfl d_M_emergency_64 ?_
      exact kr_sub [0] rfl (s_M_emergency_B67 h)
    · replace h := kr_in_ c h
      exact kr_sub [0] rfl (s_M_emergency_B67 h)
set_option maxRecDepth 20000 in
set_option maxHeartbeats 4000000 in
theorem s_M_emergency_B18 {S : AS} {x0 : Option Nat} {y0 : Option Nat} {r : (Int32 × AS)} (h : f_M_emergency_B18 S x0 y0 = some r) : kr_AW m_M_emergency 1 18 [(0, va_rf x0)] [va_rf y0] S (kr_eI r) := by
  unfold f_M_emergency_B18 at h
  refine r_iconst (v := (1 : Int32)) (by decide) d_M_emergency_18 ?_
  refine r_goto (tgt := 23) d_M_emergency_19 rfl ?_
  exact kr_sub [0] rfl (s_M_emergency_B23 h)
set_option maxRecDepth 20000 in
set_option maxHeartbeats 4000000 in
theorem s_M_emergency {S : AS} {a0 : Option Nat} {r : (Int32 × AS)} (h : f_M_emergency S a0 = some r) : kr_Con m_M_emergency 1 [va_rf a0] S (kr_eI r) := by
  refine kr_con rfl rfl (by decide +kernel) (by simp [lg_sl, kr_rfcat, kr_icat, m_M_emergency, mL]) ?_
  rw [show lv_args 0 [va_rf a0] = [(0, va_rf a0)] from by simp [lv_args, kr_rfcat, kr_icat]]
  unfold f_M_emergency at h
  refine r_aload_n (i := 0) (x := a0) 0 rfl d_M_emergency_0 ?_
  refine r_aload_n (i := 0) (x := a0) 0 rfl d_M_emergency_1 ?_
  have h2 := kr_ob h
  clear h
  obtain ⟨v19, ev19, h⟩ := h2
  refine r_getI ev19 fk96 rfl d_M_emergency_2 ?_
  refine r_iconst (v := (-1 : Int32)) (by decide) d_M_emergency_5 ?_
  refine r_icmp_ne (tgt := 18) d_M_emergency_6 rfl (fun c => ?_) (fun c => ?_)
  · replace h := kr_ip c h
    refine r_aload_n (i := 0) (x := a0) 0 rfl d_M_emergency_9 ?_
    have h2 := kr_ob h
    clear h
    obtain ⟨v20, ev20, h⟩ := h2
    refine r_getI ev20 fk95 rfl d_M_emergency_10 ?_
    refine r_bipush (v := (20 : Int32)) (by decide) d_M_emergency_13 ?_
    refine r_icmp_ge (tgt := 22) d_M_emergency_15 rfl (fun c => ?_) (fun c => ?_)
    · replace h := kr_ip c h
      refine r_iconst (v := (0 : Int32)) (by decide) d_M_emergency_22 ?_
      exact kr_sub [0] rfl (s_M_emergency_B23 h)
    · replace h := kr_in_ c h
      exact kr_sub [0] rfl (s_M_emergency_B18 h)
  · replace h := kr_in_ c h
    exact kr_sub [0] rfl (s_M_emergency_B18 h)
/-! KeyringCourtModel.signing()I -/
def f_M_signing (S : AS) (a0 : Option Nat) : Option (Int32 × AS) :=
  (pI S 23 82 a0 (0 : Int32)).bind fun S1 =>
  (gI S1 23 61 a0).bind fun v2 =>
  some (v2, S1)
set_option maxRecDepth 20000 in
set_option maxHeartbeats 4000000 in
theorem s_M_signing {S : AS} {a0 : Option Nat} {r : (Int32 × AS)} (h : f_M_signing S a0 = some r) : kr_Con m_M_signing 0 [va_rf a0] S (kr_eI r) := by
  refine kr_con rfl rfl (by decide +kernel) (by simp [lg_sl, kr_rfcat, kr_icat, m_M_signing, mL]) ?_
  rw [show lv_args 0 [va_rf a0] = [(0, va_rf a0)] from by simp [lv_args, kr_rfcat, kr_icat]]
  unfold f_M_signing at h
  refine r_aload_n (i := 0) (x := a0) 0 rfl d_M_signing_0 ?_
  refine r_iconst (v := (0 : Int32)) (by decide) d_M_signing_1 ?_
  have h2 := kr_ob h
  clear h
  obtain ⟨S1, eS1, h⟩ := h2
  refine r_putI eS1 fk128 (Or.inl rfl) rfl d_M_signing_2 ?_
  refine r_aload_n (i := 0) (x := a0) 0 rfl d_M_signing_5 ?_
  have h2 := kr_ob h
  clear h
  obtain ⟨v2, ev2, h⟩ := h2
  refine r_getI ev2 fk135 rfl d_M_signing_6 ?_
  cases h
  exact r_iret rfl d_M_signing_9
/-! KeyringCourtModel.isOpenKey(I)Z -/
def f_M_isOpenKey_B40 (S : AS) : Option (Int32 × AS) :=
  some ((1 : Int32), S)
def f_M_isOpenKey (S : AS) (a0 : Option Nat) (a1 : Int32) : Option (Int32 × AS) :=
  (gI S 23 60 a0).bind fun v1 =>
  if v1 ≤ a1 then
  some ((0 : Int32), S)
  else
  (gR S 23 64 a0).bind fun v2 =>
  (aI S 41 v2 a1).bind fun v3 =>
  if v3 = 0 then
  (gR S 23 65 a0).bind fun v4 =>
  (aI S 40 v4 a1).bind fun v5 =>
  if v5 = (-1 : Int32) then
  f_M_isOpenKey_B40 S
  else
  (gI S 23 0 a0).bind fun v6 =>
  (gR S 23 65 a0).bind fun v7 =>
  (aI S 40 v7 a1).bind fun v8 =>
  if v8 ≤ v6 then
  some ((0 : Int32), S)
  else
  f_M_isOpenKey_B40 S
  else
  some ((0 : Int32), S)
set_option maxRecDepth 20000 in
set_option maxHeartbeats 4000000 in
theorem s_M_isOpenKey_B40 {S : AS} {r : (Int32 × AS)} (h : f_M_isOpenKey_B40 S = some r) : kr_AW m_M_isOpenKey 0 40 [] [] S (kr_eI r) := by
  unfold f_M_isOpenKey_B40 at h
  refine r_iconst (v := (1 : Int32)) (by decide) d_M_isOpenKey_40 ?_
  refine r_goto (tgt := 45) d_M_isOpenKey_41 rfl ?_
  cases h
  exact r_zret rfl rfl d_M_isOpenKey_45
set_option maxRecDepth 20000 in
set_option maxHeartbeats 4000000 in
theorem s_M_isOpenKey {S : AS} {a0 : Option Nat} {a1 : Int32} {r : (Int32 × AS)} (h : f_M_isOpenKey S a0 a1 = some r) : kr_Con m_M_isOpenKey 0 [va_rf a0, .int a1] S (kr_eI r) := by
  refine kr_con rfl rfl (by decide +kernel) (by simp [lg_sl, kr_rfcat, kr_icat, m_M_isOpenKey, mL]) ?_
  rw [show lv_args 0 [va_rf a0, .int a1] = [(0, va_rf a0), (1, .int a1)] from by simp [lv_args, kr_rfcat, kr_icat]]
  unfold f_M_isOpenKey at h
  refine r_iload_n (i := 1) (x := a1) 1 rfl d_M_isOpenKey_0 ?_
  refine r_aload_n (i := 0) (x := a0) 0 rfl d_M_isOpenKey_1 ?_
  have h2 := kr_ob h
  clear h
  obtain ⟨v1, ev1, h⟩ := h2
  refine r_getI ev1 fk95 rfl d_M_isOpenKey_2 ?_
  refine r_icmp_ge (tgt := 44) d_M_isOpenKey_5 rfl (fun c => ?_) (fun c => ?_)
  · replace h := kr_ip c h
    refine r_iconst (v := (0 : Int32)) (by decide) d_M_isOpenKey_44 ?_
    cases h
    exact r_zret rfl rfl d_M_isOpenKey_45
  · replace h := kr_in_ c h
    refine r_aload_n (i := 0) (x := a0) 0 rfl d_M_isOpenKey_8 ?_
    have h2 := kr_ob h
    clear h
    obtain ⟨v2, ev2, h⟩ := h2
    refine r_getR ev2 fk97 rfl d_M_isOpenKey_9 ?_
    refine r_iload_n (i := 1) (x := a1) 1 rfl d_M_isOpenKey_12 ?_
    have h2 := kr_ob h
    clear h
    obtain ⟨v3, ev3, h⟩ := h2
    refine r_baload ev3 d_M_isOpenKey_13 ?_
    refine r_if_ne (tgt := 44) d_M_isOpenKey_14 rfl (fun c => ?_) (fun c => ?_)
    · replace h := kr_ip c h
      refine r_aload_n (i := 0) (x := a0) 0 rfl d_M_isOpenKey_17 ?_
      have h2 := kr_ob h
      clear h
      obtain ⟨v4, ev4, h⟩ := h2
      refine r_getR ev4 fk40 rfl d_M_isOpenKey_18 ?_
      refine r_iload_n (i := 1) (x := a1) 1 rfl d_M_isOpenKey_21 ?_
      have h2 := kr_ob h
      clear h
      obtain ⟨v5, ev5, h⟩ := h2
      refine r_iaload ev5 d_M_isOpenKey_22 ?_
      refine r_iconst (v := (-1 : Int32)) (by decide) d_M_isOpenKey_23 ?_
      refine r_icmp_eq (tgt := 40) d_M_isOpenKey_24 rfl (fun c => ?_) (fun c => ?_)
      · replace h := kr_ip c h
        exact kr_sub [] rfl (s_M_isOpenKey_B40 h)
      · replace h := kr_in_ c h
        refine r_aload_n (i := 0) (x := a0) 0 rfl d_M_isOpenKey_27 ?_
        have h2 := kr_ob h
        clear h
        obtain ⟨v6, ev6, h⟩ := h2
        refine r_getI ev6 fk130 rfl d_M_isOpenKey_28 ?_
        refine r_aload_n (i := 0) (x := a0) 0 rfl d_M_isOpenKey_31 ?_
        have h2 := kr_ob h
        clear h
        obtain ⟨v7, ev7, h⟩ := h2
        refine r_getR ev7 fk40 rfl d_M_isOpenKey_32 ?_
        refine r_iload_n (i := 1) (x := a1) 1 rfl d_M_isOpenKey_35 ?_
        have h2 := kr_ob h
        clear h
        obtain ⟨v8, ev8, h⟩ := h2
        refine r_iaload ev8 d_M_isOpenKey_36 ?_
        refine r_icmp_ge (tgt := 44) d_M_isOpenKey_37 rfl (fun c => ?_) (fun c => ?_)
        · replace h := kr_ip c h
          refine r_iconst (v := (0 : Int32)) (by decide) d_M_isOpenKey_44 ?_
          cases h
          exact r_zret rfl rfl d_M_isOpenKey_45
        · replace h := kr_in_ c h
          exact kr_sub [] rfl (s_M_isOpenKey_B40 h)
    · replace h := kr_in_ c h
      refine r_iconst (v := (0 : Int32)) (by decide) d_M_isOpenKey_44 ?_
      cases h
      exact r_zret rfl rfl d_M_isOpenKey_45
/-! KeyringCourtModel.isPublished(I)Z -/
def f_M_isPublished (S : AS) (a0 : Option Nat) (a1 : Int32) : Option (Int32 × AS) :=
  (gI S 23 60 a0).bind fun v1 =>
  kr_b2 (f_M_isIn S a1 (0 : Int32) (v1 - (1 : Int32))) fun v3 S2 =>
  (kr_rv S2 23 a0).bind fun u4 =>
  kr_b2 (f_M_may S2 a0 v3) fun v6 S5 =>
  if v6 = 0 then
  some ((0 : Int32), S5)
  else
  (kr_rv S5 23 a0).bind fun u7 =>
  kr_b2 (f_M_isOpenKey S5 a0 a1) fun v9 S8 =>
  if v9 = 0 then
  some ((0 : Int32), S8)
  else
  some ((1 : Int32), S8)
set_option maxRecDepth 20000 in
set_option maxHeartbeats 4000000 in
theorem s_M_isPublished {S : AS} {a0 : Option Nat} {a1 : Int32} {r : (Int32 × AS)} (h : f_M_isPublished S a0 a1 = some r) : kr_Con m_M_isPublished 1 [va_rf a0, .int a1] S (kr_eI r) := by
  refine kr_con rfl rfl (by decide +kernel) (by simp [lg_sl, kr_rfcat, kr_icat, m_M_isPublished, mL]) ?_
  rw [show lv_args 0 [va_rf a0, .int a1] = [(0, va_rf a0), (1, .int a1)] from by simp [lv_args, kr_rfcat, kr_icat]]
  unfold f_M_isPublished at h
  refine r_aload_n (i := 0) (x := a0) 0 rfl d_M_isPublished_0 ?_
  refine r_iload_n (i := 1) (x := a1) 1 rfl d_M_isPublished_1 ?_
  refine r_iconst (v := (0 : Int32)) (by decide) d_M_isPublished_2 ?_
  refine r_aload_n (i := 0) (x := a0) 0 rfl d_M_isPublished_3 ?_
  have h2 := kr_ob h
  clear h
  obtain ⟨v1, ev1, h⟩ := h2
  refine r_getI ev1 fk95 rfl d_M_isPublished_4 ?_
  refine r_iconst (v := (1 : Int32)) (by decide) d_M_isPublished_7 ?_
  refine r_isub d_M_isPublished_8 ?_
  have h2 := kr_ob2 h
  clear h
  obtain ⟨v3, S2, eS2, h⟩ := h2
  refine r_callS (M1 := m_M_isIn) (As := [.int a1, .int (0 : Int32), .int (v1 - (1 : Int32))]) (s_M_isIn eS2) mok_M_isIn rfl w1700 w1701 (by decide) (kr_c8 (kr_cR kr_c0)) d_M_isPublished_9 (kr_k1 ?_) kr_kn
  have h2 := kr_ob h
  clear h
  obtain ⟨⟨⟩, eu4, h⟩ := h2
  have h2 := kr_ob2 h
  clear h
  obtain ⟨v6, S5, eS5, h⟩ := h2
  refine r_callV (M1 := m_M_may) (κ := 23) (As := [.int v3]) eu4 (s_M_may eS5) mok_M_may rfl (by decide) rfl w1703 w1705 w42 (by decide) (kr_c8 kr_c0) d_M_isPublished_12 (kr_k1 ?_) kr_kn
  refine r_if_eq (tgt := 30) d_M_isPublished_15 rfl (fun c => ?_) (fun c => ?_)
  · replace h := kr_ip c h
    refine r_iconst (v := (0 : Int32)) (by decide) d_M_isPublished_30 ?_
    cases h
    exact r_zret rfl rfl d_M_isPublished_31
  · replace h := kr_in_ c h
    refine r_aload_n (i := 0) (x := a0) 0 rfl d_M_isPublished_18 ?_
    refine r_iload_n (i := 1) (x := a1) 1 rfl d_M_isPublished_19 ?_
    have h2 := kr_ob h
    clear h
    obtain ⟨⟨⟩, eu7, h⟩ := h2
    have h2 := kr_ob2 h
    clear h
    obtain ⟨v9, S8, eS8, h⟩ := h2
    refine r_callV (M1 := m_M_isOpenKey) (κ := 23) (As := [.int a1]) eu7 (s_M_isOpenKey eS8) mok_M_isOpenKey rfl (by decide) rfl w1990 w1992 w70 (by decide) (kr_c8 kr_c0) d_M_isPublished_20 (kr_k1 ?_) kr_kn
    refine r_if_eq (tgt := 30) d_M_isPublished_23 rfl (fun c => ?_) (fun c => ?_)
    · replace h := kr_ip c h
      refine r_iconst (v := (0 : Int32)) (by decide) d_M_isPublished_30 ?_
      cases h
      exact r_zret rfl rfl d_M_isPublished_31
    · replace h := kr_in_ c h
      refine r_iconst (v := (1 : Int32)) (by decide) d_M_isPublished_26 ?_
      refine r_goto (tgt := 31) d_M_isPublished_27 rfl ?_
      cases h
      exact r_zret rfl rfl d_M_isPublished_31
/-! KeyringCourtModel.line(I)I -/
def f_M_line_B139 (k37 : AS → Option Nat → Int32 → Int32 → Int32 → Option (Int32 × AS)) (S : AS) (x0 : Option Nat) (x1 : Int32) (x3 : Int32) (y0 : Int32) (y1 : Int32) : Option (Int32 × AS) :=
  (some (y0 + y1)).bind fun i1 =>
  (some (x3 + (1 : Int32))).bind fun i2 =>
  k37 S x0 x1 i1 i2
def f_M_line_B127 (k37 : AS → Option Nat → Int32 → Int32 → Int32 → Option (Int32 × AS)) (S : AS) (x0 : Option Nat) (x1 : Int32) (x2 : Int32) (x3 : Int32) (x4 : Int32) (y0 : Option Nat) (y1 : Int32) (y2 : Int32) : Option (Int32 × AS) :=
  (bZ S y0 y1 y2).bind fun S3 =>
  if x4 = 0 then
  f_M_line_B139 k37 S3 x0 x1 x3 x2 (0 : Int32)
  else
  f_M_line_B139 k37 S3 x0 x1 x3 x2 (1 : Int32)
def f_M_line_B122 (k37 : AS → Option Nat → Int32 → Int32 → Int32 → Option (Int32 × AS)) (S : AS) (x0 : Option Nat) (x1 : Int32) (x2 : Int32) (x3 : Int32) (x4 : Int32) (y0 : Option Nat) (y1 : Int32) : Option (Int32 × AS) :=
  f_M_line_B127 k37 S x0 x1 x2 x3 x4 y0 y1 (1 : Int32)
def f_M_line_B91 (k37 : AS → Option Nat → Int32 → Int32 → Int32 → Option (Int32 × AS)) (S : AS) (x0 : Option Nat) (x1 : Int32) (x2 : Int32) (x3 : Int32) (y0 : Int32) : Option (Int32 × AS) :=
  (gR S 23 69 x0).bind fun v4 =>
  (gR S 23 69 x0).bind fun v5 =>
  (aI S 41 v5 (((60 : Int32) * x1) + x3)).bind fun v6 =>
  if v6 = 0 then
  if y0 = 0 then
  f_M_line_B127 k37 S x0 x1 x2 x3 y0 v4 (((60 : Int32) * x1) + x3) (0 : Int32)
  else
  f_M_line_B122 k37 S x0 x1 x2 x3 y0 v4 (((60 : Int32) * x1) + x3)
  else
  f_M_line_B122 k37 S x0 x1 x2 x3 y0 v4 (((60 : Int32) * x1) + x3)
def f_M_line_B90 (k37 : AS → Option Nat → Int32 → Int32 → Int32 → Option (Int32 × AS)) (S : AS) (x0 : Option Nat) (x1 : Int32) (x2 : Int32) (x3 : Int32) : Option (Int32 × AS) :=
  f_M_line_B91 k37 S x0 x1 x2 x3 (0 : Int32)
def f_M_line_C37 (k37 : AS → Option Nat → Int32 → Int32 → Int32 → Option (Int32 × AS)) (S : AS) (x0 : Option Nat) (x1 : Int32) (x2 : Int32) (x3 : Int32) : Option (Int32 × AS) :=
  (gI S 23 46 x0).bind fun v7 =>
  if v7 ≤ x3 then
  some (x2, S)
  else
  (gR S 23 66 x0).bind fun v8 =>
  (aI S 41 v8 x1).bind fun v9 =>
  if v9 = 0 then
  (gR S 23 51 x0).bind fun v10 =>
  (aI S 41 v10 x3).bind fun v11 =>
  if v11 = 0 then
  (gR S 23 69 x0).bind fun v12 =>
  (aI S 41 v12 (((60 : Int32) * x1) + x3)).bind fun v13 =>
  if v13 = 0 then
  (kr_rv S 23 x0).bind fun u14 =>
  kr_b2 (f_M_hears S x0 x1 x3) fun v16 S15 =>
  if v16 = 0 then
  f_M_line_B90 k37 S15 x0 x1 x2 x3
  else
  f_M_line_B91 k37 S15 x0 x1 x2 x3 (1 : Int32)
  else
  f_M_line_B90 k37 S x0 x1 x2 x3
  else
  f_M_line_B90 k37 S x0 x1 x2 x3
  else
  some (x2, S)
def f_M_line_L37 : Nat → AS → Option Nat → Int32 → Int32 → Int32 → Option (Int32 × AS)
  | 0, S, x0, x1, x2, x3 => none
  | n + 1, S, x0, x1, x2, x3 => f_M_line_C37 (f_M_line_L37 n) S x0 x1 x2 x3
def f_M_line_B32 (S : AS) (x0 : Option Nat) (x1 : Int32) (y0 : Option Nat) (y1 : Int32) (y2 : Int32) : Option (Int32 × AS) :=
  (bZ S y0 y1 y2).bind fun S17 =>
  f_M_line_L37 kr_FU S17 x0 x1 (0 : Int32) (0 : Int32)
def f_M_line (S : AS) (a0 : Option Nat) (a1 : Int32) : Option (Int32 × AS) :=
  kr_b2 (f_M_isService S a1) fun v19 S18 =>
  (kr_rv S18 23 a0).bind fun u20 =>
  kr_b2 (f_M_may S18 a0 v19) fun v22 S21 =>
  if v22 = 0 then
  some ((0 : Int32), S21)
  else
  (gR S21 23 66 a0).bind fun v23 =>
  (gR S21 23 66 a0).bind fun v24 =>
  (aI S21 41 v24 a1).bind fun v25 =>
  if v25 = 0 then
  f_M_line_B32 S21 a0 a1 v23 a1 (1 : Int32)
  else
  f_M_line_B32 S21 a0 a1 v23 a1 (0 : Int32)
set_option maxRecDepth 20000 in
set_option maxHeartbeats 4000000 in
theorem s_M_line_B139 {k37 : AS → Option Nat → Int32 → Int32 → Int32 → Option (Int32 × AS)} (hk37 : ∀ {S : AS} {x0 : Option Nat} {x1 : Int32} {x2 : Int32} {x3 : Int32} {r : (Int32 × AS)}, k37 S x0 x1 x2 x3 = some r → kr_AW m_M_line 2 37 [(0, va_rf x0), (1, .int x1), (2, .int x2), (3, .int x3)] [] S (kr_eI r)) {S : AS} {x0 : Option Nat} {x1 : Int32} {x3 : Int32} {y0 : Int32} {y1 : Int32} {r : (Int32 × AS)} (h : f_M_line_B139 k37 S x0 x1 x3 y0 y1 = some r) : kr_AW m_M_line 2 139 [(0, va_rf x0), (1, .int x1), (3, .int x3)] [.int y1, .int y0] S (kr_eI r) := by
  unfold f_M_line_B139 at h
  refine r_iadd d_M_line_139 ?_
  have h2 := kr_ob h
  clear h
  obtain ⟨i1, ei1, h⟩ := h2
  refine kr_nmI ei1 ?_
  refine r_istore_n (i := 2) (lv' := [(2, .int i1), (0, va_rf x0), (1, .int x1), (3, .int x3)]) (by decide) rfl d_M_line_140 ?_
  have h2 := kr_ob h
  clear h
  obtain ⟨i2, ei2, h⟩ := h2
  refine r_iinc (v := i2) (lv' := [(3, .int i2), (2, .int i1), (0, va_rf x0), (1, .int x1)]) 3 rfl (kr_inc (by decide) ei2) (by decide) rfl d_M_line_141 ?_
  refine r_goto (tgt := 37) d_M_line_144 rfl ?_
  exact kr_sub [2, 3, 1, 0] rfl (hk37 h)
set_option maxRecDepth 20000 in
set_option maxHeartbeats 4000000 in
theorem s_M_line_B127 {k37 : AS → Option Nat → Int32 → Int32 → Int32 → Option (Int32 × AS)} (hk37 : ∀ {S : AS} {x0 : Option Nat} {x1 : Int32} {x2 : Int32} {x3 : Int32} {r : (Int32 × AS)}, k37 S x0 x1 x2 x3 = some r → kr_AW m_M_line 2 37 [(0, va_rf x0), (1, .int x1), (2, .int x2), (3, .int x3)] [] S (kr_eI r)) {S : AS} {x0 : Option Nat} {x1 : Int32} {x2 : Int32} {x3 : Int32} {x4 : Int32} {y0 : Option Nat} {y1 : Int32} {y2 : Int32} {r : (Int32 × AS)} (h : f_M_line_B127 k37 S x0 x1 x2 x3 x4 y0 y1 y2 = some r) : kr_AW m_M_line 2 127 [(0, va_rf x0), (1, .int x1), (2, .int x2), (3, .int x3), (4, .int x4)] [.int y2, .int y1, va_rf y0] S (kr_eI r) := by
  unfold f_M_line_B127 at h
  have h2 := kr_ob h
  clear h
  obtain ⟨S3, eS3, h⟩ := h2
  refine r_bastore eS3 d_M_line_127 ?_
  refine r_iload_n (i := 2) (x := x2) 2 rfl d_M_line_128 ?_
  refine r_iload (i := 4) (x := x4) 4 rfl d_M_line_129 ?_
  refine r_if_eq (tgt := 138) d_M_line_131 rfl (fun c => ?_) (fun c => ?_)
  · replace h := kr_ip c h
    refine r_iconst (v := (0 : Int32)) (by decide) d_M_line_138 ?_
    exact kr_sub [0, 1, 3] rfl (s_M_line_B139 hk37 h)
  · replace h := kr_in_ c h
    refine r_iconst (v := (1 : Int32)) (by decide) d_M_line_134 ?_
    refine r_goto (tgt := 139) d_M_line_135 rfl ?_
    exact kr_sub [0, 1, 3] rfl (s_M_line_B139 hk37 h)
set_option maxRecDepth 20000 in
set_option maxHeartbeats 4000000 in
theorem s_M_line_B122 {k37 : AS → Option Nat → Int32 → Int32 → Int32 → Option (Int32 × AS)} (hk37 : ∀ {S : AS} {x0 : Option Nat} {x1 : Int32} {x2 : Int32} {x3 : Int32} {r : (Int32 × AS)}, k37 S x0 x1 x2 x3 = some r → kr_AW m_M_line 2 37 [(0, va_rf x0), (1, .int x1), (2, .int x2), (3, .int x3)] [] S (kr_eI r)) {S : AS} {x0 : Option Nat} {x1 : Int32} {x2 : Int32} {x3 : Int32} {x4 : Int32} {y0 : Option Nat} {y1 : Int32} {r : (Int32 × AS)} (h : f_M_line_B122 k37 S x0 x1 x2 x3 x4 y0 y1 = some r) : kr_AW m_M_line 2 122 [(0, va_rf x0), (1, .int x1), (2, .int x2), (3, .int x3), (4, .int x4)] [.int y1, va_rf y0] S (kr_eI r) := by
  unfold f_M_line_B122 at h
  refine r_iconst (v := (1 : Int32)) (by decide) d_M_line_122 ?_
  refine r_goto (tgt := 127) d_M_line_123 rfl ?_
  exact kr_sub [0, 1, 2, 3, 4] rfl (s_M_line_B127 hk37 h)
set_option maxRecDepth 20000 in
set_option maxHeartbeats 4000000 in
theorem s_M_line_B91 {k37 : AS → Option Nat → Int32 → Int32 → Int32 → Option (Int32 × AS)} (hk37 : ∀ {S : AS} {x0 : Option Nat} {x1 : Int32} {x2 : Int32} {x3 : Int32} {r : (Int32 × AS)}, k37 S x0 x1 x2 x3 = some r → kr_AW m_M_line 2 37 [(0, va_rf x0), (1, .int x1), (2, .int x2), (3, .int x3)] [] S (kr_eI r)) {S : AS} {x0 : Option Nat} {x1 : Int32} {x2 : Int32} {x3 : Int32} {y0 : Int32} {r : (Int32 × AS)} (h : f_M_line_B91 k37 S x0 x1 x2 x3 y0 = some r) : kr_AW m_M_line 2 91 [(0, va_rf x0), (1, .int x1), (2, .int x2), (3, .int x3)] [.int y0] S (kr_eI r) := by
  unfold f_M_line_B91 at h
  refine r_istore (i := 4) (lv' := [(4, .int y0), (0, va_rf x0), (1, .int x1), (2, .int x2), (3, .int x3)]) (by decide) rfl d_M_line_91 ?_
  refine r_aload_n (i := 0) (x := x0) 1 rfl d_M_line_93 ?_
  have h2 := kr_ob h
  clear h
  obtain ⟨v4, ev4, h⟩ := h2
  refine r_getR ev4 fk100 rfl d_M_line_94 ?_
  refine r_bipush (v := (60 : Int32)) (by decide) d_M_line_97 ?_
  refine r_iload_n (i := 1) (x := x1) 2 rfl d_M_line_99 ?_
  refine r_imul d_M_line_100 ?_
  refine r_iload_n (i := 3) (x := x3) 4 rfl d_M_line_101 ?_
  refine r_iadd d_M_line_102 ?_
  refine r_aload_n (i := 0) (x := x0) 1 rfl d_M_line_103 ?_
  have h2 := kr_ob h
  clear h
  obtain ⟨v5, ev5, h⟩ := h2
  refine r_getR ev5 fk100 rfl d_M_line_104 ?_
  refine r_bipush (v := (60 : Int32)) (by decide) d_M_line_107 ?_
  refine r_iload_n (i := 1) (x := x1) 2 rfl d_M_line_109 ?_
  refine r_imul d_M_line_110 ?_
  refine r_iload_n (i := 3) (x := x3) 4 rfl d_M_line_111 ?_
  refine r_iadd d_M_line_112 ?_
  have h2 := kr_ob h
  clear h
  obtain ⟨v6, ev6, h⟩ := h2
  refine r_baload ev6 d_M_line_113 ?_
  refine r_if_ne (tgt := 122) d_M_line_114 rfl (fun c => ?_) (fun c => ?_)
  · replace h := kr_ip c h
    refine r_iload (i := 4) (x := y0) 0 rfl d_M_line_117 ?_
    refine r_if_eq (tgt := 126) d_M_line_119 rfl (fun c => ?_) (fun c => ?_)
    · replace h := kr_ip c h
      refine r_iconst (v := (0 : Int32)) (by decide) d_M_line_126 ?_
      exact kr_sub [1, 2, 3, 4, 0] rfl (s_M_line_B127 hk37 h)
    · replace h := kr_in_ c h
      exact kr_sub [1, 2, 3, 4, 0] rfl (s_M_line_B122 hk37 h)
  · replace h := kr_in_ c h
    exact kr_sub [1, 2, 3, 4, 0] rfl (s_M_line_B122 hk37 h)
set_option maxRecDepth 20000 in
set_option maxHeartbeats 4000000 in
theorem s_M_line_B90 {k37 : AS → Option Nat → Int32 → Int32 → Int32 → Option (Int32 × AS)} (hk37 : ∀ {S : AS} {x0 : Option Nat} {x1 : Int32} {x2 : Int32} {x3 : Int32} {r : (Int32 × AS)}, k37 S x0 x1 x2 x3 = some r → kr_AW m_M_line 2 37 [(0, va_rf x0), (1, .int x1), (2, .int x2), (3, .int x3)] [] S (kr_eI r)) {S : AS} {x0 : Option Nat} {x1 : Int32} {x2 : Int32} {x3 : Int32} {r : (Int32 × AS)} (h : f_M_line_B90 k37 S x0 x1 x2 x3 = some r) : kr_AW m_M_line 2 90 [(0, va_rf x0), (1, .int x1), (2, .int x2), (3, .int x3)] [] S (kr_eI r) := by
  unfold f_M_line_B90 at h
  refine r_iconst (v := (0 : Int32)) (by decide) d_M_line_90 ?_
  exact kr_sub [0, 1, 2, 3] rfl (s_M_line_B91 hk37 h)
set_option maxRecDepth 20000 in
set_option maxHeartbeats 4000000 in
theorem s_M_line_C37 {k37 : AS → Option Nat → Int32 → Int32 → Int32 → Option (Int32 × AS)} (hk37 : ∀ {S : AS} {x0 : Option Nat} {x1 : Int32} {x2 : Int32} {x3 : Int32} {r : (Int32 × AS)}, k37 S x0 x1 x2 x3 = some r → kr_AW m_M_line 2 37 [(0, va_rf x0), (1, .int x1), (2, .int x2), (3, .int x3)] [] S (kr_eI r)) {S : AS} {x0 : Option Nat} {x1 : Int32} {x2 : Int32} {x3 : Int32} {r : (Int32 × AS)} (h : f_M_line_C37 k37 S x0 x1 x2 x3 = some r) : kr_AW m_M_line 2 37 [(0, va_rf x0), (1, .int x1), (2, .int x2), (3, .int x3)] [] S (kr_eI r) := by
  unfold f_M_line_C37 at h
  refine r_iload_n (i := 3) (x := x3) 3 rfl d_M_line_37 ?_
  refine r_aload_n (i := 0) (x := x0) 0 rfl d_M_line_38 ?_
  have h2 := kr_ob h
  clear h
  obtain ⟨v7, ev7, h⟩ := h2
  refine r_getI ev7 fk132 rfl d_M_line_39 ?_
  refine r_icmp_ge (tgt := 147) d_M_line_42 rfl (fun c => ?_) (fun c => ?_)
  · replace h := kr_ip c h
    refine r_iload_n (i := 2) (x := x2) 2 rfl d_M_line_147 ?_
    cases h
    exact r_iret rfl d_M_line_148
  · replace h := kr_in_ c h
    refine r_aload_n (i := 0) (x := x0) 0 rfl d_M_line_45 ?_
    have h2 := kr_ob h
    clear h
    obtain ⟨v8, ev8, h⟩ := h2
    refine r_getR ev8 fk98 rfl d_M_line_46 ?_
    refine r_iload_n (i := 1) (x := x1) 1 rfl d_M_line_49 ?_
    have h2 := kr_ob h
    clear h
    obtain ⟨v9, ev9, h⟩ := h2
    refine r_baload ev9 d_M_line_50 ?_
    refine r_if_ne (tgt := 147) d_M_line_51 rfl (fun c => ?_) (fun c => ?_)
    · replace h := kr_ip c h
      refine r_aload_n (i := 0) (x := x0) 0 rfl d_M_line_54 ?_
      have h2 := kr_ob h
      clear h
      obtain ⟨v10, ev10, h⟩ := h2
      refine r_getR ev10 fk87 rfl d_M_line_55 ?_
      refine r_iload_n (i := 3) (x := x3) 3 rfl d_M_line_58 ?_
      have h2 := kr_ob h
      clear h
      obtain ⟨v11, ev11, h⟩ := h2
      refine r_baload ev11 d_M_line_59 ?_
      refine r_if_ne (tgt := 90) d_M_line_60 rfl (fun c => ?_) (fun c => ?_)
      · replace h := kr_ip c h
        refine r_aload_n (i := 0) (x := x0) 0 rfl d_M_line_63 ?_
        have h2 := kr_ob h
        clear h
        obtain ⟨v12, ev12, h⟩ := h2
        refine r_getR ev12 fk100 rfl d_M_line_64 ?_
        refine r_bipush (v := (60 : Int32)) (by decide) d_M_line_67 ?_
        refine r_iload_n (i := 1) (x := x1) 1 rfl d_M_line_69 ?_
        refine r_imul d_M_line_70 ?_
        refine r_iload_n (i := 3) (x := x3) 3 rfl d_M_line_71 ?_
        refine r_iadd d_M_line_72 ?_
        have h2 := kr_ob h
        clear h
        obtain ⟨v13, ev13, h⟩ := h2
        refine r_baload ev13 d_M_line_73 ?_
        refine r_if_ne (tgt := 90) d_M_line_74 rfl (fun c => ?_) (fun c => ?_)
        · replace h := kr_ip c h
          refine r_aload_n (i := 0) (x := x0) 0 rfl d_M_line_77 ?_
          refine r_iload_n (i := 1) (x := x1) 1 rfl d_M_line_78 ?_
          refine r_iload_n (i := 3) (x := x3) 3 rfl d_M_line_79 ?_
          have h2 := kr_ob h
          clear h
          obtain ⟨⟨⟩, eu14, h⟩ := h2
          have h2 := kr_ob2 h
          clear h
          obtain ⟨v16, S15, eS15, h⟩ := h2
          refine r_callV (M1 := m_M_hears) (κ := 23) (As := [.int x1, .int x3]) eu14 (s_M_hears eS15) mok_M_hears rfl (by decide) rfl w1740 w1742 w48 (by decide) (kr_c8 kr_c0) d_M_line_80 (kr_k1 ?_) kr_kn
          refine r_if_eq (tgt := 90) d_M_line_83 rfl (fun c => ?_) (fun c => ?_)
          · replace h := kr_ip c h
            exact kr_sub [0, 1, 2, 3] rfl (s_M_line_B90 hk37 h)
          · replace h := kr_in_ c h
            refine r_iconst (v := (1 : Int32)) (by decide) d_M_line_86 ?_
            refine r_goto (tgt := 91) d_M_line_87 rfl ?_
            exact kr_sub [0, 1, 2, 3] rfl (s_M_line_B91 hk37 h)
        · replace h := kr_in_ c h
          exact kr_sub [0, 1, 2, 3] rfl (s_M_line_B90 hk37 h)
      · replace h := kr_in_ c h
        exact kr_sub [0, 1, 2, 3] rfl (s_M_line_B90 hk37 h)
    · replace h := kr_in_ c h
      refine r_iload_n (i := 2) (x := x2) 2 rfl d_M_line_147 ?_
      cases h
      exact r_iret rfl d_M_line_148
theorem s_M_line_L37 (n : Nat) : ∀ {S : AS} {x0 : Option Nat} {x1 : Int32} {x2 : Int32} {x3 : Int32} {r : (Int32 × AS)}, f_M_line_L37 n S x0 x1 x2 x3 = some r → kr_AW m_M_line 2 37 [(0, va_rf x0), (1, .int x1), (2, .int x2), (3, .int x3)] [] S (kr_eI r) := by
  induction n with
  | zero => intro S x0 x1 x2 x3 r h; cases h
  | succ n ih => intro S x0 x1 x2 x3 r h; exact s_M_line_C37 (fun {_} {_} {_} {_} {_} {_} h => ih h) h
set_option maxRecDepth 20000 in
set_option maxHeartbeats 4000000 in
theorem s_M_line_B32 {S : AS} {x0 : Option Nat} {x1 : Int32} {y0 : Option Nat} {y1 : Int32} {y2 : Int32} {r : (Int32 × AS)} (h : f_M_line_B32 S x0 x1 y0 y1 y2 = some r) : kr_AW m_M_line 2 32 [(0, va_rf x0), (1, .int x1)] [.int y2, .int y1, va_rf y0] S (kr_eI r) := by
  unfold f_M_line_B32 at h
  have h2 := kr_ob h
  clear h
  obtain ⟨S17, eS17, h⟩ := h2
  refine r_bastore eS17 d_M_line_32 ?_
  refine r_iconst (v := (0 : Int32)) (by decide) d_M_line_33 ?_
  refine r_istore_n (i := 2) (lv' := [(2, .int (0 : Int32)), (0, va_rf x0), (1, .int x1)]) (by decide) rfl d_M_line_34 ?_
  refine r_iconst (v := (0 : Int32)) (by decide) d_M_line_35 ?_
  refine r_istore_n (i := 3) (lv' := [(3, .int (0 : Int32)), (2, .int (0 : Int32)), (0, va_rf x0), (1, .int x1)]) (by decide) rfl d_M_line_36 ?_
  exact kr_sub [2, 3, 1, 0] rfl (s_M_line_L37 kr_FU h)
set_option maxRecDepth 20000 in
set_option maxHeartbeats 4000000 in
theorem s_M_line {S : AS} {a0 : Option Nat} {a1 : Int32} {r : (Int32 × AS)} (h : f_M_line S a0 a1 = some r) : kr_Con m_M_line 2 [va_rf a0, .int a1] S (kr_eI r) := by
  refine kr_con rfl rfl (by decide +kernel) (by simp [lg_sl, kr_rfcat, kr_icat, m_M_line, mL]) ?_
  rw [show lv_args 0 [va_rf a0, .int a1] = [(0, va_rf a0), (1, .int a1)] from by simp [lv_args, kr_rfcat, kr_icat]]
  unfold f_M_line at h
  refine r_aload_n (i := 0) (x := a0) 0 rfl d_M_line_0 ?_
  refine r_iload_n (i := 1) (x := a1) 1 rfl d_M_line_1 ?_
  have h2 := kr_ob2 h
  clear h
  obtain ⟨v19, S18, eS18, h⟩ := h2
  refine r_callS (M1 := m_M_isService) (As := [.int a1]) (s_M_isService eS18) mok_M_isService rfl w1919 w1920 (by decide) (kr_c8 (kr_cR kr_c0)) d_M_line_2 (kr_k1 ?_) kr_kn
  have h2 := kr_ob h
  clear h
  obtain ⟨⟨⟩, eu20, h⟩ := h2
  have h2 := kr_ob2 h
  clear h
  obtain ⟨v22, S21, eS21, h⟩ := h2
  refine r_callV (M1 := m_M_may) (κ := 23) (As := [.int v19]) eu20 (s_M_may eS21) mok_M_may rfl (by decide) rfl w1703 w1705 w42 (by decide) (kr_c8 kr_c0) d_M_line_5 (kr_k1 ?_) kr_kn
  refine r_if_ne (tgt := 13) d_M_line_8 rfl (fun c => ?_) (fun c => ?_)
  · replace h := kr_ip c h
    refine r_iconst (v := (0 : Int32)) (by decide) d_M_line_11 ?_
    cases h
    exact r_iret rfl d_M_line_12
  · replace h := kr_in_ c h
    refine r_aload_n (i := 0) (x := a0) 0 rfl d_M_line_13 ?_
    have h2 := kr_ob h
    clear h
    obtain ⟨v23, ev23, h⟩ := h2
    refine r_getR ev23 fk98 rfl d_M_line_14 ?_
    refine r_iload_n (i := 1) (x := a1) 1 rfl d_M_line_17 ?_
    refine r_aload_n (i := 0) (x := a0) 0 rfl d_M_line_18 ?_
    have h2 := kr_ob h
    clear h
    obtain ⟨v24, ev24, h⟩ := h2
    refine r_getR ev24 fk98 rfl d_M_line_19 ?_
    refine r_iload_n (i := 1) (x := a1) 1 rfl d_M_line_22 ?_
    have h2 := kr_ob h
    clear h
    obtain ⟨v25, ev25, h⟩ := h2
    refine r_baload ev25 d_M_line_23 ?_
    refine r_if_ne (tgt := 31) d_M_line_24 rfl (fun c => ?_) (fun c => ?_)
    · replace h := kr_ip c h
      refine r_iconst (v := (1 : Int32)) (by decide) d_M_line_27 ?_
      refine r_goto (tgt := 32) d_M_line_28 rfl ?_
      exact kr_sub [0, 1] rfl (s_M_line_B32 h)
    · replace h := kr_in_ c h
      refine r_iconst (v := (0 : Int32)) (by decide) d_M_line_31 ?_
      exact kr_sub [0, 1] rfl (s_M_line_B32 h)
/-! KeyringCourtModel.check(III)I -/
def f_M_check_B150 (k119 : AS → Option Nat → Int32 → Int32 → Int32 → Int32 → Option (Int32 × AS)) (S : AS) (x0 : Option Nat) (x1 : Int32) (x2 : Int32) (x3 : Int32) (x5 : Int32) (y0 : Option Nat) (y1 : Int32) (y2 : Int32) (y3 : Int32) : Option (Int32 × AS) :=
  (bI S y0 y1 (y2 ||| y3)).bind fun S1 =>
  (some (x5 + (1 : Int32))).bind fun i2 =>
  k119 S1 x0 x1 x2 x3 i2
def f_M_check_B168 (S : AS) (x0 : Option Nat) (x1 : Int32) (x2 : Int32) (x3 : Int32) : Option (Int32 × AS) :=
  (gR S 23 67 x0).bind fun v3 =>
  (aI S 40 v3 x1).bind fun v4 =>
  (gR S 23 58 x0).bind fun v5 =>
  (aI S 40 v5 x2).bind fun v6 =>
  if ((v4 >>> (v6 &&& 31)) &&& (1 : Int32)) = 0 then
  some ((3 : Int32), S)
  else
  (gR S 23 69 x0).bind fun v7 =>
  (gR S 23 57 x0).bind fun v8 =>
  (aI S 40 v8 x2).bind fun v9 =>
  (aI S 41 v7 (((60 : Int32) * x1) + v9)).bind fun v10 =>
  if v10 = 0 then
  (gR S 23 55 x0).bind fun v11 =>
  (aI S 40 v11 x2).bind fun v12 =>
  if ((v12 >>> (x3 &&& 31)) &&& (1 : Int32)) = 0 then
  some ((5 : Int32), S)
  else
  some ((0 : Int32), S)
  else
  some ((4 : Int32), S)
def f_M_check_C119 (k119 : AS → Option Nat → Int32 → Int32 → Int32 → Int32 → Option (Int32 × AS)) (S : AS) (x0 : Option Nat) (x1 : Int32) (x2 : Int32) (x3 : Int32) (x5 : Int32) : Option (Int32 × AS) :=
  if (20 : Int32) ≤ x5 then
  (gR S 23 68 x0).bind fun v13 =>
  (gI S 23 0 x0).bind fun v14 =>
  (bI S v13 x1 v14).bind fun S15 =>
  f_M_check_B168 S15 x0 x1 x2 x3
  else
  (gR S 23 67 x0).bind fun v16 =>
  (aI S 40 v16 x1).bind fun v17 =>
  (kr_rv S 23 x0).bind fun u18 =>
  kr_b2 (f_M_isOpenKey S x0 x5) fun v20 S19 =>
  if v20 = 0 then
  f_M_check_B150 k119 S19 x0 x1 x2 x3 x5 v16 x1 v17 (0 : Int32)
  else
  f_M_check_B150 k119 S19 x0 x1 x2 x3 x5 v16 x1 v17 ((1 : Int32) <<< (x5 &&& 31))
def f_M_check_L119 : Nat → AS → Option Nat → Int32 → Int32 → Int32 → Int32 → Option (Int32 × AS)
  | 0, S, x0, x1, x2, x3, x5 => none
  | n + 1, S, x0, x1, x2, x3, x5 => f_M_check_C119 (f_M_check_L119 n) S x0 x1 x2 x3 x5
def f_M_check_B109 (S : AS) (x0 : Option Nat) (x1 : Int32) (x2 : Int32) (x3 : Int32) : Option (Int32 × AS) :=
  (gR S 23 67 x0).bind fun v21 =>
  (bI S v21 x1 (0 : Int32)).bind fun S22 =>
  f_M_check_L119 kr_FU S22 x0 x1 x2 x3 (0 : Int32)
def f_M_check_B20 (S : AS) (x0 : Option Nat) (x1 : Int32) (x2 : Int32) (x3 : Int32) (y0 : Int32) : Option (Int32 × AS) :=
  kr_b2 (f_M_isIn S x3 (0 : Int32) (3 : Int32)) fun v24 S23 =>
  (kr_rv S23 23 x0).bind fun u25 =>
  kr_b2 (f_M_mayBoth S23 x0 y0 v24) fun v27 S26 =>
  if v27 = 0 then
  some ((0 : Int32), S26)
  else
  (gR S26 23 54 x0).bind fun v28 =>
  (aI S26 40 v28 x2).bind fun v29 =>
  if v29 = x1 then
  (gI S26 23 0 x0).bind fun v30 =>
  (gR S26 23 59 x0).bind fun v31 =>
  (aI S26 40 v31 x2).bind fun v32 =>
  if v30 ≤ v32 then
  (gR S26 23 66 x0).bind fun v33 =>
  (aI S26 41 v33 x1).bind fun v34 =>
  if v34 = 0 then
  (gI S26 23 0 x0).bind fun v35 =>
  (gR S26 23 68 x0).bind fun v36 =>
  (aI S26 40 v36 x1).bind fun v37 =>
  if (15 : Int32) < (v35 - v37) then
  f_M_check_B109 S26 x0 x1 x2 x3
  else
  (gR S26 23 67 x0).bind fun v38 =>
  (aI S26 40 v38 x1).bind fun v39 =>
  (gR S26 23 58 x0).bind fun v40 =>
  (aI S26 40 v40 x2).bind fun v41 =>
  if ((v39 >>> (v41 &&& 31)) &&& (1 : Int32)) = 0 then
  f_M_check_B109 S26 x0 x1 x2 x3
  else
  f_M_check_B168 S26 x0 x1 x2 x3
  else
  f_M_check_B168 S26 x0 x1 x2 x3
  else
  some ((2 : Int32), S26)
  else
  some ((1 : Int32), S26)
def f_M_check_B19 (S : AS) (x0 : Option Nat) (x1 : Int32) (x2 : Int32) (x3 : Int32) : Option (Int32 × AS) :=
  f_M_check_B20 S x0 x1 x2 x3 (0 : Int32)
def f_M_check (S : AS) (a0 : Option Nat) (a1 : Int32) (a2 : Int32) (a3 : Int32) : Option (Int32 × AS) :=
  kr_b2 (f_M_isService S a1) fun v43 S42 =>
  if v43 = 0 then
  f_M_check_B19 S42 a0 a1 a2 a3
  else
  (kr_rv S42 23 a0).bind fun u44 =>
  kr_b2 (f_M_isToken S42 a0 a2) fun v46 S45 =>
  if v46 = 0 then
  f_M_check_B19 S45 a0 a1 a2 a3
  else
  f_M_check_B20 S45 a0 a1 a2 a3 (1 : Int32)
set_option maxRecDepth 20000 in
set_option maxHeartbeats 4000000 in
theorem s_M_check_B150 {k119 : AS → Option Nat → Int32 → Int32 → Int32 → Int32 → Option (Int32 × AS)} (hk119 : ∀ {S : AS} {x0 : Option Nat} {x1 : Int32} {x2 : Int32} {x3 : Int32} {x5 : Int32} {r : (Int32 × AS)}, k119 S x0 x1 x2 x3 x5 = some r → kr_AW m_M_check 2 119 [(0, va_rf x0), (1, .int x1), (2, .int x2), (3, .int x3), (5, .int x5)] [] S (kr_eI r)) {S : AS} {x0 : Option Nat} {x1 : Int32} {x2 : Int32} {x3 : Int32} {x5 : Int32} {y0 : Option Nat} {y1 : Int32} {y2 : Int32} {y3 : Int32} {r : (Int32 × AS)} (h : f_M_check_B150 k119 S x0 x1 x2 x3 x5 y0 y1 y2 y3 = some r) : kr_AW m_M_check 2 150 [(0, va_rf x0), (1, .int x1), (2, .int x2), (3, .int x3), (5, .int x5)] [.int y3, .int y2, .int y1, va_rf y0] S (kr_eI r) := by
  unfold f_M_check_B150 at h
  refine r_ior d_M_check_150 ?_
  have h2 := kr_ob h
  clear h
  obtain ⟨S1, eS1, h⟩ := h2
  refine r_iastore eS1 d_M_check_151 ?_
  have h2 := kr_ob h
  clear h
  obtain ⟨i2, ei2, h⟩ := h2
  refine r_iinc (v := i2) (lv' := [(5, .int i2), (0, va_rf x0), (1, .int x1), (2, .int x2), (3, .int x3)]) 4 rfl (kr_inc (by decide) ei2) (by decide) rfl d_M_check_152 ?_
  refine r_goto (tgt := 119) d_M_check_155 rfl ?_
  exact kr_sub [1, 2, 3, 4, 0] rfl (hk119 h)
set_option maxRecDepth 20000 in
set_option maxHeartbeats 4000000 in
theorem s_M_check_B168 {S : AS} {x0 : Option Nat} {x1 : Int32} {x2 : Int32} {x3 : Int32} {r : (Int32 × AS)} (h : f_M_check_B168 S x0 x1 x2 x3 = some r) : kr_AW m_M_check 2 168 [(0, va_rf x0), (1, .int x1), (2, .int x2), (3, .int x3)] [] S (kr_eI r) := by
  unfold f_M_check_B168 at h
  refine r_aload_n (i := 0) (x := x0) 0 rfl d_M_check_168 ?_
  have h2 := kr_ob h
  clear h
  obtain ⟨v3, ev3, h⟩ := h2
  refine r_getR ev3 fk41 rfl d_M_check_169 ?_
  refine r_iload_n (i := 1) (x := x1) 1 rfl d_M_check_172 ?_
  have h2 := kr_ob h
  clear h
  obtain ⟨v4, ev4, h⟩ := h2
  refine r_iaload ev4 d_M_check_173 ?_
  refine r_aload_n (i := 0) (x := x0) 0 rfl d_M_check_174 ?_
  have h2 := kr_ob h
  clear h
  obtain ⟨v5, ev5, h⟩ := h2
  refine r_getR ev5 fk93 rfl d_M_check_175 ?_
  refine r_iload_n (i := 2) (x := x2) 2 rfl d_M_check_178 ?_
  have h2 := kr_ob h
  clear h
  obtain ⟨v6, ev6, h⟩ := h2
  refine r_iaload ev6 d_M_check_179 ?_
  refine r_ishr d_M_check_180 ?_
  refine r_iconst (v := (1 : Int32)) (by decide) d_M_check_181 ?_
  refine r_iand d_M_check_182 ?_
  refine r_if_ne (tgt := 188) d_M_check_183 rfl (fun c => ?_) (fun c => ?_)
  · replace h := kr_ip c h
    refine r_iconst (v := (3 : Int32)) (by decide) d_M_check_186 ?_
    cases h
    exact r_iret rfl d_M_check_187
  · replace h := kr_in_ c h
    refine r_aload_n (i := 0) (x := x0) 0 rfl d_M_check_188 ?_
    have h2 := kr_ob h
    clear h
    obtain ⟨v7, ev7, h⟩ := h2
    refine r_getR ev7 fk100 rfl d_M_check_189 ?_
    refine r_bipush (v := (60 : Int32)) (by decide) d_M_check_192 ?_
    refine r_iload_n (i := 1) (x := x1) 1 rfl d_M_check_194 ?_
    refine r_imul d_M_check_195 ?_
    refine r_aload_n (i := 0) (x := x0) 0 rfl d_M_check_196 ?_
    have h2 := kr_ob h
    clear h
    obtain ⟨v8, ev8, h⟩ := h2
    refine r_getR ev8 fk92 rfl d_M_check_197 ?_
    refine r_iload_n (i := 2) (x := x2) 2 rfl d_M_check_200 ?_
    have h2 := kr_ob h
    clear h
    obtain ⟨v9, ev9, h⟩ := h2
    refine r_iaload ev9 d_M_check_201 ?_
    refine r_iadd d_M_check_202 ?_
    have h2 := kr_ob h
    clear h
    obtain ⟨v10, ev10, h⟩ := h2
    refine r_baload ev10 d_M_check_203 ?_
    refine r_if_eq (tgt := 209) d_M_check_204 rfl (fun c => ?_) (fun c => ?_)
    · replace h := kr_ip c h
      refine r_aload_n (i := 0) (x := x0) 0 rfl d_M_check_209 ?_
      have h2 := kr_ob h
      clear h
      obtain ⟨v11, ev11, h⟩ := h2
      refine r_getR ev11 fk90 rfl d_M_check_210 ?_
      refine r_iload_n (i := 2) (x := x2) 2 rfl d_M_check_213 ?_
      have h2 := kr_ob h
      clear h
      obtain ⟨v12, ev12, h⟩ := h2
      refine r_iaload ev12 d_M_check_214 ?_
      refine r_iload_n (i := 3) (x := x3) 3 rfl d_M_check_215 ?_
      refine r_ishr d_M_check_216 ?_
      refine r_iconst (v := (1 : Int32)) (by decide) d_M_check_217 ?_
      refine r_iand d_M_check_218 ?_
      refine r_if_ne (tgt := 226) d_M_check_219 rfl (fun c => ?_) (fun c => ?_)
      · replace h := kr_ip c h
        refine r_iconst (v := (5 : Int32)) (by decide) d_M_check_222 ?_
        refine r_goto (tgt := 227) d_M_check_223 rfl ?_
        cases h
        exact r_iret rfl d_M_check_227
      · replace h := kr_in_ c h
        refine r_iconst (v := (0 : Int32)) (by decide) d_M_check_226 ?_
        cases h
        exact r_iret rfl d_M_check_227
    · replace h := kr_in_ c h
      refine r_iconst (v := (4 : Int32)) (by decide) d_M_check_207 ?_
      cases h
      exact r_iret rfl d_M_check_208
set_option maxRecDepth 20000 in
set_option maxHeartbeats 4000000 in
theorem s_M_check_C119 {k119 : AS → Option Nat → Int32 → Int32 → Int32 → Int32 → Option (Int32 × AS)} (hk119 : ∀ {S : AS} {x0 : Option Nat} {x1 : Int32} {x2 : Int32} {x3 : Int32} {x5 : Int32} {r : (Int32 × AS)}, k119 S x0 x1 x2 x3 x5 = some r → kr_AW m_M_check 2 119 [(0, va_rf x0), (1, .int x1), (2, .int x2), (3, .int x3), (5, .int x5)] [] S (kr_eI r)) {S : AS} {x0 : Option Nat} {x1 : Int32} {x2 : Int32} {x3 : Int32} {x5 : Int32} {r : (Int32 × AS)} (h : f_M_check_C119 k119 S x0 x1 x2 x3 x5 = some r) : kr_AW m_M_check 2 119 [(0, va_rf x0), (1, .int x1), (2, .int x2), (3, .int x3), (5, .int x5)] [] S (kr_eI r) := by
  unfold f_M_check_C119 at h
  refine r_iload (i := 5) (x := x5) 4 rfl d_M_check_119 ?_
  refine r_bipush (v := (20 : Int32)) (by decide) d_M_check_121 ?_
  refine r_icmp_ge (tgt := 158) d_M_check_123 rfl (fun c => ?_) (fun c => ?_)
  · replace h := kr_ip c h
    refine r_aload_n (i := 0) (x := x0) 0 rfl d_M_check_158 ?_
    have h2 := kr_ob h
    clear h
    obtain ⟨v13, ev13, h⟩ := h2
    refine r_getR ev13 fk99 rfl d_M_check_159 ?_
    refine r_iload_n (i := 1) (x := x1) 1 rfl d_M_check_162 ?_
    refine r_aload_n (i := 0) (x := x0) 0 rfl d_M_check_163 ?_
    have h2 := kr_ob h
    clear h
    obtain ⟨v14, ev14, h⟩ := h2
    refine r_getI ev14 fk130 rfl d_M_check_164 ?_
    have h2 := kr_ob h
    clear h
    obtain ⟨S15, eS15, h⟩ := h2
    refine r_iastore eS15 d_M_check_167 ?_
    exact kr_sub [0, 1, 2, 3] rfl (s_M_check_B168 h)
  · replace h := kr_in_ c h
    refine r_aload_n (i := 0) (x := x0) 0 rfl d_M_check_126 ?_
    have h2 := kr_ob h
    clear h
    obtain ⟨v16, ev16, h⟩ := h2
    refine r_getR ev16 fk41 rfl d_M_check_127 ?_
    refine r_iload_n (i := 1) (x := x1) 1 rfl d_M_check_130 ?_
    refine r_dup2 rfl (kr_rfcat _) d_M_check_131 ?_
    have h2 := kr_ob h
    clear h
    obtain ⟨v17, ev17, h⟩ := h2
    refine r_iaload ev17 d_M_check_132 ?_
    refine r_aload_n (i := 0) (x := x0) 0 rfl d_M_check_133 ?_
    refine r_iload (i := 5) (x := x5) 4 rfl d_M_check_134 ?_
    have h2 := kr_ob h
    clear h
    obtain ⟨⟨⟩, eu18, h⟩ := h2
    have h2 := kr_ob2 h
    clear h
    obtain ⟨v20, S19, eS19, h⟩ := h2
    refine r_callV (M1 := m_M_isOpenKey) (κ := 23) (As := [.int x5]) eu18 (s_M_isOpenKey eS19) mok_M_isOpenKey rfl (by decide) rfl w1990 w1992 w70 (by decide) (kr_c8 (kr_cI (kr_cI (kr_cR kr_c0)))) d_M_check_136 (kr_k1 ?_) kr_kn
    refine r_if_eq (tgt := 149) d_M_check_139 rfl (fun c => ?_) (fun c => ?_)
    · replace h := kr_ip c h
      refine r_iconst (v := (0 : Int32)) (by decide) d_M_check_149 ?_
      exact kr_sub [0, 1, 2, 3, 4] rfl (s_M_check_B150 hk119 h)
    · replace h := kr_in_ c h
      refine r_iconst (v := (1 : Int32)) (by decide) d_M_check_142 ?_
      refine r_iload (i := 5) (x := x5) 4 rfl d_M_check_143 ?_
      refine r_ishl d_M_check_145 ?_
      refine r_goto (tgt := 150) d_M_check_146 rfl ?_
      exact kr_sub [0, 1, 2, 3, 4] rfl (s_M_check_B150 hk119 h)
theorem s_M_check_L119 (n : Nat) : ∀ {S : AS} {x0 : Option Nat} {x1 : Int32} {x2 : Int32} {x3 : Int32} {x5 : Int32} {r : (Int32 × AS)}, f_M_check_L119 n S x0 x1 x2 x3 x5 = some r → kr_AW m_M_check 2 119 [(0, va_rf x0), (1, .int x1), (2, .int x2), (3, .int x3), (5, .int x5)] [] S (kr_eI r) := by
  induction n with
  | zero => intro S x0 x1 x2 x3 x5 r h; cases h
  | succ n ih => intro S x0 x1 x2 x3 x5 r h; exact s_M_check_C119 (fun {_} {_} {_} {_} {_} {_} {_} h => ih h) h
set_option maxRecDepth 20000 in
set_option maxHeartbeats 4000000 in
theorem s_M_check_B109 {S : AS} {x0 : Option Nat} {x1 : Int32} {x2 : Int32} {x3 : Int32} {r : (Int32 × AS)} (h : f_M_check_B109 S x0 x1 x2 x3 = some r) : kr_AW m_M_check 2 109 [(0, va_rf x0), (1, .int x1), (2, .int x2), (3, .int x3)] [] S (kr_eI r) := by
  unfold f_M_check_B109 at h
  refine r_aload_n (i := 0) (x := x0) 0 rfl d_M_check_109 ?_
  have h2 := kr_ob h
  clear h
  obtain ⟨v21, ev21, h⟩ := h2
  refine r_getR ev21 fk41 rfl d_M_check_110 ?_
  refine r_iload_n (i := 1) (x := x1) 1 rfl d_M_check_113 ?_
  refine r_iconst (v := (0 : Int32)) (by decide) d_M_check_114 ?_
  have h2 := kr_ob h
  clear h
  obtain ⟨S22, eS22, h⟩ := h2
  refine r_iastore eS22 d_M_check_115 ?_
  refine r_iconst (v := (0 : Int32)) (by decide) d_M_check_116 ?_
  refine r_istore (i := 5) (lv' := [(5, .int (0 : Int32)), (0, va_rf x0), (1, .int x1), (2, .int x2), (3, .int x3)]) (by decide) rfl d_M_check_117 ?_
  exact kr_sub [1, 2, 3, 4, 0] rfl (s_M_check_L119 kr_FU h)
set_option maxRecDepth 20000 in
set_option maxHeartbeats 4000000 in
theorem s_M_check_B20 {S : AS} {x0 : Option Nat} {x1 : Int32} {x2 : Int32} {x3 : Int32} {y0 : Int32} {r : (Int32 × AS)} (h : f_M_check_B20 S x0 x1 x2 x3 y0 = some r) : kr_AW m_M_check 2 20 [(0, va_rf x0), (1, .int x1), (2, .int x2), (3, .int x3)] [.int y0] S (kr_eI r) := by
  unfold f_M_check_B20 at h
  refine r_istore (i := 4) (lv' := [(4, .int y0), (0, va_rf x0), (1, .int x1), (2, .int x2), (3, .int x3)]) (by decide) rfl d_M_check_20 ?_
  refine r_aload_n (i := 0) (x := x0) 1 rfl d_M_check_22 ?_
  refine r_iload (i := 4) (x := y0) 0 rfl d_M_check_23 ?_
  refine r_iload_n (i := 3) (x := x3) 4 rfl d_M_check_25 ?_
  refine r_iconst (v := (0 : Int32)) (by decide) d_M_check_26 ?_
  refine r_iconst (v := (3 : Int32)) (by decide) d_M_check_27 ?_
  have h2 := kr_ob2 h
  clear h
  obtain ⟨v24, S23, eS23, h⟩ := h2
  refine r_callS (M1 := m_M_isIn) (As := [.int x3, .int (0 : Int32), .int (3 : Int32)]) (s_M_isIn eS23) mok_M_isIn rfl w1700 w1701 (by decide) (kr_c8 (kr_cI (kr_cR kr_c0))) d_M_check_28 (kr_k1 ?_) kr_kn
  have h2 := kr_ob h
  clear h
  obtain ⟨⟨⟩, eu25, h⟩ := h2
  have h2 := kr_ob2 h
  clear h
  obtain ⟨v27, S26, eS26, h⟩ := h2
  refine r_callV (M1 := m_M_mayBoth) (κ := 23) (As := [.int y0, .int v24]) eu25 (s_M_mayBoth eS26) mok_M_mayBoth rfl (by decide) rfl w1720 w1722 w43 (by decide) (kr_c8 kr_c0) d_M_check_31 (kr_k1 ?_) kr_kn
  refine r_if_ne (tgt := 39) d_M_check_34 rfl (fun c => ?_) (fun c => ?_)
  · replace h := kr_ip c h
    refine r_iconst (v := (0 : Int32)) (by decide) d_M_check_37 ?_
    cases h
    exact r_iret rfl d_M_check_38
  · replace h := kr_in_ c h
    refine r_aload_n (i := 0) (x := x0) 1 rfl d_M_check_39 ?_
    have h2 := kr_ob h
    clear h
    obtain ⟨v28, ev28, h⟩ := h2
    refine r_getR ev28 fk89 rfl d_M_check_40 ?_
    refine r_iload_n (i := 2) (x := x2) 3 rfl d_M_check_43 ?_
    have h2 := kr_ob h
    clear h
    obtain ⟨v29, ev29, h⟩ := h2
    refine r_iaload ev29 d_M_check_44 ?_
    refine r_iload_n (i := 1) (x := x1) 2 rfl d_M_check_45 ?_
    refine r_icmp_eq (tgt := 51) d_M_check_46 rfl (fun c => ?_) (fun c => ?_)
    · replace h := kr_ip c h
      refine r_aload_n (i := 0) (x := x0) 1 rfl d_M_check_51 ?_
      have h2 := kr_ob h
      clear h
      obtain ⟨v30, ev30, h⟩ := h2
      refine r_getI ev30 fk130 rfl d_M_check_52 ?_
      refine r_aload_n (i := 0) (x := x0) 1 rfl d_M_check_55 ?_
      have h2 := kr_ob h
      clear h
      obtain ⟨v31, ev31, h⟩ := h2
      refine r_getR ev31 fk94 rfl d_M_check_56 ?_
      refine r_iload_n (i := 2) (x := x2) 3 rfl d_M_check_59 ?_
      have h2 := kr_ob h
      clear h
      obtain ⟨v32, ev32, h⟩ := h2
      refine r_iaload ev32 d_M_check_60 ?_
      refine r_icmp_le (tgt := 66) d_M_check_61 rfl (fun c => ?_) (fun c => ?_)
      · replace h := kr_ip c h
        refine r_aload_n (i := 0) (x := x0) 1 rfl d_M_check_66 ?_
        have h2 := kr_ob h
        clear h
        obtain ⟨v33, ev33, h⟩ := h2
        refine r_getR ev33 fk98 rfl d_M_check_67 ?_
        refine r_iload_n (i := 1) (x := x1) 2 rfl d_M_check_70 ?_
        have h2 := kr_ob h
        clear h
        obtain ⟨v34, ev34, h⟩ := h2
        refine r_baload ev34 d_M_check_71 ?_
        refine r_if_ne (tgt := 168) d_M_check_72 rfl (fun c => ?_) (fun c => ?_)
        · replace h := kr_ip c h
          refine r_aload_n (i := 0) (x := x0) 1 rfl d_M_check_75 ?_
          have h2 := kr_ob h
          clear h
          obtain ⟨v35, ev35, h⟩ := h2
          refine r_getI ev35 fk130 rfl d_M_check_76 ?_
          refine r_aload_n (i := 0) (x := x0) 1 rfl d_M_check_79 ?_
          have h2 := kr_ob h
          clear h
          obtain ⟨v36, ev36, h⟩ := h2
          refine r_getR ev36 fk99 rfl d_M_check_80 ?_
          refine r_iload_n (i := 1) (x := x1) 2 rfl d_M_check_83 ?_
          have h2 := kr_ob h
          clear h
          obtain ⟨v37, ev37, h⟩ := h2
          refine r_iaload ev37 d_M_check_84 ?_
          refine r_isub d_M_check_85 ?_
          refine r_bipush (v := (15 : Int32)) (by decide) d_M_check_86 ?_
          refine r_icmp_gt (tgt := 109) d_M_check_88 rfl (fun c => ?_) (fun c => ?_)
          · replace h := kr_ip c h
            exact kr_sub [1, 2, 3, 4] rfl (s_M_check_B109 h)
          · replace h := kr_in_ c h
            refine r_aload_n (i := 0) (x := x0) 1 rfl d_M_check_91 ?_
            have h2 := kr_ob h
            clear h
            obtain ⟨v38, ev38, h⟩ := h2
            refine r_getR ev38 fk41 rfl d_M_check_92 ?_
            refine r_iload_n (i := 1) (x := x1) 2 rfl d_M_check_95 ?_
            have h2 := kr_ob h
            clear h
            obtain ⟨v39, ev39, h⟩ := h2
            refine r_iaload ev39 d_M_check_96 ?_
            refine r_aload_n (i := 0) (x := x0) 1 rfl d_M_check_97 ?_
            have h2 := kr_ob h
            clear h
            obtain ⟨v40, ev40, h⟩ := h2
            refine r_getR ev40 fk93 rfl d_M_check_98 ?_
            refine r_iload_n (i := 2) (x := x2) 3 rfl d_M_check_101 ?_
            have h2 := kr_ob h
            clear h
            obtain ⟨v41, ev41, h⟩ := h2
            refine r_iaload ev41 d_M_check_102 ?_
            refine r_ishr d_M_check_103 ?_
            refine r_iconst (v := (1 : Int32)) (by decide) d_M_check_104 ?_
            refine r_iand d_M_check_105 ?_
            refine r_if_ne (tgt := 168) d_M_check_106 rfl (fun c => ?_) (fun c => ?_)
            · replace h := kr_ip c h
              exact kr_sub [1, 2, 3, 4] rfl (s_M_check_B109 h)
            · replace h := kr_in_ c h
              exact kr_sub [1, 2, 3, 4] rfl (s_M_check_B168 h)
        · replace h := kr_in_ c h
          exact kr_sub [1, 2, 3, 4] rfl (s_M_check_B168 h)
      · replace h := kr_in_ c h
        refine r_iconst (v := (2 : Int32)) (by decide) d_M_check_64 ?_
        cases h
        exact r_iret rfl d_M_check_65
    · replace h := kr_in_ c h
      refine r_iconst (v := (1 : Int32)) (by decide) d_M_check_49 ?_
      cases h
      exact r_iret rfl d_M_check_50
set_option maxRecDepth 20000 in
set_option maxHeartbeats 4000000 in
theorem s_M_check_B19 {S : AS} {x0 : Option Nat} {x1 : Int32} {x2 : Int32} {x3 : Int32} {r : (Int32 × AS)} (h : f_M_check_B19 S x0 x1 x2 x3 = some r) : kr_AW m_M_check 2 19 [(0, va_rf x0), (1, .int x1), (2, .int x2), (3, .int x3)] [] S (kr_eI r) := by
  unfold f_M_check_B19 at h
  refine r_iconst (v := (0 : Int32)) (by decide) d_M_check_19 ?_
  exact kr_sub [0, 1, 2, 3] rfl (s_M_check_B20 h)
set_option maxRecDepth 20000 in
set_option maxHeartbeats 4000000 in
theorem s_M_check {S : AS} {a0 : Option Nat} {a1 : Int32} {a2 : Int32} {a3 : Int32} {r : (Int32 × AS)} (h : f_M_check S a0 a1 a2 a3 = some r) : kr_Con m_M_check 2 [va_rf a0, .int a1, .int a2, .int a3] S (kr_eI r) := by
  refine kr_con rfl rfl (by decide +kernel) (by simp [lg_sl, kr_rfcat, kr_icat, m_M_check, mL]) ?_
  rw [show lv_args 0 [va_rf a0, .int a1, .int a2, .int a3] = [(0, va_rf a0), (1, .int a1), (2, .int a2), (3, .int a3)] from by simp [lv_args, kr_rfcat, kr_icat]]
  unfold f_M_check at h
  refine r_iload_n (i := 1) (x := a1) 1 rfl d_M_check_0 ?_
  have h2 := kr_ob2 h
  clear h
  obtain ⟨v43, S42, eS42, h⟩ := h2
  refine r_callS (M1 := m_M_isService) (As := [.int a1]) (s_M_isService eS42) mok_M_isService rfl w1919 w1920 (by decide) (kr_c8 kr_c0) d_M_check_1 (kr_k1 ?_) kr_kn
  refine r_if_eq (tgt := 19) d_M_check_4 rfl (fun c => ?_) (fun c => ?_)
  · replace h := kr_ip c h
    exact kr_sub [0, 1, 2, 3] rfl (s_M_check_B19 h)
  · replace h := kr_in_ c h
    refine r_aload_n (i := 0) (x := a0) 0 rfl d_M_check_7 ?_
    refine r_iload_n (i := 2) (x := a2) 2 rfl d_M_check_8 ?_
    have h2 := kr_ob h
    clear h
    obtain ⟨⟨⟩, eu44, h⟩ := h2
    have h2 := kr_ob2 h
    clear h
    obtain ⟨v46, S45, eS45, h⟩ := h2
    refine r_callV (M1 := m_M_isToken) (κ := 23) (As := [.int a2]) eu44 (s_M_isToken eS45) mok_M_isToken rfl (by decide) rfl w1966 w1968 w69 (by decide) (kr_c8 kr_c0) d_M_check_9 (kr_k1 ?_) kr_kn
    refine r_if_eq (tgt := 19) d_M_check_12 rfl (fun c => ?_) (fun c => ?_)
    · replace h := kr_ip c h
      exact kr_sub [0, 1, 2, 3] rfl (s_M_check_B19 h)
    · replace h := kr_in_ c h
      refine r_iconst (v := (1 : Int32)) (by decide) d_M_check_15 ?_
      refine r_goto (tgt := 20) d_M_check_16 rfl ?_
      exact kr_sub [0, 1, 2, 3] rfl (s_M_check_B20 h)
/-! KeyringCourtModel.lag(I)I -/
def f_M_lag_B70 (S : AS) (x0 : Option Nat) (x1 : Int32) (y0 : Int32) : Option (Int32 × AS) :=
  if y0 = 0 then
  some ((0 : Int32), S)
  else
  (gR S 23 59 x0).bind fun v1 =>
  (aI S 40 v1 x1).bind fun v2 =>
  (gI S 23 0 x0).bind fun v3 =>
  some ((v2 - v3) + (1 : Int32), S)
def f_M_lag_B69 (S : AS) (x0 : Option Nat) (x1 : Int32) : Option (Int32 × AS) :=
  f_M_lag_B70 S x0 x1 (0 : Int32)
def f_M_lag (S : AS) (a0 : Option Nat) (a1 : Int32) : Option (Int32 × AS) :=
  (kr_rv S 23 a0).bind fun u4 =>
  kr_b2 (f_M_isToken S a0 a1) fun v6 S5 =>
  (kr_rv S5 23 a0).bind fun u7 =>
  kr_b2 (f_M_may S5 a0 v6) fun v9 S8 =>
  if v9 = 0 then
  some ((0 : Int32), S8)
  else
  (gR S8 23 51 a0).bind fun v10 =>
  (gR S8 23 57 a0).bind fun v11 =>
  (aI S8 40 v11 a1).bind fun v12 =>
  (aI S8 41 v10 v12).bind fun v13 =>
  if v13 = 0 then
  (gR S8 23 69 a0).bind fun v14 =>
  (gR S8 23 54 a0).bind fun v15 =>
  (aI S8 40 v15 a1).bind fun v16 =>
  (gR S8 23 57 a0).bind fun v17 =>
  (aI S8 40 v17 a1).bind fun v18 =>
  (aI S8 41 v14 (((60 : Int32) * v16) + v18)).bind fun v19 =>
  if v19 = 0 then
  (gI S8 23 0 a0).bind fun v20 =>
  (gR S8 23 59 a0).bind fun v21 =>
  (aI S8 40 v21 a1).bind fun v22 =>
  if v22 < v20 then
  f_M_lag_B69 S8 a0 a1
  else
  f_M_lag_B70 S8 a0 a1 (1 : Int32)
  else
  f_M_lag_B69 S8 a0 a1
  else
  f_M_lag_B69 S8 a0 a1
set_option maxRecDepth 20000 in
set_option maxHeartbeats 4000000 in
theorem s_M_lag_B70 {S : AS} {x0 : Option Nat} {x1 : Int32} {y0 : Int32} {r : (Int32 × AS)} (h : f_M_lag_B70 S x0 x1 y0 = some r) : kr_AW m_M_lag 2 70 [(0, va_rf x0), (1, .int x1)] [.int y0] S (kr_eI r) := by
  unfold f_M_lag_B70 at h
  refine r_istore_n (i := 2) (lv' := [(2, .int y0), (0, va_rf x0), (1, .int x1)]) (by decide) rfl d_M_lag_70 ?_
  refine r_iload_n (i := 2) (x := y0) 0 rfl d_M_lag_71 ?_
  refine r_if_eq (tgt := 91) d_M_lag_72 rfl (fun c => ?_) (fun c => ?_)
  · replace h := kr_ip c h
    refine r_iconst (v := (0 : Int32)) (by decide) d_M_lag_91 ?_
    cases h
    exact r_iret rfl d_M_lag_92
  · replace h := kr_in_ c h
    refine r_aload_n (i := 0) (x := x0) 1 rfl d_M_lag_75 ?_
    have h2 := kr_ob h
    clear h
    obtain ⟨v1, ev1, h⟩ := h2
    refine r_getR ev1 fk94 rfl d_M_lag_76 ?_
    refine r_iload_n (i := 1) (x := x1) 2 rfl d_M_lag_79 ?_
    have h2 := kr_ob h
    clear h
    obtain ⟨v2, ev2, h⟩ := h2
    refine r_iaload ev2 d_M_lag_80 ?_
    refine r_aload_n (i := 0) (x := x0) 1 rfl d_M_lag_81 ?_
    have h2 := kr_ob h
    clear h
    obtain ⟨v3, ev3, h⟩ := h2
    refine r_getI ev3 fk130 rfl d_M_lag_82 ?_
    refine r_isub d_M_lag_85 ?_
    refine r_iconst (v := (1 : Int32)) (by decide) d_M_lag_86 ?_
    refine r_iadd d_M_lag_87 ?_
    refine r_goto (tgt := 92) d_M_lag_88 rfl ?_
    cases h
    exact r_iret rfl d_M_lag_92
set_option maxRecDepth 20000 in
set_option maxHeartbeats 4000000 in
theorem s_M_lag_B69 {S : AS} {x0 : Option Nat} {x1 : Int32} {r : (Int32 × AS)} (h : f_M_lag_B69 S x0 x1 = some r) : kr_AW m_M_lag 2 69 [(0, va_rf x0), (1, .int x1)] [] S (kr_eI r) := by
  unfold f_M_lag_B69 at h
  refine r_iconst (v := (0 : Int32)) (by decide) d_M_lag_69 ?_
  exact kr_sub [0, 1] rfl (s_M_lag_B70 h)
set_option maxRecDepth 20000 in
set_option maxHeartbeats 4000000 in
theorem s_M_lag {S : AS} {a0 : Option Nat} {a1 : Int32} {r : (Int32 × AS)} (h : f_M_lag S a0 a1 = some r) : kr_Con m_M_lag 2 [va_rf a0, .int a1] S (kr_eI r) := by
  refine kr_con rfl rfl (by decide +kernel) (by simp [lg_sl, kr_rfcat, kr_icat, m_M_lag, mL]) ?_
  rw [show lv_args 0 [va_rf a0, .int a1] = [(0, va_rf a0), (1, .int a1)] from by simp [lv_args, kr_rfcat, kr_icat]]
  unfold f_M_lag at h
  refine r_aload_n (i := 0) (x := a0) 0 rfl d_M_lag_0 ?_
  refine r_aload_n (i := 0) (x := a0) 0 rfl d_M_lag_1 ?_
  refine r_iload_n (i := 1) (x := a1) 1 rfl d_M_lag_2 ?_
  have h2 := kr_ob h
  clear h
  obtain ⟨⟨⟩, eu4, h⟩ := h2
  have h2 := kr_ob2 h
  clear h
  obtain ⟨v6, S5, eS5, h⟩ := h2
  refine r_callV (M1 := m_M_isToken) (κ := 23) (As := [.int a1]) eu4 (s_M_isToken eS5) mok_M_isToken rfl (by decide) rfl w1966 w1968 w69 (by decide) (kr_c8 (kr_cR kr_c0)) d_M_lag_3 (kr_k1 ?_) kr_kn
  have h2 := kr_ob h
  clear h
  obtain ⟨⟨⟩, eu7, h⟩ := h2
  have h2 := kr_ob2 h
  clear h
  obtain ⟨v9, S8, eS8, h⟩ := h2
  refine r_callV (M1 := m_M_may) (κ := 23) (As := [.int v6]) eu7 (s_M_may eS8) mok_M_may rfl (by decide) rfl w1703 w1705 w42 (by decide) (kr_c8 kr_c0) d_M_lag_6 (kr_k1 ?_) kr_kn
  refine r_if_ne (tgt := 14) d_M_lag_9 rfl (fun c => ?_) (fun c => ?_)
  · replace h := kr_ip c h
    refine r_iconst (v := (0 : Int32)) (by decide) d_M_lag_12 ?_
    cases h
    exact r_iret rfl d_M_lag_13
  · replace h := kr_in_ c h
    refine r_aload_n (i := 0) (x := a0) 0 rfl d_M_lag_14 ?_
    have h2 := kr_ob h
    clear h
    obtain ⟨v10, ev10, h⟩ := h2
    refine r_getR ev10 fk87 rfl d_M_lag_15 ?_
    refine r_aload_n (i := 0) (x := a0) 0 rfl d_M_lag_18 ?_
    have h2 := kr_ob h
    clear h
    obtain ⟨v11, ev11, h⟩ := h2
    refine r_getR ev11 fk92 rfl d_M_lag_19 ?_
    refine r_iload_n (i := 1) (x := a1) 1 rfl d_M_lag_22 ?_
    have h2 := kr_ob h
    clear h
    obtain ⟨v12, ev12, h⟩ := h2
    refine r_iaload ev12 d_M_lag_23 ?_
    have h2 := kr_ob h
    clear h
    obtain ⟨v13, ev13, h⟩ := h2
    refine r_baload ev13 d_M_lag_24 ?_
    refine r_if_ne (tgt := 69) d_M_lag_25 rfl (fun c => ?_) (fun c => ?_)
    · replace h := kr_ip c h
      refine r_aload_n (i := 0) (x := a0) 0 rfl d_M_lag_28 ?_
      have h2 := kr_ob h
      clear h
      obtain ⟨v14, ev14, h⟩ := h2
      refine r_getR ev14 fk100 rfl d_M_lag_29 ?_
      refine r_bipush (v := (60 : Int32)) (by decide) d_M_lag_32 ?_
      refine r_aload_n (i := 0) (x := a0) 0 rfl d_M_lag_34 ?_
      have h2 := kr_ob h
      clear h
      obtain ⟨v15, ev15, h⟩ := h2
      refine r_getR ev15 fk89 rfl d_M_lag_35 ?_
      refine r_iload_n (i := 1) (x := a1) 1 rfl d_M_lag_38 ?_
      have h2 := kr_ob h
      clear h
      obtain ⟨v16, ev16, h⟩ := h2
      refine r_iaload ev16 d_M_lag_39 ?_
      refine r_imul d_M_lag_40 ?_
      refine r_aload_n (i := 0) (x := a0) 0 rfl d_M_lag_41 ?_
      have h2 := kr_ob h
      clear h
      obtain ⟨v17, ev17, h⟩ := h2
      refine r_getR ev17 fk92 rfl d_M_lag_42 ?_
      refine r_iload_n (i := 1) (x := a1) 1 rfl d_M_lag_45 ?_
      have h2 := kr_ob h
      clear h
      obtain ⟨v18, ev18, h⟩ := h2
      refine r_iaload ev18 d_M_lag_46 ?_
      refine r_iadd d_M_lag_47 ?_
      have h2 := kr_ob h
      clear h
      obtain ⟨v19, ev19, h⟩ := h2
      refine r_baload ev19 d_M_lag_48 ?_
      refine r_if_ne (tgt := 69) d_M_lag_49 rfl (fun c => ?_) (fun c => ?_)
      · replace h := kr_ip c h
        refine r_aload_n (i := 0) (x := a0) 0 rfl d_M_lag_52 ?_
        have h2 := kr_ob h
        clear h
        obtain ⟨v20, ev20, h⟩ := h2
        refine r_getI ev20 fk130 rfl d_M_lag_53 ?_
        refine r_aload_n (i := 0) (x := a0) 0 rfl d_M_lag_56 ?_
        have h2 := kr_ob h
        clear h
        obtain ⟨v21, ev21, h⟩ := h2
        refine r_getR ev21 fk94 rfl d_M_lag_57 ?_
        refine r_iload_n (i := 1) (x := a1) 1 rfl d_M_lag_60 ?_
        have h2 := kr_ob h
        clear h
        obtain ⟨v22, ev22, h⟩ := h2
        refine r_iaload ev22 d_M_lag_61 ?_
        refine r_icmp_gt (tgt := 69) d_M_lag_62 rfl (fun c => ?_) (fun c => ?_)
        · replace h := kr_ip c h
          exact kr_sub [0, 1] rfl (s_M_lag_B69 h)
        · replace h := kr_in_ c h
          refine r_iconst (v := (1 : Int32)) (by decide) d_M_lag_65 ?_
          refine r_goto (tgt := 70) d_M_lag_66 rfl ?_
          exact kr_sub [0, 1] rfl (s_M_lag_B70 h)
      · replace h := kr_in_ c h
        exact kr_sub [0, 1] rfl (s_M_lag_B69 h)
    · replace h := kr_in_ c h
      exact kr_sub [0, 1] rfl (s_M_lag_B69 h)
/-! KeyringCourtModel.recover(I)I -/
def f_M_recover_B75 (k36 : AS → Option Nat → Int32 → Int32 → Int32 → Int32 → Option (Int32 × AS)) (S : AS) (x0 : Option Nat) (x1 : Int32) (x2 : Int32) (x4 : Int32) (y0 : Int32) : Option (Int32 × AS) :=
  (some (x4 + (1 : Int32))).bind fun i1 =>
  k36 S x0 x1 x2 y0 i1
def f_M_recover_B70 (k36 : AS → Option Nat → Int32 → Int32 → Int32 → Int32 → Option (Int32 × AS)) (S : AS) (x0 : Option Nat) (x1 : Int32) (x2 : Int32) (x4 : Int32) : Option (Int32 × AS) :=
  f_M_recover_B75 k36 S x0 x1 x2 x4 (1 : Int32)
def f_M_recover_B74 (k36 : AS → Option Nat → Int32 → Int32 → Int32 → Int32 → Option (Int32 × AS)) (S : AS) (x0 : Option Nat) (x1 : Int32) (x2 : Int32) (x4 : Int32) : Option (Int32 × AS) :=
  f_M_recover_B75 k36 S x0 x1 x2 x4 (0 : Int32)
def f_M_recover_C36 (k36 : AS → Option Nat → Int32 → Int32 → Int32 → Int32 → Option (Int32 × AS)) (S : AS) (x0 : Option Nat) (x1 : Int32) (x2 : Int32) (x3 : Int32) (x4 : Int32) : Option (Int32 × AS) :=
  (gI S 23 70 x0).bind fun v2 =>
  if v2 ≤ x4 then
  (kr_rv S 23 x0).bind fun u3 =>
  kr_b2 (f_M_mayBoth S x0 x2 x3) fun v5 S4 =>
  if v5 = 0 then
  some ((0 : Int32), S4)
  else
  (gR S4 23 71 x0).bind fun v6 =>
  (gI S4 23 70 x0).bind fun v7 =>
  (bI S4 v6 v7 x1).bind fun S8 =>
  (gR S8 23 72 x0).bind fun v9 =>
  (gI S8 23 70 x0).bind fun v10 =>
  (gI S8 23 0 x0).bind fun v11 =>
  (bI S8 v9 v10 v11).bind fun S12 =>
  (gR S12 23 73 x0).bind fun v13 =>
  (gI S12 23 70 x0).bind fun v14 =>
  (bZ S12 v13 v14 (1 : Int32)).bind fun S15 =>
  (gI S15 23 70 x0).bind fun v16 =>
  (pI S15 23 70 x0 (v16 + (1 : Int32))).bind fun S17 =>
  (gI S17 23 70 x0).bind fun v18 =>
  some (v18 - (1 : Int32), S17)
  else
  if x3 = 0 then
  f_M_recover_B74 k36 S x0 x1 x2 x4
  else
  (gR S 23 73 x0).bind fun v19 =>
  (aI S 41 v19 x4).bind fun v20 =>
  if v20 = 0 then
  f_M_recover_B70 k36 S x0 x1 x2 x4
  else
  (gR S 23 71 x0).bind fun v21 =>
  (aI S 40 v21 x4).bind fun v22 =>
  if v22 = x1 then
  f_M_recover_B74 k36 S x0 x1 x2 x4
  else
  f_M_recover_B70 k36 S x0 x1 x2 x4
def f_M_recover_L36 : Nat → AS → Option Nat → Int32 → Int32 → Int32 → Int32 → Option (Int32 × AS)
  | 0, S, x0, x1, x2, x3, x4 => none
  | n + 1, S, x0, x1, x2, x3, x4 => f_M_recover_C36 (f_M_recover_L36 n) S x0 x1 x2 x3 x4
def f_M_recover_B32 (S : AS) (x0 : Option Nat) (x1 : Int32) (x2 : Int32) (y0 : Int32) : Option (Int32 × AS) :=
  f_M_recover_L36 kr_FU S x0 x1 x2 y0 (0 : Int32)
def f_M_recover_B31 (S : AS) (x0 : Option Nat) (x1 : Int32) (x2 : Int32) : Option (Int32 × AS) :=
  f_M_recover_B32 S x0 x1 x2 (0 : Int32)
def f_M_recover (S : AS) (a0 : Option Nat) (a1 : Int32) : Option (Int32 × AS) :=
  kr_b2 (f_M_isSix S a1) fun v24 S23 =>
  if v24 = 0 then
  f_M_recover_B31 S23 a0 a1 v24
  else
  (gR S23 23 7 a0).bind fun v25 =>
  (aI S23 41 v25 a1).bind fun v26 =>
  if v26 = 0 then
  (gI S23 23 70 a0).bind fun v27 =>
  if (20 : Int32) ≤ v27 then
  f_M_recover_B31 S23 a0 a1 v24
  else
  f_M_recover_B32 S23 a0 a1 v24 (1 : Int32)
  else
  f_M_recover_B31 S23 a0 a1 v24
set_option maxRecDepth 20000 in
set_option maxHeartbeats 4000000 in
theorem s_M_recover_B75 {k36 : AS → Option Nat → Int32 → Int32 → Int32 → Int32 → Option (Int32 × AS)} (hk36 : ∀ {S : AS} {x0 : Option Nat} {x1 : Int32} {x2 : Int32} {x3 : Int32} {x4 : Int32} {r : (Int32 × AS)}, k36 S x0 x1 x2 x3 x4 = some r → kr_AW m_M_recover 2 36 [(0, va_rf x0), (1, .int x1), (2, .int x2), (3, .int x3), (4, .int x4)] [] S (kr_eI r)) {S : AS} {x0 : Option Nat} {x1 : Int32} {x2 : Int32} {x4 : Int32} {y0 : Int32} {r : (Int32 × AS)} (h : f_M_recover_B75 k36 S x0 x1 x2 x4 y0 = some r) : kr_AW m_M_recover 2 75 [(0, va_rf x0), (1, .int x1), (2, .int x2), (4, .int x4)] [.int y0] S (kr_eI r) := by
  unfold f_M_recover_B75 at h
  refine r_istore_n (i := 3) (lv' := [(3, .int y0), (0, va_rf x0), (1, .int x1), (2, .int x2), (4, .int x4)]) (by decide) rfl d_M_recover_75 ?_
  have h2 := kr_ob h
  clear h
  obtain ⟨i1, ei1, h⟩ := h2
  refine r_iinc (v := i1) (lv' := [(4, .int i1), (3, .int y0), (0, va_rf x0), (1, .int x1), (2, .int x2)]) 4 rfl (kr_inc (by decide) ei1) (by decide) rfl d_M_recover_76 ?_
  refine r_goto (tgt := 36) d_M_recover_79 rfl ?_
  exact kr_sub [2, 3, 4, 1, 0] rfl (hk36 h)
set_option maxRecDepth 20000 in
set_option maxHeartbeats 4000000 in
theorem s_M_recover_B70 {k36 : AS → Option Nat → Int32 → Int32 → Int32 → Int32 → Option (Int32 × AS)} (hk36 : ∀ {S : AS} {x0 : Option Nat} {x1 : Int32} {x2 : Int32} {x3 : Int32} {x4 : Int32} {r : (Int32 × AS)}, k36 S x0 x1 x2 x3 x4 = some r → kr_AW m_M_recover 2 36 [(0, va_rf x0), (1, .int x1), (2, .int x2), (3, .int x3), (4, .int x4)] [] S (kr_eI r)) {S : AS} {x0 : Option Nat} {x1 : Int32} {x2 : Int32} {x4 : Int32} {r : (Int32 × AS)} (h : f_M_recover_B70 k36 S x0 x1 x2 x4 = some r) : kr_AW m_M_recover 2 70 [(0, va_rf x0), (1, .int x1), (2, .int x2), (4, .int x4)] [] S (kr_eI r) := by
  unfold f_M_recover_B70 at h
  refine r_iconst (v := (1 : Int32)) (by decide) d_M_recover_70 ?_
  refine r_goto (tgt := 75) d_M_recover_71 rfl ?_
  exact kr_sub [0, 1, 2, 3] rfl (s_M_recover_B75 hk36 h)
set_option maxRecDepth 20000 in
set_option maxHeartbeats 4000000 in
theorem s_M_recover_B74 {k36 : AS → Option Nat → Int32 → Int32 → Int32 → Int32 → Option (Int32 × AS)} (hk36 : ∀ {S : AS} {x0 : Option Nat} {x1 : Int32} {x2 : Int32} {x3 : Int32} {x4 : Int32} {r : (Int32 × AS)}, k36 S x0 x1 x2 x3 x4 = some r → kr_AW m_M_recover 2 36 [(0, va_rf x0), (1, .int x1), (2, .int x2), (3, .int x3), (4, .int x4)] [] S (kr_eI r)) {S : AS} {x0 : Option Nat} {x1 : Int32} {x2 : Int32} {x4 : Int32} {r : (Int32 × AS)} (h : f_M_recover_B74 k36 S x0 x1 x2 x4 = some r) : kr_AW m_M_recover 2 74 [(0, va_rf x0), (1, .int x1), (2, .int x2), (4, .int x4)] [] S (kr_eI r) := by
  unfold f_M_recover_B74 at h
  refine r_iconst (v := (0 : Int32)) (by decide) d_M_recover_74 ?_
  exact kr_sub [0, 1, 2, 3] rfl (s_M_recover_B75 hk36 h)
set_option maxRecDepth 20000 in
set_option maxHeartbeats 4000000 in
theorem s_M_recover_C36 {k36 : AS → Option Nat → Int32 → Int32 → Int32 → Int32 → Option (Int32 × AS)} (hk36 : ∀ {S : AS} {x0 : Option Nat} {x1 : Int32} {x2 : Int32} {x3 : Int32} {x4 : Int32} {r : (Int32 × AS)}, k36 S x0 x1 x2 x3 x4 = some r → kr_AW m_M_recover 2 36 [(0, va_rf x0), (1, .int x1), (2, .int x2), (3, .int x3), (4, .int x4)] [] S (kr_eI r)) {S : AS} {x0 : Option Nat} {x1 : Int32} {x2 : Int32} {x3 : Int32} {x4 : Int32} {r : (Int32 × AS)} (h : f_M_recover_C36 k36 S x0 x1 x2 x3 x4 = some r) : kr_AW m_M_recover 2 36 [(0, va_rf x0), (1, .int x1), (2, .int x2), (3, .int x3), (4, .int x4)] [] S (kr_eI r) := by
  unfold f_M_recover_C36 at h
  refine r_iload (i := 4) (x := x4) 4 rfl d_M_recover_36 ?_
  refine r_aload_n (i := 0) (x := x0) 0 rfl d_M_recover_38 ?_
  have h2 := kr_ob h
  clear h
  obtain ⟨v2, ev2, h⟩ := h2
  refine r_getI ev2 fk220 rfl d_M_recover_39 ?_
  refine r_icmp_ge (tgt := 82) d_M_recover_42 rfl (fun c => ?_) (fun c => ?_)
  · replace h := kr_ip c h
    refine r_aload_n (i := 0) (x := x0) 0 rfl d_M_recover_82 ?_
    refine r_iload_n (i := 2) (x := x2) 2 rfl d_M_recover_83 ?_
    refine r_iload_n (i := 3) (x := x3) 3 rfl d_M_recover_84 ?_
    have h2 := kr_ob h
    clear h
    obtain ⟨⟨⟩, eu3, h⟩ := h2
    have h2 := kr_ob2 h
    clear h
    obtain ⟨v5, S4, eS4, h⟩ := h2
    refine r_callV (M1 := m_M_mayBoth) (κ := 23) (As := [.int x2, .int x3]) eu3 (s_M_mayBoth eS4) mok_M_mayBoth rfl (by decide) rfl w1720 w1722 w43 (by decide) (kr_c8 kr_c0) d_M_recover_85 (kr_k1 ?_) kr_kn
    refine r_if_ne (tgt := 93) d_M_recover_88 rfl (fun c => ?_) (fun c => ?_)
    · replace h := kr_ip c h
      refine r_iconst (v := (0 : Int32)) (by decide) d_M_recover_91 ?_
      cases h
      exact r_iret rfl d_M_recover_92
    · replace h := kr_in_ c h
      refine r_aload_n (i := 0) (x := x0) 0 rfl d_M_recover_93 ?_
      have h2 := kr_ob h
      clear h
      obtain ⟨v6, ev6, h⟩ := h2
      refine r_getR ev6 fk101 rfl d_M_recover_94 ?_
      refine r_aload_n (i := 0) (x := x0) 0 rfl d_M_recover_97 ?_
      have h2 := kr_ob h
      clear h
      obtain ⟨v7, ev7, h⟩ := h2
      refine r_getI ev7 fk220 rfl d_M_recover_98 ?_
      refine r_iload_n (i := 1) (x := x1) 1 rfl d_M_recover_101 ?_
      have h2 := kr_ob h
      clear h
      obtain ⟨S8, eS8, h⟩ := h2
      refine r_iastore eS8 d_M_recover_102 ?_
      refine r_aload_n (i := 0) (x := x0) 0 rfl d_M_recover_103 ?_
      have h2 := kr_ob h
      clear h
      obtain ⟨v9, ev9, h⟩ := h2
      refine r_getR ev9 fk102 rfl d_M_recover_104 ?_
      refine r_aload_n (i := 0) (x := x0) 0 rfl d_M_recover_107 ?_
      have h2 := kr_ob h
      clear h
      obtain ⟨v10, ev10, h⟩ := h2
      refine r_getI ev10 fk220 rfl d_M_recover_108 ?_
      refine r_aload_n (i := 0) (x := x0) 0 rfl d_M_recover_111 ?_
      have h2 := kr_ob h
      clear h
      obtain ⟨v11, ev11, h⟩ := h2
      refine r_getI ev11 fk130 rfl d_M_recover_112 ?_
      have h2 := kr_ob h
      clear h
      obtain ⟨S12, eS12, h⟩ := h2
      refine r_iastore eS12 d_M_recover_115 ?_
      refine r_aload_n (i := 0) (x := x0) 0 rfl d_M_recover_116 ?_
      have h2 := kr_ob h
      clear h
      obtain ⟨v13, ev13, h⟩ := h2
      refine r_getR ev13 fk103 rfl d_M_recover_117 ?_
      refine r_aload_n (i := 0) (x := x0) 0 rfl d_M_recover_120 ?_
      have h2 := kr_ob h
      clear h
      obtain ⟨v14, ev14, h⟩ := h2
      refine r_getI ev14 fk220 rfl d_M_recover_121 ?_
      refine r_iconst (v := (1 : Int32)) (by decide) d_M_recover_124 ?_
      have h2 := kr_ob h
      clear h
      obtain ⟨S15, eS15, h⟩ := h2
      refine r_bastore eS15 d_M_recover_125 ?_
      refine r_aload_n (i := 0) (x := x0) 0 rfl d_M_recover_126 ?_
      refine r_dup (kr_rfcat _) d_M_recover_127 ?_
      have h2 := kr_ob h
      clear h
      obtain ⟨v16, ev16, h⟩ := h2
      refine r_getI ev16 fk220 rfl d_M_recover_128 ?_
      refine r_iconst (v := (1 : Int32)) (by decide) d_M_recover_131 ?_
      refine r_iadd d_M_recover_132 ?_
      have h2 := kr_ob h
      clear h
      obtain ⟨S17, eS17, h⟩ := h2
      refine r_putI eS17 fk220 (Or.inl rfl) rfl d_M_recover_133 ?_
      refine r_aload_n (i := 0) (x := x0) 0 rfl d_M_recover_136 ?_
      have h2 := kr_ob h
      clear h
      obtain ⟨v18, ev18, h⟩ := h2
      refine r_getI ev18 fk220 rfl d_M_recover_137 ?_
      refine r_iconst (v := (1 : Int32)) (by decide) d_M_recover_140 ?_
      refine r_isub d_M_recover_141 ?_
      cases h
      exact r_iret rfl d_M_recover_142
  · replace h := kr_in_ c h
    refine r_iload_n (i := 3) (x := x3) 3 rfl d_M_recover_45 ?_
    refine r_if_eq (tgt := 74) d_M_recover_46 rfl (fun c => ?_) (fun c => ?_)
    · replace h := kr_ip c h
      exact kr_sub [0, 1, 2, 4] rfl (s_M_recover_B74 hk36 h)
    · replace h := kr_in_ c h
      refine r_aload_n (i := 0) (x := x0) 0 rfl d_M_recover_49 ?_
      have h2 := kr_ob h
      clear h
      obtain ⟨v19, ev19, h⟩ := h2
      refine r_getR ev19 fk103 rfl d_M_recover_50 ?_
      refine r_iload (i := 4) (x := x4) 4 rfl d_M_recover_53 ?_
      have h2 := kr_ob h
      clear h
      obtain ⟨v20, ev20, h⟩ := h2
      refine r_baload ev20 d_M_recover_55 ?_
      refine r_if_eq (tgt := 70) d_M_recover_56 rfl (fun c => ?_) (fun c => ?_)
      · replace h := kr_ip c h
        exact kr_sub [0, 1, 2, 4] rfl (s_M_recover_B70 hk36 h)
      · replace h := kr_in_ c h
        refine r_aload_n (i := 0) (x := x0) 0 rfl d_M_recover_59 ?_
        have h2 := kr_ob h
        clear h
        obtain ⟨v21, ev21, h⟩ := h2
        refine r_getR ev21 fk101 rfl d_M_recover_60 ?_
        refine r_iload (i := 4) (x := x4) 4 rfl d_M_recover_63 ?_
        have h2 := kr_ob h
        clear h
        obtain ⟨v22, ev22, h⟩ := h2
        refine r_iaload ev22 d_M_recover_65 ?_
        refine r_iload_n (i := 1) (x := x1) 1 rfl d_M_recover_66 ?_
        refine r_icmp_eq (tgt := 74) d_M_recover_67 rfl (fun c => ?_) (fun c => ?_)
        · replace h := kr_ip c h
          exact kr_sub [0, 1, 2, 4] rfl (s_M_recover_B74 hk36 h)
        · replace h := kr_in_ c h
          exact kr_sub [0, 1, 2, 4] rfl (s_M_recover_B70 hk36 h)
theorem s_M_recover_L36 (n : Nat) : ∀ {S : AS} {x0 : Option Nat} {x1 : Int32} {x2 : Int32} {x3 : Int32} {x4 : Int32} {r : (Int32 × AS)}, f_M_recover_L36 n S x0 x1 x2 x3 x4 = some r → kr_AW m_M_recover 2 36 [(0, va_rf x0), (1, .int x1), (2, .int x2), (3, .int x3), (4, .int x4)] [] S (kr_eI r) := by
  induction n with
  | zero => intro S x0 x1 x2 x3 x4 r h; cases h
  | succ n ih => intro S x0 x1 x2 x3 x4 r h; exact s_M_recover_C36 (fun {_} {_} {_} {_} {_} {_} {_} h => ih h) h
set_option maxRecDepth 20000 in
set_option maxHeartbeats 4000000 in
theorem s_M_recover_B32 {S : AS} {x0 : Option Nat} {x1 : Int32} {x2 : Int32} {y0 : Int32} {r : (Int32 × AS)} (h : f_M_recover_B32 S x0 x1 x2 y0 = some r) : kr_AW m_M_recover 2 32 [(0, va_rf x0), (1, .int x1), (2, .int x2)] [.int y0] S (kr_eI r) := by
  unfold f_M_recover_B32 at h
  refine r_istore_n (i := 3) (lv' := [(3, .int y0), (0, va_rf x0), (1, .int x1), (2, .int x2)]) (by decide) rfl d_M_recover_32 ?_
  refine r_iconst (v := (0 : Int32)) (by decide) d_M_recover_33 ?_
  refine r_istore (i := 4) (lv' := [(4, .int (0 : Int32)), (3, .int y0), (0, va_rf x0), (1, .int x1), (2, .int x2)]) (by decide) rfl d_M_recover_34 ?_
  exact kr_sub [2, 3, 4, 1, 0] rfl (s_M_recover_L36 kr_FU h)
set_option maxRecDepth 20000 in
set_option maxHeartbeats 4000000 in
theorem s_M_recover_B31 {S : AS} {x0 : Option Nat} {x1 : Int32} {x2 : Int32} {r : (Int32 × AS)} (h : f_M_recover_B31 S x0 x1 x2 = some r) : kr_AW m_M_recover 2 31 [(0, va_rf x0), (1, .int x1), (2, .int x2)] [] S (kr_eI r) := by
  unfold f_M_recover_B31 at h
  refine r_iconst (v := (0 : Int32)) (by decide) d_M_recover_31 ?_
  exact kr_sub [0, 1, 2] rfl (s_M_recover_B32 h)
set_option maxRecDepth 20000 in
set_option maxHeartbeats 4000000 in
theorem s_M_recover {S : AS} {a0 : Option Nat} {a1 : Int32} {r : (Int32 × AS)} (h : f_M_recover S a0 a1 = some r) : kr_Con m_M_recover 2 [va_rf a0, .int a1] S (kr_eI r) := by
  refine kr_con rfl rfl (by decide +kernel) (by simp [lg_sl, kr_rfcat, kr_icat, m_M_recover, mL]) ?_
  rw [show lv_args 0 [va_rf a0, .int a1] = [(0, va_rf a0), (1, .int a1)] from by simp [lv_args, kr_rfcat, kr_icat]]
  unfold f_M_recover at h
  refine r_iload_n (i := 1) (x := a1) 1 rfl d_M_recover_0 ?_
  have h2 := kr_ob2 h
  clear h
  obtain ⟨v24, S23, eS23, h⟩ := h2
  refine r_callS (M1 := m_M_isSix) (As := [.int a1]) (s_M_isSix eS23) mok_M_isSix rfl w1748 w1749 (by decide) (kr_c8 kr_c0) d_M_recover_1 (kr_k1 ?_) kr_kn
  refine r_istore_n (i := 2) (lv' := [(2, .int v24), (0, va_rf a0), (1, .int a1)]) (by decide) rfl d_M_recover_4 ?_
  refine r_iload_n (i := 2) (x := v24) 0 rfl d_M_recover_5 ?_
  refine r_if_eq (tgt := 31) d_M_recover_6 rfl (fun c => ?_) (fun c => ?_)
  · replace h := kr_ip c h
    exact kr_sub [1, 2, 0] rfl (s_M_recover_B31 h)
  · replace h := kr_in_ c h
    refine r_aload_n (i := 0) (x := a0) 1 rfl d_M_recover_9 ?_
    have h2 := kr_ob h
    clear h
    obtain ⟨v25, ev25, h⟩ := h2
    refine r_getR ev25 fk50 rfl d_M_recover_10 ?_
    refine r_iload_n (i := 1) (x := a1) 2 rfl d_M_recover_13 ?_
    have h2 := kr_ob h
    clear h
    obtain ⟨v26, ev26, h⟩ := h2
    refine r_baload ev26 d_M_recover_14 ?_
    refine r_if_ne (tgt := 31) d_M_recover_15 rfl (fun c => ?_) (fun c => ?_)
    · replace h := kr_ip c h
      refine r_aload_n (i := 0) (x := a0) 1 rfl d_M_recover_18 ?_
      have h2 := kr_ob h
      clear h
      obtain ⟨v27, ev27, h⟩ := h2
      refine r_getI ev27 fk220 rfl d_M_recover_19 ?_
      refine r_bipush (v := (20 : Int32)) (by decide) d_M_recover_22 ?_
      refine r_icmp_ge (tgt := 31) d_M_recover_24 rfl (fun c => ?_) (fun c => ?_)
      · replace h := kr_ip c h
        exact kr_sub [1, 2, 0] rfl (s_M_recover_B31 h)
      · replace h := kr_in_ c h
        refine r_iconst (v := (1 : Int32)) (by decide) d_M_recover_27 ?_
        refine r_goto (tgt := 32) d_M_recover_28 rfl ?_
        exact kr_sub [1, 2, 0] rfl (s_M_recover_B32 h)
    · replace h := kr_in_ c h
      exact kr_sub [1, 2, 0] rfl (s_M_recover_B31 h)
/-! KeyringCourtModel.isRecovery(I)Z -/
def f_M_isRecovery (S : AS) (a0 : Option Nat) (a1 : Int32) : Option (Int32 × AS) :=
  (gI S 23 70 a0).bind fun v1 =>
  kr_b2 (f_M_isIn S a1 (0 : Int32) (v1 - (1 : Int32))) fun v3 S2 =>
  (kr_z v3).bind fun u4 =>
  some (v3, S2)
set_option maxRecDepth 20000 in
set_option maxHeartbeats 4000000 in
theorem s_M_isRecovery {S : AS} {a0 : Option Nat} {a1 : Int32} {r : (Int32 × AS)} (h : f_M_isRecovery S a0 a1 = some r) : kr_Con m_M_isRecovery 1 [va_rf a0, .int a1] S (kr_eI r) := by
  refine kr_con rfl rfl (by decide +kernel) (by simp [lg_sl, kr_rfcat, kr_icat, m_M_isRecovery, mL]) ?_
  rw [show lv_args 0 [va_rf a0, .int a1] = [(0, va_rf a0), (1, .int a1)] from by simp [lv_args, kr_rfcat, kr_icat]]
  unfold f_M_isRecovery at h
  refine r_iload_n (i := 1) (x := a1) 1 rfl d_M_isRecovery_0 ?_
  refine r_iconst (v := (0 : Int32)) (by decide) d_M_isRecovery_1 ?_
  refine r_aload_n (i := 0) (x := a0) 0 rfl d_M_isRecovery_2 ?_
  have h2 := kr_ob h
  clear h
  obtain ⟨v1, ev1, h⟩ := h2
  refine r_getI ev1 fk220 rfl d_M_isRecovery_3 ?_
  refine r_iconst (v := (1 : Int32)) (by decide) d_M_isRecovery_6 ?_
  refine r_isub d_M_isRecovery_7 ?_
  have h2 := kr_ob2 h
  clear h
  obtain ⟨v3, S2, eS2, h⟩ := h2
  refine r_callS (M1 := m_M_isIn) (As := [.int a1, .int (0 : Int32), .int (v1 - (1 : Int32))]) (s_M_isIn eS2) mok_M_isIn rfl w1700 w1701 (by decide) (kr_c8 kr_c0) d_M_isRecovery_8 (kr_k1 ?_) kr_kn
  have h2 := kr_ob h
  clear h
  obtain ⟨⟨⟩, eu4, h⟩ := h2
  cases h
  exact r_zret rfl eu4 d_M_isRecovery_11
/-! KeyringCourtModel.speaks(I)Z -/
def f_M_speaks (S : AS) (a0 : Option Nat) (a1 : Int32) : Option (Int32 × AS) :=
  (gR S 23 35 a0).bind fun v1 =>
  (aI S 41 v1 a1).bind fun v2 =>
  if v2 = 0 then
  some ((0 : Int32), S)
  else
  (gR S 23 34 a0).bind fun v3 =>
  (aI S 40 v3 a1).bind fun v4 =>
  if v4 = (-1 : Int32) then
  some ((1 : Int32), S)
  else
  some ((0 : Int32), S)
set_option maxRecDepth 20000 in
set_option maxHeartbeats 4000000 in
theorem s_M_speaks {S : AS} {a0 : Option Nat} {a1 : Int32} {r : (Int32 × AS)} (h : f_M_speaks S a0 a1 = some r) : kr_Con m_M_speaks 0 [va_rf a0, .int a1] S (kr_eI r) := by
  refine kr_con rfl rfl (by decide +kernel) (by simp [lg_sl, kr_rfcat, kr_icat, m_M_speaks, mL]) ?_
  rw [show lv_args 0 [va_rf a0, .int a1] = [(0, va_rf a0), (1, .int a1)] from by simp [lv_args, kr_rfcat, kr_icat]]
  unfold f_M_speaks at h
  refine r_aload_n (i := 0) (x := a0) 0 rfl d_M_speaks_0 ?_
  have h2 := kr_ob h
  clear h
  obtain ⟨v1, ev1, h⟩ := h2
  refine r_getR ev1 fk73 rfl d_M_speaks_1 ?_
  refine r_iload_n (i := 1) (x := a1) 1 rfl d_M_speaks_4 ?_
  have h2 := kr_ob h
  clear h
  obtain ⟨v2, ev2, h⟩ := h2
  refine r_baload ev2 d_M_speaks_5 ?_
  refine r_if_eq (tgt := 23) d_M_speaks_6 rfl (fun c => ?_) (fun c => ?_)
  · replace h := kr_ip c h
    refine r_iconst (v := (0 : Int32)) (by decide) d_M_speaks_23 ?_
    cases h
    exact r_zret rfl rfl d_M_speaks_24
  · replace h := kr_in_ c h
    refine r_aload_n (i := 0) (x := a0) 0 rfl d_M_speaks_9 ?_
    have h2 := kr_ob h
    clear h
    obtain ⟨v3, ev3, h⟩ := h2
    refine r_getR ev3 fk72 rfl d_M_speaks_10 ?_
    refine r_iload_n (i := 1) (x := a1) 1 rfl d_M_speaks_13 ?_
    have h2 := kr_ob h
    clear h
    obtain ⟨v4, ev4, h⟩ := h2
    refine r_iaload ev4 d_M_speaks_14 ?_
    refine r_iconst (v := (-1 : Int32)) (by decide) d_M_speaks_15 ?_
    refine r_icmp_ne (tgt := 23) d_M_speaks_16 rfl (fun c => ?_) (fun c => ?_)
    · replace h := kr_ip c h
      refine r_iconst (v := (1 : Int32)) (by decide) d_M_speaks_19 ?_
      refine r_goto (tgt := 24) d_M_speaks_20 rfl ?_
      cases h
      exact r_zret rfl rfl d_M_speaks_24
    · replace h := kr_in_ c h
      refine r_iconst (v := (0 : Int32)) (by decide) d_M_speaks_23 ?_
      cases h
      exact r_zret rfl rfl d_M_speaks_24
/-! KeyringCourtModel.vouch(II)I -/
def f_M_vouch_B104 (S : AS) (x0 : Option Nat) (x1 : Int32) (x2 : Int32) (y0 : Option Nat) (y1 : Int32) (y2 : Int32) : Option (Int32 × AS) :=
  (kr_rv S 23 y0).bind fun u1 =>
  kr_b2 (f_M_mayBoth S y0 y1 y2) fun v3 S2 =>
  if v3 = 0 then
  some ((0 : Int32), S2)
  else
  (gR S2 23 74 x0).bind fun v4 =>
  (aI S2 40 v4 x1).bind fun v5 =>
  (gR S2 23 31 x0).bind fun v6 =>
  (aI S2 40 v6 x2).bind fun v7 =>
  (bI S2 v4 x1 (v5 ||| ((1 : Int32) <<< (v7 &&& 31)))).bind fun S8 =>
  (gR S8 23 75 x0).bind fun v9 =>
  (aI S8 40 v9 x1).bind fun v10 =>
  (kr_rv S8 23 x0).bind fun u11 =>
  kr_b2 (f_M_levelNow S8 x0 x2) fun v13 S12 =>
  (bI S12 v9 x1 (v10 + v13)).bind fun S14 =>
  (gR S14 23 75 x0).bind fun v15 =>
  (aI S14 40 v15 x1).bind fun v16 =>
  some (v16, S14)
def f_M_vouch_B103 (S : AS) (x0 : Option Nat) (x1 : Int32) (x2 : Int32) (y0 : Option Nat) (y1 : Int32) : Option (Int32 × AS) :=
  f_M_vouch_B104 S x0 x1 x2 y0 y1 (0 : Int32)
def f_M_vouch_B72 (S : AS) (x0 : Option Nat) (x1 : Int32) (x2 : Int32) (x3 : Int32) (y0 : Int32) : Option (Int32 × AS) :=
  if y0 = 0 then
  f_M_vouch_B103 S x0 x1 x2 x0 x3
  else
  (gR S 23 74 x0).bind fun v17 =>
  (aI S 40 v17 x1).bind fun v18 =>
  (gR S 23 31 x0).bind fun v19 =>
  (aI S 40 v19 x2).bind fun v20 =>
  if ((v18 >>> (v20 &&& 31)) &&& (1 : Int32)) = 0 then
  f_M_vouch_B104 S x0 x1 x2 x0 x3 (1 : Int32)
  else
  f_M_vouch_B103 S x0 x1 x2 x0 x3
def f_M_vouch_B71 (S : AS) (x0 : Option Nat) (x1 : Int32) (x2 : Int32) (x3 : Int32) : Option (Int32 × AS) :=
  f_M_vouch_B72 S x0 x1 x2 x3 (0 : Int32)
def f_M_vouch_B21 (S : AS) (x0 : Option Nat) (x1 : Int32) (x2 : Int32) (y0 : Int32) : Option (Int32 × AS) :=
  if y0 = 0 then
  f_M_vouch_B71 S x0 x1 x2 y0
  else
  (gR S 23 73 x0).bind fun v21 =>
  (aI S 41 v21 x1).bind fun v22 =>
  if v22 = 0 then
  f_M_vouch_B71 S x0 x1 x2 y0
  else
  (kr_rv S 23 x0).bind fun u23 =>
  kr_b2 (f_M_speaks S x0 x2) fun v25 S24 =>
  if v25 = 0 then
  f_M_vouch_B71 S24 x0 x1 x2 y0
  else
  (kr_rv S24 23 x0).bind fun u26 =>
  kr_b2 (f_M_levelNow S24 x0 x2) fun v28 S27 =>
  if v28 < (3 : Int32) then
  f_M_vouch_B71 S27 x0 x1 x2 y0
  else
  (gR S27 23 31 x0).bind fun v29 =>
  (aI S27 40 v29 x2).bind fun v30 =>
  (gR S27 23 71 x0).bind fun v31 =>
  (aI S27 40 v31 x1).bind fun v32 =>
  if v30 = v32 then
  f_M_vouch_B71 S27 x0 x1 x2 y0
  else
  f_M_vouch_B72 S27 x0 x1 x2 y0 (1 : Int32)
def f_M_vouch_B20 (S : AS) (x0 : Option Nat) (x1 : Int32) (x2 : Int32) : Option (Int32 × AS) :=
  f_M_vouch_B21 S x0 x1 x2 (0 : Int32)
def f_M_vouch (S : AS) (a0 : Option Nat) (a1 : Int32) (a2 : Int32) : Option (Int32 × AS) :=
  (kr_rv S 23 a0).bind fun u33 =>
  kr_b2 (f_M_isRecovery S a0 a1) fun v35 S34 =>
  if v35 = 0 then
  f_M_vouch_B20 S34 a0 a1 a2
  else
  (kr_rv S34 23 a0).bind fun u36 =>
  kr_b2 (f_M_isSession S34 a0 a2) fun v38 S37 =>
  if v38 = 0 then
  f_M_vouch_B20 S37 a0 a1 a2
  else
  f_M_vouch_B21 S37 a0 a1 a2 (1 : Int32)
set_option maxRecDepth 20000 in
set_option maxHeartbeats 4000000 in
theorem s_M_vouch_B104 {S : AS} {x0 : Option Nat} {x1 : Int32} {x2 : Int32} {y0 : Option Nat} {y1 : Int32} {y2 : Int32} {r : (Int32 × AS)} (h : f_M_vouch_B104 S x0 x1 x2 y0 y1 y2 = some r) : kr_AW m_M_vouch 2 104 [(0, va_rf x0), (1, .int x1), (2, .int x2)] [.int y2, .int y1, va_rf y0] S (kr_eI r) := by
  unfold f_M_vouch_B104 at h
  have h2 := kr_ob h
  clear h
  obtain ⟨⟨⟩, eu1, h⟩ := h2
  have h2 := kr_ob2 h
  clear h
  obtain ⟨v3, S2, eS2, h⟩ := h2
  refine r_callV (M1 := m_M_mayBoth) (κ := 23) (As := [.int y1, .int y2]) eu1 (s_M_mayBoth eS2) mok_M_mayBoth rfl (by decide) rfl w1720 w1722 w43 (by decide) (kr_c8 kr_c0) d_M_vouch_104 (kr_k1 ?_) kr_kn
  refine r_if_ne (tgt := 112) d_M_vouch_107 rfl (fun c => ?_) (fun c => ?_)
  · replace h := kr_ip c h
    refine r_iconst (v := (0 : Int32)) (by decide) d_M_vouch_110 ?_
    cases h
    exact r_iret rfl d_M_vouch_111
  · replace h := kr_in_ c h
    refine r_aload_n (i := 0) (x := x0) 0 rfl d_M_vouch_112 ?_
    have h2 := kr_ob h
    clear h
    obtain ⟨v4, ev4, h⟩ := h2
    refine r_getR ev4 fk104 rfl d_M_vouch_113 ?_
    refine r_iload_n (i := 1) (x := x1) 1 rfl d_M_vouch_116 ?_
    refine r_dup2 rfl (kr_rfcat _) d_M_vouch_117 ?_
    have h2 := kr_ob h
    clear h
    obtain ⟨v5, ev5, h⟩ := h2
    refine r_iaload ev5 d_M_vouch_118 ?_
    refine r_iconst (v := (1 : Int32)) (by decide) d_M_vouch_119 ?_
    refine r_aload_n (i := 0) (x := x0) 0 rfl d_M_vouch_120 ?_
    have h2 := kr_ob h
    clear h
    obtain ⟨v6, ev6, h⟩ := h2
    refine r_getR ev6 fk69 rfl d_M_vouch_121 ?_
    refine r_iload_n (i := 2) (x := x2) 2 rfl d_M_vouch_124 ?_
    have h2 := kr_ob h
    clear h
    obtain ⟨v7, ev7, h⟩ := h2
    refine r_iaload ev7 d_M_vouch_125 ?_
    refine r_ishl d_M_vouch_126 ?_
    refine r_ior d_M_vouch_127 ?_
    have h2 := kr_ob h
    clear h
    obtain ⟨S8, eS8, h⟩ := h2
    refine r_iastore eS8 d_M_vouch_128 ?_
    refine r_aload_n (i := 0) (x := x0) 0 rfl d_M_vouch_129 ?_
    have h2 := kr_ob h
    clear h
    obtain ⟨v9, ev9, h⟩ := h2
    refine r_getR ev9 fk105 rfl d_M_vouch_130 ?_
    refine r_iload_n (i := 1) (x := x1) 1 rfl d_M_vouch_133 ?_
    refine r_dup2 rfl (kr_rfcat _) d_M_vouch_134 ?_
    have h2 := kr_ob h
    clear h
    obtain ⟨v10, ev10, h⟩ := h2
    refine r_iaload ev10 d_M_vouch_135 ?_
    refine r_aload_n (i := 0) (x := x0) 0 rfl d_M_vouch_136 ?_
    refine r_iload_n (i := 2) (x := x2) 2 rfl d_M_vouch_137 ?_
    have h2 := kr_ob h
    clear h
    obtain ⟨⟨⟩, eu11, h⟩ := h2
    have h2 := kr_ob2 h
    clear h
    obtain ⟨v13, S12, eS12, h⟩ := h2
    refine r_callV (M1 := m_M_levelNow) (κ := 23) (As := [.int x2]) eu11 (s_M_levelNow eS12) mok_M_levelNow rfl (by decide) rfl w1895 w1897 w65 (by decide) (kr_c8 (kr_cI (kr_cI (kr_cR kr_c0)))) d_M_vouch_138 (kr_k1 ?_) kr_kn
    refine r_iadd d_M_vouch_141 ?_
    have h2 := kr_ob h
    clear h
    obtain ⟨S14, eS14, h⟩ := h2
    refine r_iastore eS14 d_M_vouch_142 ?_
    refine r_aload_n (i := 0) (x := x0) 0 rfl d_M_vouch_143 ?_
    have h2 := kr_ob h
    clear h
    obtain ⟨v15, ev15, h⟩ := h2
    refine r_getR ev15 fk105 rfl d_M_vouch_144 ?_
    refine r_iload_n (i := 1) (x := x1) 1 rfl d_M_vouch_147 ?_
    have h2 := kr_ob h
    clear h
    obtain ⟨v16, ev16, h⟩ := h2
    refine r_iaload ev16 d_M_vouch_148 ?_
    cases h
    exact r_iret rfl d_M_vouch_149
set_option maxRecDepth 20000 in
set_option maxHeartbeats 4000000 in
theorem s_M_vouch_B103 {S : AS} {x0 : Option Nat} {x1 : Int32} {x2 : Int32} {y0 : Option Nat} {y1 : Int32} {r : (Int32 × AS)} (h : f_M_vouch_B103 S x0 x1 x2 y0 y1 = some r) : kr_AW m_M_vouch 2 103 [(0, va_rf x0), (1, .int x1), (2, .int x2)] [.int y1, va_rf y0] S (kr_eI r) := by
  unfold f_M_vouch_B103 at h
  refine r_iconst (v := (0 : Int32)) (by decide) d_M_vouch_103 ?_
  exact kr_sub [0, 1, 2] rfl (s_M_vouch_B104 h)
set_option maxRecDepth 20000 in
set_option maxHeartbeats 4000000 in
theorem s_M_vouch_B72 {S : AS} {x0 : Option Nat} {x1 : Int32} {x2 : Int32} {x3 : Int32} {y0 : Int32} {r : (Int32 × AS)} (h : f_M_vouch_B72 S x0 x1 x2 x3 y0 = some r) : kr_AW m_M_vouch 2 72 [(0, va_rf x0), (1, .int x1), (2, .int x2), (3, .int x3)] [.int y0] S (kr_eI r) := by
  unfold f_M_vouch_B72 at h
  refine r_istore (i := 4) (lv' := [(4, .int y0), (0, va_rf x0), (1, .int x1), (2, .int x2), (3, .int x3)]) (by decide) rfl d_M_vouch_72 ?_
  refine r_aload_n (i := 0) (x := x0) 1 rfl d_M_vouch_74 ?_
  refine r_iload_n (i := 3) (x := x3) 4 rfl d_M_vouch_75 ?_
  refine r_iload (i := 4) (x := y0) 0 rfl d_M_vouch_76 ?_
  refine r_if_eq (tgt := 103) d_M_vouch_78 rfl (fun c => ?_) (fun c => ?_)
  · replace h := kr_ip c h
    exact kr_sub [1, 2, 3] rfl (s_M_vouch_B103 h)
  · replace h := kr_in_ c h
    refine r_aload_n (i := 0) (x := x0) 1 rfl d_M_vouch_81 ?_
    have h2 := kr_ob h
    clear h
    obtain ⟨v17, ev17, h⟩ := h2
    refine r_getR ev17 fk104 rfl d_M_vouch_82 ?_
    refine r_iload_n (i := 1) (x := x1) 2 rfl d_M_vouch_85 ?_
    have h2 := kr_ob h
    clear h
    obtain ⟨v18, ev18, h⟩ := h2
    refine r_iaload ev18 d_M_vouch_86 ?_
    refine r_aload_n (i := 0) (x := x0) 1 rfl d_M_vouch_87 ?_
    have h2 := kr_ob h
    clear h
    obtain ⟨v19, ev19, h⟩ := h2
    refine r_getR ev19 fk69 rfl d_M_vouch_88 ?_
    refine r_iload_n (i := 2) (x := x2) 3 rfl d_M_vouch_91 ?_
    have h2 := kr_ob h
    clear h
    obtain ⟨v20, ev20, h⟩ := h2
    refine r_iaload ev20 d_M_vouch_92 ?_
    refine r_ishr d_M_vouch_93 ?_
    refine r_iconst (v := (1 : Int32)) (by decide) d_M_vouch_94 ?_
    refine r_iand d_M_vouch_95 ?_
    refine r_if_ne (tgt := 103) d_M_vouch_96 rfl (fun c => ?_) (fun c => ?_)
    · replace h := kr_ip c h
      refine r_iconst (v := (1 : Int32)) (by decide) d_M_vouch_99 ?_
      refine r_goto (tgt := 104) d_M_vouch_100 rfl ?_
      exact kr_sub [1, 2, 3] rfl (s_M_vouch_B104 h)
    · replace h := kr_in_ c h
      exact kr_sub [1, 2, 3] rfl (s_M_vouch_B103 h)
set_option maxRecDepth 20000 in
set_option maxHeartbeats 4000000 in
theorem s_M_vouch_B71 {S : AS} {x0 : Option Nat} {x1 : Int32} {x2 : Int32} {x3 : Int32} {r : (Int32 × AS)} (h : f_M_vouch_B71 S x0 x1 x2 x3 = some r) : kr_AW m_M_vouch 2 71 [(0, va_rf x0), (1, .int x1), (2, .int x2), (3, .int x3)] [] S (kr_eI r) := by
  unfold f_M_vouch_B71 at h
  refine r_iconst (v := (0 : Int32)) (by decide) d_M_vouch_71 ?_
  exact kr_sub [0, 1, 2, 3] rfl (s_M_vouch_B72 h)
set_option maxRecDepth 20000 in
set_option maxHeartbeats 4000000 in
theorem s_M_vouch_B21 {S : AS} {x0 : Option Nat} {x1 : Int32} {x2 : Int32} {y0 : Int32} {r : (Int32 × AS)} (h : f_M_vouch_B21 S x0 x1 x2 y0 = some r) : kr_AW m_M_vouch 2 21 [(0, va_rf x0), (1, .int x1), (2, .int x2)] [.int y0] S (kr_eI r) := by
  unfold f_M_vouch_B21 at h
  refine r_istore_n (i := 3) (lv' := [(3, .int y0), (0, va_rf x0), (1, .int x1), (2, .int x2)]) (by decide) rfl d_M_vouch_21 ?_
  refine r_iload_n (i := 3) (x := y0) 0 rfl d_M_vouch_22 ?_
  refine r_if_eq (tgt := 71) d_M_vouch_23 rfl (fun c => ?_) (fun c => ?_)
  · replace h := kr_ip c h
    exact kr_sub [1, 2, 3, 0] rfl (s_M_vouch_B71 h)
  · replace h := kr_in_ c h
    refine r_aload_n (i := 0) (x := x0) 1 rfl d_M_vouch_26 ?_
    have h2 := kr_ob h
    clear h
    obtain ⟨v21, ev21, h⟩ := h2
    refine r_getR ev21 fk103 rfl d_M_vouch_27 ?_
    refine r_iload_n (i := 1) (x := x1) 2 rfl d_M_vouch_30 ?_
    have h2 := kr_ob h
    clear h
    obtain ⟨v22, ev22, h⟩ := h2
    refine r_baload ev22 d_M_vouch_31 ?_
    refine r_if_eq (tgt := 71) d_M_vouch_32 rfl (fun c => ?_) (fun c => ?_)
    · replace h := kr_ip c h
      exact kr_sub [1, 2, 3, 0] rfl (s_M_vouch_B71 h)
    · replace h := kr_in_ c h
      refine r_aload_n (i := 0) (x := x0) 1 rfl d_M_vouch_35 ?_
      refine r_iload_n (i := 2) (x := x2) 3 rfl d_M_vouch_36 ?_
      have h2 := kr_ob h
      clear h
      obtain ⟨⟨⟩, eu23, h⟩ := h2
      have h2 := kr_ob2 h
      clear h
      obtain ⟨v25, S24, eS24, h⟩ := h2
      refine r_callV (M1 := m_M_speaks) (κ := 23) (As := [.int x2]) eu23 (s_M_speaks eS24) mok_M_speaks rfl (by decide) rfl w2018 w2020 w72 (by decide) (kr_c8 kr_c0) d_M_vouch_37 (kr_k1 ?_) kr_kn
      refine r_if_eq (tgt := 71) d_M_vouch_40 rfl (fun c => ?_) (fun c => ?_)
      · replace h := kr_ip c h
        exact kr_sub [1, 2, 3, 0] rfl (s_M_vouch_B71 h)
      · replace h := kr_in_ c h
        refine r_aload_n (i := 0) (x := x0) 1 rfl d_M_vouch_43 ?_
        refine r_iload_n (i := 2) (x := x2) 3 rfl d_M_vouch_44 ?_
        have h2 := kr_ob h
        clear h
        obtain ⟨⟨⟩, eu26, h⟩ := h2
        have h2 := kr_ob2 h
        clear h
        obtain ⟨v28, S27, eS27, h⟩ := h2
        refine r_callV (M1 := m_M_levelNow) (κ := 23) (As := [.int x2]) eu26 (s_M_levelNow eS27) mok_M_levelNow rfl (by decide) rfl w1895 w1897 w65 (by decide) (kr_c8 kr_c0) d_M_vouch_45 (kr_k1 ?_) kr_kn
        refine r_iconst (v := (3 : Int32)) (by decide) d_M_vouch_48 ?_
        refine r_icmp_lt (tgt := 71) d_M_vouch_49 rfl (fun c => ?_) (fun c => ?_)
        · replace h := kr_ip c h
          exact kr_sub [1, 2, 3, 0] rfl (s_M_vouch_B71 h)
        · replace h := kr_in_ c h
          refine r_aload_n (i := 0) (x := x0) 1 rfl d_M_vouch_52 ?_
          have h2 := kr_ob h
          clear h
          obtain ⟨v29, ev29, h⟩ := h2
          refine r_getR ev29 fk69 rfl d_M_vouch_53 ?_
          refine r_iload_n (i := 2) (x := x2) 3 rfl d_M_vouch_56 ?_
          have h2 := kr_ob h
          clear h
          obtain ⟨v30, ev30, h⟩ := h2
          refine r_iaload ev30 d_M_vouch_57 ?_
          refine r_aload_n (i := 0) (x := x0) 1 rfl d_M_vouch_58 ?_
          have h2 := kr_ob h
          clear h
          obtain ⟨v31, ev31, h⟩ := h2
          refine r_getR ev31 fk101 rfl d_M_vouch_59 ?_
          refine r_iload_n (i := 1) (x := x1) 2 rfl d_M_vouch_62 ?_
          have h2 := kr_ob h
          clear h
          obtain ⟨v32, ev32, h⟩ := h2
          refine r_iaload ev32 d_M_vouch_63 ?_
          refine r_icmp_eq (tgt := 71) d_M_vouch_64 rfl (fun c => ?_) (fun c => ?_)
          · replace h := kr_ip c h
            exact kr_sub [1, 2, 3, 0] rfl (s_M_vouch_B71 h)
          · replace h := kr_in_ c h
            refine r_iconst (v := (1 : Int32)) (by decide) d_M_vouch_67 ?_
            refine r_goto (tgt := 72) d_M_vouch_68 rfl ?_
            exact kr_sub [1, 2, 3, 0] rfl (s_M_vouch_B72 h)
set_option maxRecDepth 20000 in
set_option maxHeartbeats 4000000 in
theorem s_M_vouch_B20 {S : AS} {x0 : Option Nat} {x1 : Int32} {x2 : Int32} {r : (Int32 × AS)} (h : f_M_vouch_B20 S x0 x1 x2 = some r) : kr_AW m_M_vouch 2 20 [(0, va_rf x0), (1, .int x1), (2, .int x2)] [] S (kr_eI r) := by
  unfold f_M_vouch_B20 at h
  refine r_iconst (v := (0 : Int32)) (by decide) d_M_vouch_20 ?_
  exact kr_sub [0, 1, 2] rfl (s_M_vouch_B21 h)
set_option maxRecDepth 20000 in
set_option maxHeartbeats 4000000 in
theorem s_M_vouch {S : AS} {a0 : Option Nat} {a1 : Int32} {a2 : Int32} {r : (Int32 × AS)} (h : f_M_vouch S a0 a1 a2 = some r) : kr_Con m_M_vouch 2 [va_rf a0, .int a1, .int a2] S (kr_eI r) := by
  refine kr_con rfl rfl (by decide +kernel) (by simp [lg_sl, kr_rfcat, kr_icat, m_M_vouch, mL]) ?_
  rw [show lv_args 0 [va_rf a0, .int a1, .int a2] = [(0, va_rf a0), (1, .int a1), (2, .int a2)] from by simp [lv_args, kr_rfcat, kr_icat]]
  unfold f_M_vouch at h
  refine r_aload_n (i := 0) (x := a0) 0 rfl d_M_vouch_0 ?_
  refine r_iload_n (i := 1) (x := a1) 1 rfl d_M_vouch_1 ?_
  have h2 := kr_ob h
  clear h
  obtain ⟨⟨⟩, eu33, h⟩ := h2
  have h2 := kr_ob2 h
  clear h
  obtain ⟨v35, S34, eS34, h⟩ := h2
  refine r_callV (M1 := m_M_isRecovery) (κ := 23) (As := [.int a1]) eu33 (s_M_isRecovery eS34) mok_M_isRecovery rfl (by decide) rfl w2014 w2016 w71 (by decide) (kr_c8 kr_c0) d_M_vouch_2 (kr_k1 ?_) kr_kn
  refine r_if_eq (tgt := 20) d_M_vouch_5 rfl (fun c => ?_) (fun c => ?_)
  · replace h := kr_ip c h
    exact kr_sub [0, 1, 2] rfl (s_M_vouch_B20 h)
  · replace h := kr_in_ c h
    refine r_aload_n (i := 0) (x := a0) 0 rfl d_M_vouch_8 ?_
    refine r_iload_n (i := 2) (x := a2) 2 rfl d_M_vouch_9 ?_
    have h2 := kr_ob h
    clear h
    obtain ⟨⟨⟩, eu36, h⟩ := h2
    have h2 := kr_ob2 h
    clear h
    obtain ⟨v38, S37, eS37, h⟩ := h2
    refine r_callV (M1 := m_M_isSession) (κ := 23) (As := [.int a2]) eu36 (s_M_isSession eS37) mok_M_isSession rfl (by decide) rfl w1883 w1885 w64 (by decide) (kr_c8 kr_c0) d_M_vouch_10 (kr_k1 ?_) kr_kn
    refine r_if_eq (tgt := 20) d_M_vouch_13 rfl (fun c => ?_) (fun c => ?_)
    · replace h := kr_ip c h
      exact kr_sub [0, 1, 2] rfl (s_M_vouch_B20 h)
    · replace h := kr_in_ c h
      refine r_iconst (v := (1 : Int32)) (by decide) d_M_vouch_16 ?_
      refine r_goto (tgt := 21) d_M_vouch_17 rfl ?_
      exact kr_sub [0, 1, 2] rfl (s_M_vouch_B21 h)
/-! KeyringCourtModel.many(I)I -/
def f_M_many_C4 (k4 : AS → Int32 → Int32 → Int32 → Option (Int32 × AS)) (S : AS) (x0 : Int32) (x1 : Int32) (x2 : Int32) : Option (Int32 × AS) :=
  if (6 : Int32) ≤ x2 then
  some (x1, S)
  else
  (some (x1 + ((x0 >>> (x2 &&& 31)) &&& (1 : Int32)))).bind fun i1 =>
  (some (x2 + (1 : Int32))).bind fun i2 =>
  k4 S x0 i1 i2
def f_M_many_L4 : Nat → AS → Int32 → Int32 → Int32 → Option (Int32 × AS)
  | 0, S, x0, x1, x2 => none
  | n + 1, S, x0, x1, x2 => f_M_many_C4 (f_M_many_L4 n) S x0 x1 x2
def f_M_many (S : AS) (a0 : Int32) : Option (Int32 × AS) :=
  f_M_many_L4 kr_FU S a0 (0 : Int32) (0 : Int32)
set_option maxRecDepth 20000 in
set_option maxHeartbeats 4000000 in
theorem s_M_many_C4 {k4 : AS → Int32 → Int32 → Int32 → Option (Int32 × AS)} (hk4 : ∀ {S : AS} {x0 : Int32} {x1 : Int32} {x2 : Int32} {r : (Int32 × AS)}, k4 S x0 x1 x2 = some r → kr_AW m_M_many 0 4 [(0, .int x0), (1, .int x1), (2, .int x2)] [] S (kr_eI r)) {S : AS} {x0 : Int32} {x1 : Int32} {x2 : Int32} {r : (Int32 × AS)} (h : f_M_many_C4 k4 S x0 x1 x2 = some r) : kr_AW m_M_many 0 4 [(0, .int x0), (1, .int x1), (2, .int x2)] [] S (kr_eI r) := by
  unfold f_M_many_C4 at h
  refine r_iload_n (i := 2) (x := x2) 2 rfl d_M_many_4 ?_
  refine r_bipush (v := (6 : Int32)) (by decide) d_M_many_5 ?_
  refine r_icmp_ge (tgt := 24) d_M_many_7 rfl (fun c => ?_) (fun c => ?_)
  · replace h := kr_ip c h
    refine r_iload_n (i := 1) (x := x1) 1 rfl d_M_many_24 ?_
    cases h
    exact r_iret rfl d_M_many_25
  · replace h := kr_in_ c h
    refine r_iload_n (i := 1) (x := x1) 1 rfl d_M_many_10 ?_
    refine r_iload_n (i := 0) (x := x0) 0 rfl d_M_many_11 ?_
    refine r_iload_n (i := 2) (x := x2) 2 rfl d_M_many_12 ?_
    refine r_ishr d_M_many_13 ?_
    refine r_iconst (v := (1 : Int32)) (by decide) d_M_many_14 ?_
    refine r_iand d_M_many_15 ?_
    refine r_iadd d_M_many_16 ?_
    have h2 := kr_ob h
    clear h
    obtain ⟨i1, ei1, h⟩ := h2
    refine kr_nmI ei1 ?_
    refine r_istore_n (i := 1) (lv' := [(1, .int i1), (0, .int x0), (2, .int x2)]) (by decide) rfl d_M_many_17 ?_
    have h2 := kr_ob h
    clear h
    obtain ⟨i2, ei2, h⟩ := h2
    refine r_iinc (v := i2) (lv' := [(2, .int i2), (1, .int i1), (0, .int x0)]) 2 rfl (kr_inc (by decide) ei2) (by decide) rfl d_M_many_18 ?_
    refine r_goto (tgt := 4) d_M_many_21 rfl ?_
    exact kr_sub [2, 1, 0] rfl (hk4 h)
theorem s_M_many_L4 (n : Nat) : ∀ {S : AS} {x0 : Int32} {x1 : Int32} {x2 : Int32} {r : (Int32 × AS)}, f_M_many_L4 n S x0 x1 x2 = some r → kr_AW m_M_many 0 4 [(0, .int x0), (1, .int x1), (2, .int x2)] [] S (kr_eI r) := by
  induction n with
  | zero => intro S x0 x1 x2 r h; cases h
  | succ n ih => intro S x0 x1 x2 r h; exact s_M_many_C4 (fun {_} {_} {_} {_} {_} h => ih h) h
set_option maxRecDepth 20000 in
set_option maxHeartbeats 4000000 in
theorem s_M_many {S : AS} {a0 : Int32} {r : (Int32 × AS)} (h : f_M_many S a0 = some r) : kr_Con m_M_many 0 [.int a0] S (kr_eI r) := by
  refine kr_con rfl rfl (by decide +kernel) (by simp [lg_sl, kr_rfcat, kr_icat, m_M_many, mL]) ?_
  rw [show lv_args 0 [.int a0] = [(0, .int a0)] from by simp [lv_args, kr_rfcat, kr_icat]]
  unfold f_M_many at h
  refine r_iconst (v := (0 : Int32)) (by decide) d_M_many_0 ?_
  refine r_istore_n (i := 1) (lv' := [(1, .int (0 : Int32)), (0, .int a0)]) (by decide) rfl d_M_many_1 ?_
  refine r_iconst (v := (0 : Int32)) (by decide) d_M_many_2 ?_
  refine r_istore_n (i := 2) (lv' := [(2, .int (0 : Int32)), (1, .int (0 : Int32)), (0, .int a0)]) (by decide) rfl d_M_many_3 ?_
  exact kr_sub [2, 1, 0] rfl (s_M_many_L4 kr_FU h)
/-! KeyringCourtModel.stop(II)I -/
def f_M_stop_B65 (S : AS) (x0 : Option Nat) (x1 : Int32) (y0 : Option Nat) (y1 : Int32) (y2 : Int32) : Option (Int32 × AS) :=
  (kr_rv S 23 y0).bind fun u1 =>
  kr_b2 (f_M_mayBoth S y0 y1 y2) fun v3 S2 =>
  if v3 = 0 then
  some ((0 : Int32), S2)
  else
  (gR S2 23 73 x0).bind fun v4 =>
  (bZ S2 v4 x1 (0 : Int32)).bind fun S5 =>
  (gR S5 23 74 x0).bind fun v6 =>
  (aI S5 40 v6 x1).bind fun v7 =>
  kr_b2 (f_M_many S5 v7) fun v9 S8 =>
  some (v9, S8)
def f_M_stop_B64 (S : AS) (x0 : Option Nat) (x1 : Int32) (y0 : Option Nat) (y1 : Int32) : Option (Int32 × AS) :=
  f_M_stop_B65 S x0 x1 y0 y1 (0 : Int32)
def f_M_stop_B21 (S : AS) (x0 : Option Nat) (x1 : Int32) (x2 : Int32) (y0 : Int32) : Option (Int32 × AS) :=
  if y0 = 0 then
  f_M_stop_B64 S x0 x1 x0 y0
  else
  (gR S 23 73 x0).bind fun v10 =>
  (aI S 41 v10 x1).bind fun v11 =>
  if v11 = 0 then
  f_M_stop_B64 S x0 x1 x0 y0
  else
  (kr_rv S 23 x0).bind fun u12 =>
  kr_b2 (f_M_speaks S x0 x2) fun v14 S13 =>
  if v14 = 0 then
  f_M_stop_B64 S13 x0 x1 x0 y0
  else
  (gR S13 23 31 x0).bind fun v15 =>
  (aI S13 40 v15 x2).bind fun v16 =>
  (gR S13 23 71 x0).bind fun v17 =>
  (aI S13 40 v17 x1).bind fun v18 =>
  if v16 = v18 then
  f_M_stop_B65 S13 x0 x1 x0 y0 (1 : Int32)
  else
  f_M_stop_B64 S13 x0 x1 x0 y0
def f_M_stop_B20 (S : AS) (x0 : Option Nat) (x1 : Int32) (x2 : Int32) : Option (Int32 × AS) :=
  f_M_stop_B21 S x0 x1 x2 (0 : Int32)
def f_M_stop (S : AS) (a0 : Option Nat) (a1 : Int32) (a2 : Int32) : Option (Int32 × AS) :=
  (kr_rv S 23 a0).bind fun u19 =>
  kr_b2 (f_M_isRecovery S a0 a1) fun v21 S20 =>
  if v21 = 0 then
  f_M_stop_B20 S20 a0 a1 a2
  else
  (kr_rv S20 23 a0).bind fun u22 =>
  kr_b2 (f_M_isSession S20 a0 a2) fun v24 S23 =>
  if v24 = 0 then
  f_M_stop_B20 S23 a0 a1 a2
  else
  f_M_stop_B21 S23 a0 a1 a2 (1 : Int32)
set_option maxRecDepth 20000 in
set_option maxHeartbeats 4000000 in
theorem s_M_stop_B65 {S : AS} {x0 : Option Nat} {x1 : Int32} {y0 : Option Nat} {y1 : Int32} {y2 : Int32} {r : (Int32 × AS)} (h : f_M_stop_B65 S x0 x1 y0 y1 y2 = some r) : kr_AW m_M_stop 2 65 [(0, va_rf x0), (1, .int x1)] [.int y2, .int y1, va_rf y0] S (kr_eI r) := by
  unfold f_M_stop_B65 at h
  have h2 := kr_ob h
  clear h
  obtain ⟨⟨⟩, eu1, h⟩ := h2
  have h2 := kr_ob2 h
  clear h
  obtain ⟨v3, S2, eS2, h⟩ := h2
  refine r_callV (M1 := m_M_mayBoth) (κ := 23) (As := [.int y1, .int y2]) eu1 (s_M_mayBoth eS2) mok_M_mayBoth rfl (by decide) rfl w1720 w1722 w43 (by decide) (kr_c8 kr_c0) d_M_stop_65 (kr_k1 ?_) kr_kn
  refine r_if_ne (tgt := 73) d_M_stop_68 rfl (fun c => ?_) (fun c => ?_)
  · replace h := kr_ip c h
    refine r_iconst (v := (0 : Int32)) (by decide) d_M_stop_71 ?_
    cases h
    exact r_iret rfl d_M_stop_72
  · replace h := kr_in_ c h
    refine r_aload_n (i := 0) (x := x0) 0 rfl d_M_stop_73 ?_
    have h2 := kr_ob h
    clear h
    obtain ⟨v4, ev4, h⟩ := h2
    refine r_getR ev4 fk103 rfl d_M_stop_74 ?_
    refine r_iload_n (i := 1) (x := x1) 1 rfl d_M_stop_77 ?_
    refine r_iconst (v := (0 : Int32)) (by decide) d_M_stop_78 ?_
    have h2 := kr_ob h
    clear h
    obtain ⟨S5, eS5, h⟩ := h2
    refine r_bastore eS5 d_M_stop_79 ?_
    refine r_aload_n (i := 0) (x := x0) 0 rfl d_M_stop_80 ?_
    have h2 := kr_ob h
    clear h
    obtain ⟨v6, ev6, h⟩ := h2
    refine r_getR ev6 fk104 rfl d_M_stop_81 ?_
    refine r_iload_n (i := 1) (x := x1) 1 rfl d_M_stop_84 ?_
    have h2 := kr_ob h
    clear h
    obtain ⟨v7, ev7, h⟩ := h2
    refine r_iaload ev7 d_M_stop_85 ?_
    have h2 := kr_ob2 h
    clear h
    obtain ⟨v9, S8, eS8, h⟩ := h2
    refine r_callS (M1 := m_M_many) (As := [.int v7]) (s_M_many eS8) mok_M_many rfl w2026 w2027 (by decide) (kr_c8 kr_c0) d_M_stop_86 (kr_k1 ?_) kr_kn
    cases h
    exact r_iret rfl d_M_stop_89
set_option maxRecDepth 20000 in
set_option maxHeartbeats 4000000 in
theorem s_M_stop_B64 {S : AS} {x0 : Option Nat} {x1 : Int32} {y0 : Option Nat} {y1 : Int32} {r : (Int32 × AS)} (h : f_M_stop_B64 S x0 x1 y0 y1 = some r) : kr_AW m_M_stop 2 64 [(0, va_rf x0), (1, .int x1)] [.int y1, va_rf y0] S (kr_eI r) := by
  unfold f_M_stop_B64 at h
  refine r_iconst (v := (0 : Int32)) (by decide) d_M_stop_64 ?_
  exact kr_sub [0, 1] rfl (s_M_stop_B65 h)
set_option maxRecDepth 20000 in
set_option maxHeartbeats 4000000 in
theorem s_M_stop_B21 {S : AS} {x0 : Option Nat} {x1 : Int32} {x2 : Int32} {y0 : Int32} {r : (Int32 × AS)} (h : f_M_stop_B21 S x0 x1 x2 y0 = some r) : kr_AW m_M_stop 2 21 [(0, va_rf x0), (1, .int x1), (2, .int x2)] [.int y0] S (kr_eI r) := by
  unfold f_M_stop_B21 at h
  refine r_istore_n (i := 3) (lv' := [(3, .int y0), (0, va_rf x0), (1, .int x1), (2, .int x2)]) (by decide) rfl d_M_stop_21 ?_
  refine r_aload_n (i := 0) (x := x0) 1 rfl d_M_stop_22 ?_
  refine r_iload_n (i := 3) (x := y0) 0 rfl d_M_stop_23 ?_
  refine r_iload_n (i := 3) (x := y0) 0 rfl d_M_stop_24 ?_
  refine r_if_eq (tgt := 64) d_M_stop_25 rfl (fun c => ?_) (fun c => ?_)
  · replace h := kr_ip c h
    exact kr_sub [1, 2] rfl (s_M_stop_B64 h)
  · replace h := kr_in_ c h
    refine r_aload_n (i := 0) (x := x0) 1 rfl d_M_stop_28 ?_
    have h2 := kr_ob h
    clear h
    obtain ⟨v10, ev10, h⟩ := h2
    refine r_getR ev10 fk103 rfl d_M_stop_29 ?_
    refine r_iload_n (i := 1) (x := x1) 2 rfl d_M_stop_32 ?_
    have h2 := kr_ob h
    clear h
    obtain ⟨v11, ev11, h⟩ := h2
    refine r_baload ev11 d_M_stop_33 ?_
    refine r_if_eq (tgt := 64) d_M_stop_34 rfl (fun c => ?_) (fun c => ?_)
    · replace h := kr_ip c h
      exact kr_sub [1, 2] rfl (s_M_stop_B64 h)
    · replace h := kr_in_ c h
      refine r_aload_n (i := 0) (x := x0) 1 rfl d_M_stop_37 ?_
      refine r_iload_n (i := 2) (x := x2) 3 rfl d_M_stop_38 ?_
      have h2 := kr_ob h
      clear h
      obtain ⟨⟨⟩, eu12, h⟩ := h2
      have h2 := kr_ob2 h
      clear h
      obtain ⟨v14, S13, eS13, h⟩ := h2
      refine r_callV (M1 := m_M_speaks) (κ := 23) (As := [.int x2]) eu12 (s_M_speaks eS13) mok_M_speaks rfl (by decide) rfl w2018 w2020 w72 (by decide) (kr_c8 (kr_cI (kr_cR kr_c0))) d_M_stop_39 (kr_k1 ?_) kr_kn
      refine r_if_eq (tgt := 64) d_M_stop_42 rfl (fun c => ?_) (fun c => ?_)
      · replace h := kr_ip c h
        exact kr_sub [1, 2] rfl (s_M_stop_B64 h)
      · replace h := kr_in_ c h
        refine r_aload_n (i := 0) (x := x0) 1 rfl d_M_stop_45 ?_
        have h2 := kr_ob h
        clear h
        obtain ⟨v15, ev15, h⟩ := h2
        refine r_getR ev15 fk69 rfl d_M_stop_46 ?_
        refine r_iload_n (i := 2) (x := x2) 3 rfl d_M_stop_49 ?_
        have h2 := kr_ob h
        clear h
        obtain ⟨v16, ev16, h⟩ := h2
        refine r_iaload ev16 d_M_stop_50 ?_
        refine r_aload_n (i := 0) (x := x0) 1 rfl d_M_stop_51 ?_
        have h2 := kr_ob h
        clear h
        obtain ⟨v17, ev17, h⟩ := h2
        refine r_getR ev17 fk101 rfl d_M_stop_52 ?_
        refine r_iload_n (i := 1) (x := x1) 2 rfl d_M_stop_55 ?_
        have h2 := kr_ob h
        clear h
        obtain ⟨v18, ev18, h⟩ := h2
        refine r_iaload ev18 d_M_stop_56 ?_
        refine r_icmp_ne (tgt := 64) d_M_stop_57 rfl (fun c => ?_) (fun c => ?_)
        · replace h := kr_ip c h
          refine r_iconst (v := (1 : Int32)) (by decide) d_M_stop_60 ?_
          refine r_goto (tgt := 65) d_M_stop_61 rfl ?_
          exact kr_sub [1, 2] rfl (s_M_stop_B65 h)
        · replace h := kr_in_ c h
          exact kr_sub [1, 2] rfl (s_M_stop_B64 h)
set_option maxRecDepth 20000 in
set_option maxHeartbeats 4000000 in
theorem s_M_stop_B20 {S : AS} {x0 : Option Nat} {x1 : Int32} {x2 : Int32} {r : (Int32 × AS)} (h : f_M_stop_B20 S x0 x1 x2 = some r) : kr_AW m_M_stop 2 20 [(0, va_rf x0), (1, .int x1), (2, .int x2)] [] S (kr_eI r) := by
  unfold f_M_stop_B20 at h
  refine r_iconst (v := (0 : Int32)) (by decide) d_M_stop_20 ?_
  exact kr_sub [0, 1, 2] rfl (s_M_stop_B21 h)
set_option maxRecDepth 20000 in
set_option maxHeartbeats 4000000 in
theorem s_M_stop {S : AS} {a0 : Option Nat} {a1 : Int32} {a2 : Int32} {r : (Int32 × AS)} (h : f_M_stop S a0 a1 a2 = some r) : kr_Con m_M_stop 2 [va_rf a0, .int a1, .int a2] S (kr_eI r) := by
  refine kr_con rfl rfl (by decide +kernel) (by simp [lg_sl, kr_rfcat, kr_icat, m_M_stop, mL]) ?_
  rw [show lv_args 0 [va_rf a0, .int a1, .int a2] = [(0, va_rf a0), (1, .int a1), (2, .int a2)] from by simp [lv_args, kr_rfcat, kr_icat]]
  unfold f_M_stop at h
  refine r_aload_n (i := 0) (x := a0) 0 rfl d_M_stop_0 ?_
  refine r_iload_n (i := 1) (x := a1) 1 rfl d_M_stop_1 ?_
  have h2 := kr_ob h
  clear h
  obtain ⟨⟨⟩, eu19, h⟩ := h2
  have h2 := kr_ob2 h
  clear h
  obtain ⟨v21, S20, eS20, h⟩ := h2
  refine r_callV (M1 := m_M_isRecovery) (κ := 23) (As := [.int a1]) eu19 (s_M_isRecovery eS20) mok_M_isRecovery rfl (by decide) rfl w2014 w2016 w71 (by decide) (kr_c8 kr_c0) d_M_stop_2 (kr_k1 ?_) kr_kn
  refine r_if_eq (tgt := 20) d_M_stop_5 rfl (fun c => ?_) (fun c => ?_)
  · replace h := kr_ip c h
    exact kr_sub [0, 1, 2] rfl (s_M_stop_B20 h)
  · replace h := kr_in_ c h
    refine r_aload_n (i := 0) (x := a0) 0 rfl d_M_stop_8 ?_
    refine r_iload_n (i := 2) (x := a2) 2 rfl d_M_stop_9 ?_
    have h2 := kr_ob h
    clear h
    obtain ⟨⟨⟩, eu22, h⟩ := h2
    have h2 := kr_ob2 h
    clear h
    obtain ⟨v24, S23, eS23, h⟩ := h2
    refine r_callV (M1 := m_M_isSession) (κ := 23) (As := [.int a2]) eu22 (s_M_isSession eS23) mok_M_isSession rfl (by decide) rfl w1883 w1885 w64 (by decide) (kr_c8 kr_c0) d_M_stop_10 (kr_k1 ?_) kr_kn
    refine r_if_eq (tgt := 20) d_M_stop_13 rfl (fun c => ?_) (fun c => ?_)
    · replace h := kr_ip c h
      exact kr_sub [0, 1, 2] rfl (s_M_stop_B20 h)
    · replace h := kr_in_ c h
      refine r_iconst (v := (1 : Int32)) (by decide) d_M_stop_16 ?_
      refine r_goto (tgt := 21) d_M_stop_17 rfl ?_
      exact kr_sub [0, 1, 2] rfl (s_M_stop_B21 h)
/-! KeyringCourtModel.weight(I)I -/
def f_M_weight (S : AS) (a0 : Int32) : Option (Int32 × AS) :=
  some (a0 + (1 : Int32), S)
set_option maxRecDepth 20000 in
set_option maxHeartbeats 4000000 in
theorem s_M_weight {S : AS} {a0 : Int32} {r : (Int32 × AS)} (h : f_M_weight S a0 = some r) : kr_Con m_M_weight 0 [.int a0] S (kr_eI r) := by
  refine kr_con rfl rfl (by decide +kernel) (by simp [lg_sl, kr_rfcat, kr_icat, m_M_weight, mL]) ?_
  rw [show lv_args 0 [.int a0] = [(0, .int a0)] from by simp [lv_args, kr_rfcat, kr_icat]]
  unfold f_M_weight at h
  refine r_iload_n (i := 0) (x := a0) 0 rfl d_M_weight_0 ?_
  refine r_iconst (v := (1 : Int32)) (by decide) d_M_weight_1 ?_
  refine r_iadd d_M_weight_2 ?_
  cases h
  exact r_iret rfl d_M_weight_3
/-! KeyringCourtModel.endAllOf(I)I -/
def f_M_endAllOf_B41 (k4 : AS → Option Nat → Int32 → Int32 → Int32 → Option (Int32 × AS)) (S : AS) (x0 : Option Nat) (x1 : Int32) (x3 : Int32) (y0 : Int32) (y1 : Int32) : Option (Int32 × AS) :=
  (some (y0 + y1)).bind fun i1 =>
  (some (x3 + (1 : Int32))).bind fun i2 =>
  k4 S x0 x1 i1 i2
def f_M_endAllOf_B40 (k4 : AS → Option Nat → Int32 → Int32 → Int32 → Option (Int32 × AS)) (S : AS) (x0 : Option Nat) (x1 : Int32) (x3 : Int32) (y0 : Int32) : Option (Int32 × AS) :=
  f_M_endAllOf_B41 k4 S x0 x1 x3 y0 (0 : Int32)
def f_M_endAllOf_C4 (k4 : AS → Option Nat → Int32 → Int32 → Int32 → Option (Int32 × AS)) (S : AS) (x0 : Option Nat) (x1 : Int32) (x2 : Int32) (x3 : Int32) : Option (Int32 × AS) :=
  (gI S 23 30 x0).bind fun v3 =>
  if v3 ≤ x3 then
  some (x2, S)
  else
  (gR S 23 35 x0).bind fun v4 =>
  (aI S 41 v4 x3).bind fun v5 =>
  if v5 = 0 then
  f_M_endAllOf_B40 k4 S x0 x1 x3 x2
  else
  (gR S 23 31 x0).bind fun v6 =>
  (aI S 40 v6 x3).bind fun v7 =>
  if v7 = x1 then
  (kr_rv S 23 x0).bind fun u8 =>
  kr_b2 (f_M_endSession S x0 x3) fun v10 S9 =>
  f_M_endAllOf_B41 k4 S9 x0 x1 x3 x2 v10
  else
  f_M_endAllOf_B40 k4 S x0 x1 x3 x2
def f_M_endAllOf_L4 : Nat → AS → Option Nat → Int32 → Int32 → Int32 → Option (Int32 × AS)
  | 0, S, x0, x1, x2, x3 => none
  | n + 1, S, x0, x1, x2, x3 => f_M_endAllOf_C4 (f_M_endAllOf_L4 n) S x0 x1 x2 x3
def f_M_endAllOf (S : AS) (a0 : Option Nat) (a1 : Int32) : Option (Int32 × AS) :=
  f_M_endAllOf_L4 kr_FU S a0 a1 (0 : Int32) (0 : Int32)
set_option maxRecDepth 20000 in
set_option maxHeartbeats 4000000 in
theorem s_M_endAllOf_B41 {k4 : AS → Option Nat → Int32 → Int32 → Int32 → Option (Int32 × AS)} (hk4 : ∀ {S : AS} {x0 : Option Nat} {x1 : Int32} {x2 : Int32} {x3 : Int32} {r : (Int32 × AS)}, k4 S x0 x1 x2 x3 = some r → kr_AW m_M_endAllOf 4 4 [(0, va_rf x0), (1, .int x1), (2, .int x2), (3, .int x3)] [] S (kr_eI r)) {S : AS} {x0 : Option Nat} {x1 : Int32} {x3 : Int32} {y0 : Int32} {y1 : Int32} {r : (Int32 × AS)} (h : f_M_endAllOf_B41 k4 S x0 x1 x3 y0 y1 = some r) : kr_AW m_M_endAllOf 4 41 [(0, va_rf x0), (1, .int x1), (3, .int x3)] [.int y1, .int y0] S (kr_eI r) := by
  unfold f_M_endAllOf_B41 at h
  refine r_iadd d_M_endAllOf_41 ?_
  have h2 := kr_ob h
  clear h
  obtain ⟨i1, ei1, h⟩ := h2
  refine kr_nmI ei1 ?_
  refine r_istore_n (i := 2) (lv' := [(2, .int i1), (0, va_rf x0), (1, .int x1), (3, .int x3)]) (by decide) rfl d_M_endAllOf_42 ?_
  have h2 := kr_ob h
  clear h
  obtain ⟨i2, ei2, h⟩ := h2
  refine r_iinc (v := i2) (lv' := [(3, .int i2), (2, .int i1), (0, va_rf x0), (1, .int x1)]) 3 rfl (kr_inc (by decide) ei2) (by decide) rfl d_M_endAllOf_43 ?_
  refine r_goto (tgt := 4) d_M_endAllOf_46 rfl ?_
  exact kr_sub [2, 3, 1, 0] rfl (hk4 h)
set_option maxRecDepth 20000 in
set_option maxHeartbeats 4000000 in
theorem s_M_endAllOf_B40 {k4 : AS → Option Nat → Int32 → Int32 → Int32 → Option (Int32 × AS)} (hk4 : ∀ {S : AS} {x0 : Option Nat} {x1 : Int32} {x2 : Int32} {x3 : Int32} {r : (Int32 × AS)}, k4 S x0 x1 x2 x3 = some r → kr_AW m_M_endAllOf 4 4 [(0, va_rf x0), (1, .int x1), (2, .int x2), (3, .int x3)] [] S (kr_eI r)) {S : AS} {x0 : Option Nat} {x1 : Int32} {x3 : Int32} {y0 : Int32} {r : (Int32 × AS)} (h : f_M_endAllOf_B40 k4 S x0 x1 x3 y0 = some r) : kr_AW m_M_endAllOf 4 40 [(0, va_rf x0), (1, .int x1), (3, .int x3)] [.int y0] S (kr_eI r) := by
  unfold f_M_endAllOf_B40 at h
  refine r_iconst (v := (0 : Int32)) (by decide) d_M_endAllOf_40 ?_
  exact kr_sub [0, 1, 2] rfl (s_M_endAllOf_B41 hk4 h)
set_option maxRecDepth 20000 in
set_option maxHeartbeats 4000000 in
theorem s_M_endAllOf_C4 {k4 : AS → Option Nat → Int32 → Int32 → Int32 → Option (Int32 × AS)} (hk4 : ∀ {S : AS} {x0 : Option Nat} {x1 : Int32} {x2 : Int32} {x3 : Int32} {r : (Int32 × AS)}, k4 S x0 x1 x2 x3 = some r → kr_AW m_M_endAllOf 4 4 [(0, va_rf x0), (1, .int x1), (2, .int x2), (3, .int x3)] [] S (kr_eI r)) {S : AS} {x0 : Option Nat} {x1 : Int32} {x2 : Int32} {x3 : Int32} {r : (Int32 × AS)} (h : f_M_endAllOf_C4 k4 S x0 x1 x2 x3 = some r) : kr_AW m_M_endAllOf 4 4 [(0, va_rf x0), (1, .int x1), (2, .int x2), (3, .int x3)] [] S (kr_eI r) := by
  unfold f_M_endAllOf_C4 at h
  refine r_iload_n (i := 3) (x := x3) 3 rfl d_M_endAllOf_4 ?_
  refine r_aload_n (i := 0) (x := x0) 0 rfl d_M_endAllOf_5 ?_
  have h2 := kr_ob h
  clear h
  obtain ⟨v3, ev3, h⟩ := h2
  refine r_getI ev3 fk133 rfl d_M_endAllOf_6 ?_
  refine r_icmp_ge (tgt := 49) d_M_endAllOf_9 rfl (fun c => ?_) (fun c => ?_)
  · replace h := kr_ip c h
    refine r_iload_n (i := 2) (x := x2) 2 rfl d_M_endAllOf_49 ?_
    cases h
    exact r_iret rfl d_M_endAllOf_50
  · replace h := kr_in_ c h
    refine r_iload_n (i := 2) (x := x2) 2 rfl d_M_endAllOf_12 ?_
    refine r_aload_n (i := 0) (x := x0) 0 rfl d_M_endAllOf_13 ?_
    have h2 := kr_ob h
    clear h
    obtain ⟨v4, ev4, h⟩ := h2
    refine r_getR ev4 fk73 rfl d_M_endAllOf_14 ?_
    refine r_iload_n (i := 3) (x := x3) 3 rfl d_M_endAllOf_17 ?_
    have h2 := kr_ob h
    clear h
    obtain ⟨v5, ev5, h⟩ := h2
    refine r_baload ev5 d_M_endAllOf_18 ?_
    refine r_if_eq (tgt := 40) d_M_endAllOf_19 rfl (fun c => ?_) (fun c => ?_)
    · replace h := kr_ip c h
      exact kr_sub [0, 1, 3] rfl (s_M_endAllOf_B40 hk4 h)
    · replace h := kr_in_ c h
      refine r_aload_n (i := 0) (x := x0) 0 rfl d_M_endAllOf_22 ?_
      have h2 := kr_ob h
      clear h
      obtain ⟨v6, ev6, h⟩ := h2
      refine r_getR ev6 fk69 rfl d_M_endAllOf_23 ?_
      refine r_iload_n (i := 3) (x := x3) 3 rfl d_M_endAllOf_26 ?_
      have h2 := kr_ob h
      clear h
      obtain ⟨v7, ev7, h⟩ := h2
      refine r_iaload ev7 d_M_endAllOf_27 ?_
      refine r_iload_n (i := 1) (x := x1) 1 rfl d_M_endAllOf_28 ?_
      refine r_icmp_ne (tgt := 40) d_M_endAllOf_29 rfl (fun c => ?_) (fun c => ?_)
      · replace h := kr_ip c h
        refine r_aload_n (i := 0) (x := x0) 0 rfl d_M_endAllOf_32 ?_
        refine r_iload_n (i := 3) (x := x3) 3 rfl d_M_endAllOf_33 ?_
        have h2 := kr_ob h
        clear h
        obtain ⟨⟨⟩, eu8, h⟩ := h2
        have h2 := kr_ob2 h
        clear h
        obtain ⟨v10, S9, eS9, h⟩ := h2
        refine r_callV (M1 := m_M_endSession) (κ := 23) (As := [.int x3]) eu8 (s_M_endSession eS9) mok_M_endSession rfl (by decide) rfl w1728 w1730 w45 (by decide) (kr_c8 (kr_cI kr_c0)) d_M_endAllOf_34 (kr_k1 ?_) kr_kn
        refine r_goto (tgt := 41) d_M_endAllOf_37 rfl ?_
        exact kr_sub [0, 1, 3] rfl (s_M_endAllOf_B41 hk4 h)
      · replace h := kr_in_ c h
        exact kr_sub [0, 1, 3] rfl (s_M_endAllOf_B40 hk4 h)
theorem s_M_endAllOf_L4 (n : Nat) : ∀ {S : AS} {x0 : Option Nat} {x1 : Int32} {x2 : Int32} {x3 : Int32} {r : (Int32 × AS)}, f_M_endAllOf_L4 n S x0 x1 x2 x3 = some r → kr_AW m_M_endAllOf 4 4 [(0, va_rf x0), (1, .int x1), (2, .int x2), (3, .int x3)] [] S (kr_eI r) := by
  induction n with
  | zero => intro S x0 x1 x2 x3 r h; cases h
  | succ n ih => intro S x0 x1 x2 x3 r h; exact s_M_endAllOf_C4 (fun {_} {_} {_} {_} {_} {_} h => ih h) h
set_option maxRecDepth 20000 in
set_option maxHeartbeats 4000000 in
theorem s_M_endAllOf {S : AS} {a0 : Option Nat} {a1 : Int32} {r : (Int32 × AS)} (h : f_M_endAllOf S a0 a1 = some r) : kr_Con m_M_endAllOf 4 [va_rf a0, .int a1] S (kr_eI r) := by
  refine kr_con rfl rfl (by decide +kernel) (by simp [lg_sl, kr_rfcat, kr_icat, m_M_endAllOf, mL]) ?_
  rw [show lv_args 0 [va_rf a0, .int a1] = [(0, va_rf a0), (1, .int a1)] from by simp [lv_args, kr_rfcat, kr_icat]]
  unfold f_M_endAllOf at h
  refine r_iconst (v := (0 : Int32)) (by decide) d_M_endAllOf_0 ?_
  refine r_istore_n (i := 2) (lv' := [(2, .int (0 : Int32)), (0, va_rf a0), (1, .int a1)]) (by decide) rfl d_M_endAllOf_1 ?_
  refine r_iconst (v := (0 : Int32)) (by decide) d_M_endAllOf_2 ?_
  refine r_istore_n (i := 3) (lv' := [(3, .int (0 : Int32)), (2, .int (0 : Int32)), (0, va_rf a0), (1, .int a1)]) (by decide) rfl d_M_endAllOf_3 ?_
  exact kr_sub [2, 3, 1, 0] rfl (s_M_endAllOf_L4 kr_FU h)
/-! KeyringCourtModel.finish(I)I -/
def f_M_finish_B100 (k60 : AS → Option Nat → Int32 → Int32 → Int32 → Int32 → Int32 → Option (Int32 × AS)) (S : AS) (x0 : Option Nat) (x1 : Int32) (x2 : Int32) (x3 : Int32) (x5 : Int32) (y0 : Int32) (y1 : Int32) : Option (Int32 × AS) :=
  (some (y0 + y1)).bind fun i1 =>
  (some (x5 + (1 : Int32))).bind fun i2 =>
  k60 S x0 x1 x2 x3 i1 i2
def f_M_finish_C165 (k165 : AS → Option Nat → Int32 → Int32 → Int32 → Int32 → Option (Int32 × AS)) (S : AS) (x0 : Option Nat) (x1 : Int32) (x5 : Int32) (x6 : Int32) (x7 : Int32) : Option (Int32 × AS) :=
  if (3 : Int32) ≤ x7 then
  (kr_rv S 23 x0).bind fun u3 =>
  (f_M_ready S x0 x5 (0 : Int32)).bind fun S4 =>
  (kr_rv S4 23 x0).bind fun u5 =>
  (f_M_write S4 x0 (6 : Int32) x1).bind fun S6 =>
  some (x6, S6)
  else
  (gR S 23 1 x0).bind fun v7 =>
  (bI S v7 (((3 : Int32) * x5) + x7) (0 : Int32)).bind fun S8 =>
  (some (x7 + (1 : Int32))).bind fun i9 =>
  k165 S8 x0 x1 x5 x6 i9
def f_M_finish_L165 : Nat → AS → Option Nat → Int32 → Int32 → Int32 → Int32 → Option (Int32 × AS)
  | 0, S, x0, x1, x5, x6, x7 => none
  | n + 1, S, x0, x1, x5, x6, x7 => f_M_finish_C165 (f_M_finish_L165 n) S x0 x1 x5 x6 x7
def f_M_finish_B131 (S : AS) (x0 : Option Nat) (x1 : Int32) (y0 : Option Nat) (y1 : Int32) (y2 : Int32) : Option (Int32 × AS) :=
  (kr_rv S 23 y0).bind fun u10 =>
  kr_b2 (f_M_mayBoth S y0 y1 y2) fun v12 S11 =>
  if v12 = 0 then
  some ((0 : Int32), S11)
  else
  (gR S11 23 71 x0).bind fun v13 =>
  (aI S11 40 v13 x1).bind fun v14 =>
  (gR S11 23 73 x0).bind fun v15 =>
  (bZ S11 v15 x1 (0 : Int32)).bind fun S16 =>
  (kr_rv S16 23 x0).bind fun u17 =>
  kr_b2 (f_M_endAllOf S16 x0 v14) fun v19 S18 =>
  f_M_finish_L165 kr_FU S18 x0 x1 v14 v19 (0 : Int32)
def f_M_finish_B130 (S : AS) (x0 : Option Nat) (x1 : Int32) (y0 : Option Nat) (y1 : Int32) : Option (Int32 × AS) :=
  f_M_finish_B131 S x0 x1 y0 y1 (0 : Int32)
def f_M_finish_B109 (S : AS) (x0 : Option Nat) (x1 : Int32) (x2 : Int32) (x3 : Int32) (x4 : Int32) : Option (Int32 × AS) :=
  if x3 = 0 then
  f_M_finish_B130 S x0 x1 x0 x2
  else
  (gR S 23 75 x0).bind fun v20 =>
  (aI S 40 v20 x1).bind fun v21 =>
  if v21 < x4 then
  f_M_finish_B130 S x0 x1 x0 x2
  else
  f_M_finish_B131 S x0 x1 x0 x2 (1 : Int32)
def f_M_finish_C60 (k60 : AS → Option Nat → Int32 → Int32 → Int32 → Int32 → Int32 → Option (Int32 × AS)) (S : AS) (x0 : Option Nat) (x1 : Int32) (x2 : Int32) (x3 : Int32) (x4 : Int32) (x5 : Int32) : Option (Int32 × AS) :=
  if (3 : Int32) ≤ x5 then
  f_M_finish_B109 S x0 x1 x2 x3 x4
  else
  if x2 = 0 then
  f_M_finish_B109 S x0 x1 x2 x3 x4
  else
  (gR S 23 1 x0).bind fun v22 =>
  (gR S 23 71 x0).bind fun v23 =>
  (aI S 40 v23 x1).bind fun v24 =>
  (aI S 40 v22 (((3 : Int32) * v24) + x5)).bind fun v25 =>
  if v25 = 0 then
  f_M_finish_B100 k60 S x0 x1 x2 x3 x5 x4 (0 : Int32)
  else
  kr_b2 (f_M_weight S x5) fun v27 S26 =>
  f_M_finish_B100 k60 S26 x0 x1 x2 x3 x5 x4 v27
def f_M_finish_L60 : Nat → AS → Option Nat → Int32 → Int32 → Int32 → Int32 → Int32 → Option (Int32 × AS)
  | 0, S, x0, x1, x2, x3, x4, x5 => none
  | n + 1, S, x0, x1, x2, x3, x4, x5 => f_M_finish_C60 (f_M_finish_L60 n) S x0 x1 x2 x3 x4 x5
def f_M_finish_B53 (S : AS) (x0 : Option Nat) (x1 : Int32) (x2 : Int32) (y0 : Int32) : Option (Int32 × AS) :=
  f_M_finish_L60 kr_FU S x0 x1 x2 y0 (0 : Int32) (0 : Int32)
def f_M_finish_B52 (S : AS) (x0 : Option Nat) (x1 : Int32) (x2 : Int32) : Option (Int32 × AS) :=
  f_M_finish_B53 S x0 x1 x2 (0 : Int32)
def f_M_finish (S : AS) (a0 : Option Nat) (a1 : Int32) : Option (Int32 × AS) :=
  (kr_rv S 23 a0).bind fun u28 =>
  kr_b2 (f_M_isRecovery S a0 a1) fun v30 S29 =>
  if v30 = 0 then
  f_M_finish_B52 S29 a0 a1 v30
  else
  (gR S29 23 73 a0).bind fun v31 =>
  (aI S29 41 v31 a1).bind fun v32 =>
  if v32 = 0 then
  f_M_finish_B52 S29 a0 a1 v30
  else
  (gI S29 23 0 a0).bind fun v33 =>
  (gR S29 23 72 a0).bind fun v34 =>
  (aI S29 40 v34 a1).bind fun v35 =>
  if (v33 - v35) < (60 : Int32) then
  f_M_finish_B52 S29 a0 a1 v30
  else
  (gR S29 23 74 a0).bind fun v36 =>
  (aI S29 40 v36 a1).bind fun v37 =>
  kr_b2 (f_M_many S29 v37) fun v39 S38 =>
  if v39 < (2 : Int32) then
  f_M_finish_B52 S38 a0 a1 v30
  else
  f_M_finish_B53 S38 a0 a1 v30 (1 : Int32)
set_option maxRecDepth 20000 in
set_option maxHeartbeats 4000000 in
theorem s_M_finish_B100 {k60 : AS → Option Nat → Int32 → Int32 → Int32 → Int32 → Int32 → Option (Int32 × AS)} (hk60 : ∀ {S : AS} {x0 : Option Nat} {x1 : Int32} {x2 : Int32} {x3 : Int32} {x4 : Int32} {x5 : Int32} {r : (Int32 × AS)}, k60 S x0 x1 x2 x3 x4 x5 = some r → kr_AW m_M_finish 5 60 [(0, va_rf x0), (1, .int x1), (2, .int x2), (3, .int x3), (4, .int x4), (5, .int x5)] [] S (kr_eI r)) {S : AS} {x0 : Option Nat} {x1 : Int32} {x2 : Int32} {x3 : Int32} {x5 : Int32} {y0 : Int32} {y1 : Int32} {r : (Int32 × AS)} (h : f_M_finish_B100 k60 S x0 x1 x2 x3 x5 y0 y1 = some r) : kr_AW m_M_finish 5 100 [(0, va_rf x0), (1, .int x1), (2, .int x2), (3, .int x3), (5, .int x5)] [.int y1, .int y0] S (kr_eI r) := by
  unfold f_M_finish_B100 at h
  refine r_iadd d_M_finish_100 ?_
  have h2 := kr_ob h
  clear h
  obtain ⟨i1, ei1, h⟩ := h2
  refine kr_nmI ei1 ?_
  refine r_istore (i := 4) (lv' := [(4, .int i1), (0, va_rf x0), (1, .int x1), (2, .int x2), (3, .int x3), (5, .int x5)]) (by decide) rfl d_M_finish_101 ?_
  have h2 := kr_ob h
  clear h
  obtain ⟨i2, ei2, h⟩ := h2
  refine r_iinc (v := i2) (lv' := [(5, .int i2), (4, .int i1), (0, va_rf x0), (1, .int x1), (2, .int x2), (3, .int x3)]) 5 rfl (kr_inc (by decide) ei2) (by decide) rfl d_M_finish_103 ?_
  refine r_goto (tgt := 60) d_M_finish_106 rfl ?_
  exact kr_sub [2, 3, 4, 5, 1, 0] rfl (hk60 h)
set_option maxRecDepth 20000 in
set_option maxHeartbeats 4000000 in
theorem s_M_finish_C165 {k165 : AS → Option Nat → Int32 → Int32 → Int32 → Int32 → Option (Int32 × AS)} (hk165 : ∀ {S : AS} {x0 : Option Nat} {x1 : Int32} {x5 : Int32} {x6 : Int32} {x7 : Int32} {r : (Int32 × AS)}, k165 S x0 x1 x5 x6 x7 = some r → kr_AW m_M_finish 5 165 [(0, va_rf x0), (1, .int x1), (5, .int x5), (6, .int x6), (7, .int x7)] [] S (kr_eI r)) {S : AS} {x0 : Option Nat} {x1 : Int32} {x5 : Int32} {x6 : Int32} {x7 : Int32} {r : (Int32 × AS)} (h : f_M_finish_C165 k165 S x0 x1 x5 x6 x7 = some r) : kr_AW m_M_finish 5 165 [(0, va_rf x0), (1, .int x1), (5, .int x5), (6, .int x6), (7, .int x7)] [] S (kr_eI r) := by
  unfold f_M_finish_C165 at h
  refine r_iload (i := 7) (x := x7) 4 rfl d_M_finish_165 ?_
  refine r_iconst (v := (3 : Int32)) (by decide) d_M_finish_167 ?_
  refine r_icmp_ge (tgt := 190) d_M_finish_168 rfl (fun c => ?_) (fun c => ?_)
  · replace h := kr_ip c h
    refine r_aload_n (i := 0) (x := x0) 0 rfl d_M_finish_190 ?_
    refine r_iload (i := 5) (x := x5) 2 rfl d_M_finish_191 ?_
    refine r_iconst (v := (0 : Int32)) (by decide) d_M_finish_193 ?_
    have h2 := kr_ob h
    clear h
    obtain ⟨⟨⟩, eu3, h⟩ := h2
    have h2 := kr_ob h
    clear h
    obtain ⟨S4, eS4, h⟩ := h2
    refine r_callV (M1 := m_M_ready) (κ := 23) (As := [.int x5, .int (0 : Int32)]) eu3 (s_M_ready eS4) mok_M_ready rfl (by decide) rfl w1754 w1756 w49 (by decide) (kr_c8 kr_c0) d_M_finish_194 (kr_k0 ?_) kr_kn
    refine r_aload_n (i := 0) (x := x0) 0 rfl d_M_finish_197 ?_
    refine r_bipush (v := (6 : Int32)) (by decide) d_M_finish_198 ?_
    refine r_iload_n (i := 1) (x := x1) 1 rfl d_M_finish_200 ?_
    have h2 := kr_ob h
    clear h
    obtain ⟨⟨⟩, eu5, h⟩ := h2
    have h2 := kr_ob h
    clear h
    obtain ⟨S6, eS6, h⟩ := h2
    refine r_callV (M1 := m_M_write) (κ := 23) (As := [.int (6 : Int32), .int x1]) eu5 (s_M_write eS6) mok_M_write rfl (by decide) rfl w1724 w1726 w44 (by decide) (kr_c8 kr_c0) d_M_finish_201 (kr_k0 ?_) kr_kn
    refine r_iload (i := 6) (x := x6) 3 rfl d_M_finish_204 ?_
    cases h
    exact r_iret rfl d_M_finish_206
  · replace h := kr_in_ c h
    refine r_aload_n (i := 0) (x := x0) 0 rfl d_M_finish_171 ?_
    have h2 := kr_ob h
    clear h
    obtain ⟨v7, ev7, h⟩ := h2
    refine r_getR ev7 fk45 rfl d_M_finish_172 ?_
    refine r_iconst (v := (3 : Int32)) (by decide) d_M_finish_175 ?_
    refine r_iload (i := 5) (x := x5) 2 rfl d_M_finish_176 ?_
    refine r_imul d_M_finish_178 ?_
    refine r_iload (i := 7) (x := x7) 4 rfl d_M_finish_179 ?_
    refine r_iadd d_M_finish_181 ?_
    refine r_iconst (v := (0 : Int32)) (by decide) d_M_finish_182 ?_
    have h2 := kr_ob h
    clear h
    obtain ⟨S8, eS8, h⟩ := h2
    refine r_iastore eS8 d_M_finish_183 ?_
    have h2 := kr_ob h
    clear h
    obtain ⟨i9, ei9, h⟩ := h2
    refine r_iinc (v := i9) (lv' := [(7, .int i9), (0, va_rf x0), (1, .int x1), (5, .int x5), (6, .int x6)]) 4 rfl (kr_inc (by decide) ei9) (by decide) rfl d_M_finish_184 ?_
    refine r_goto (tgt := 165) d_M_finish_187 rfl ?_
    exact kr_sub [1, 2, 3, 4, 0] rfl (hk165 h)
theorem s_M_finish_L165 (n : Nat) : ∀ {S : AS} {x0 : Option Nat} {x1 : Int32} {x5 : Int32} {x6 : Int32} {x7 : Int32} {r : (Int32 × AS)}, f_M_finish_L165 n S x0 x1 x5 x6 x7 = some r → kr_AW m_M_finish 5 165 [(0, va_rf x0), (1, .int x1), (5, .int x5), (6, .int x6), (7, .int x7)] [] S (kr_eI r) := by
  induction n with
  | zero => intro S x0 x1 x5 x6 x7 r h; cases h
  | succ n ih => intro S x0 x1 x5 x6 x7 r h; exact s_M_finish_C165 (fun {_} {_} {_} {_} {_} {_} {_} h => ih h) h
set_option maxRecDepth 20000 in
set_option maxHeartbeats 4000000 in
theorem s_M_finish_B131 {S : AS} {x0 : Option Nat} {x1 : Int32} {y0 : Option Nat} {y1 : Int32} {y2 : Int32} {r : (Int32 × AS)} (h : f_M_finish_B131 S x0 x1 y0 y1 y2 = some r) : kr_AW m_M_finish 5 131 [(0, va_rf x0), (1, .int x1)] [.int y2, .int y1, va_rf y0] S (kr_eI r) := by
  unfold f_M_finish_B131 at h
  have h2 := kr_ob h
  clear h
  obtain ⟨⟨⟩, eu10, h⟩ := h2
  have h2 := kr_ob2 h
  clear h
  obtain ⟨v12, S11, eS11, h⟩ := h2
  refine r_callV (M1 := m_M_mayBoth) (κ := 23) (As := [.int y1, .int y2]) eu10 (s_M_mayBoth eS11) mok_M_mayBoth rfl (by decide) rfl w1720 w1722 w43 (by decide) (kr_c8 kr_c0) d_M_finish_131 (kr_k1 ?_) kr_kn
  refine r_if_ne (tgt := 139) d_M_finish_134 rfl (fun c => ?_) (fun c => ?_)
  · replace h := kr_ip c h
    refine r_iconst (v := (0 : Int32)) (by decide) d_M_finish_137 ?_
    cases h
    exact r_iret rfl d_M_finish_138
  · replace h := kr_in_ c h
    refine r_aload_n (i := 0) (x := x0) 0 rfl d_M_finish_139 ?_
    have h2 := kr_ob h
    clear h
    obtain ⟨v13, ev13, h⟩ := h2
    refine r_getR ev13 fk101 rfl d_M_finish_140 ?_
    refine r_iload_n (i := 1) (x := x1) 1 rfl d_M_finish_143 ?_
    have h2 := kr_ob h
    clear h
    obtain ⟨v14, ev14, h⟩ := h2
    refine r_iaload ev14 d_M_finish_144 ?_
    refine r_istore (i := 5) (lv' := [(5, .int v14), (0, va_rf x0), (1, .int x1)]) (by decide) rfl d_M_finish_145 ?_
    refine r_aload_n (i := 0) (x := x0) 1 rfl d_M_finish_147 ?_
    have h2 := kr_ob h
    clear h
    obtain ⟨v15, ev15, h⟩ := h2
    refine r_getR ev15 fk103 rfl d_M_finish_148 ?_
    refine r_iload_n (i := 1) (x := x1) 2 rfl d_M_finish_151 ?_
    refine r_iconst (v := (0 : Int32)) (by decide) d_M_finish_152 ?_
    have h2 := kr_ob h
    clear h
    obtain ⟨S16, eS16, h⟩ := h2
    refine r_bastore eS16 d_M_finish_153 ?_
    refine r_aload_n (i := 0) (x := x0) 1 rfl d_M_finish_154 ?_
    refine r_iload (i := 5) (x := v14) 0 rfl d_M_finish_155 ?_
    have h2 := kr_ob h
    clear h
    obtain ⟨⟨⟩, eu17, h⟩ := h2
    have h2 := kr_ob2 h
    clear h
    obtain ⟨v19, S18, eS18, h⟩ := h2
    refine r_callV (M1 := m_M_endAllOf) (κ := 23) (As := [.int v14]) eu17 (s_M_endAllOf eS18) mok_M_endAllOf rfl (by decide) rfl w2036 w2038 w73 (by decide) (kr_c8 kr_c0) d_M_finish_157 (kr_k1 ?_) kr_kn
    refine r_istore (i := 6) (lv' := [(6, .int v19), (5, .int v14), (0, va_rf x0), (1, .int x1)]) (by decide) rfl d_M_finish_160 ?_
    refine r_iconst (v := (0 : Int32)) (by decide) d_M_finish_162 ?_
    refine r_istore (i := 7) (lv' := [(7, .int (0 : Int32)), (6, .int v19), (5, .int v14), (0, va_rf x0), (1, .int x1)]) (by decide) rfl d_M_finish_163 ?_
    exact kr_sub [3, 4, 2, 1, 0] rfl (s_M_finish_L165 kr_FU h)
set_option maxRecDepth 20000 in
set_option maxHeartbeats 4000000 in
theorem s_M_finish_B130 {S : AS} {x0 : Option Nat} {x1 : Int32} {y0 : Option Nat} {y1 : Int32} {r : (Int32 × AS)} (h : f_M_finish_B130 S x0 x1 y0 y1 = some r) : kr_AW m_M_finish 5 130 [(0, va_rf x0), (1, .int x1)] [.int y1, va_rf y0] S (kr_eI r) := by
  unfold f_M_finish_B130 at h
  refine r_iconst (v := (0 : Int32)) (by decide) d_M_finish_130 ?_
  exact kr_sub [0, 1] rfl (s_M_finish_B131 h)
set_option maxRecDepth 20000 in
set_option maxHeartbeats 4000000 in
theorem s_M_finish_B109 {S : AS} {x0 : Option Nat} {x1 : Int32} {x2 : Int32} {x3 : Int32} {x4 : Int32} {r : (Int32 × AS)} (h : f_M_finish_B109 S x0 x1 x2 x3 x4 = some r) : kr_AW m_M_finish 5 109 [(0, va_rf x0), (1, .int x1), (2, .int x2), (3, .int x3), (4, .int x4)] [] S (kr_eI r) := by
  unfold f_M_finish_B109 at h
  refine r_aload_n (i := 0) (x := x0) 0 rfl d_M_finish_109 ?_
  refine r_iload_n (i := 2) (x := x2) 2 rfl d_M_finish_110 ?_
  refine r_iload_n (i := 3) (x := x3) 3 rfl d_M_finish_111 ?_
  refine r_if_eq (tgt := 130) d_M_finish_112 rfl (fun c => ?_) (fun c => ?_)
  · replace h := kr_ip c h
    exact kr_sub [0, 1] rfl (s_M_finish_B130 h)
  · replace h := kr_in_ c h
    refine r_aload_n (i := 0) (x := x0) 0 rfl d_M_finish_115 ?_
    have h2 := kr_ob h
    clear h
    obtain ⟨v20, ev20, h⟩ := h2
    refine r_getR ev20 fk105 rfl d_M_finish_116 ?_
    refine r_iload_n (i := 1) (x := x1) 1 rfl d_M_finish_119 ?_
    have h2 := kr_ob h
    clear h
    obtain ⟨v21, ev21, h⟩ := h2
    refine r_iaload ev21 d_M_finish_120 ?_
    refine r_iload (i := 4) (x := x4) 4 rfl d_M_finish_121 ?_
    refine r_icmp_lt (tgt := 130) d_M_finish_123 rfl (fun c => ?_) (fun c => ?_)
    · replace h := kr_ip c h
      exact kr_sub [0, 1] rfl (s_M_finish_B130 h)
    · replace h := kr_in_ c h
      refine r_iconst (v := (1 : Int32)) (by decide) d_M_finish_126 ?_
      refine r_goto (tgt := 131) d_M_finish_127 rfl ?_
      exact kr_sub [0, 1] rfl (s_M_finish_B131 h)
set_option maxRecDepth 20000 in
set_option maxHeartbeats 4000000 in
theorem s_M_finish_C60 {k60 : AS → Option Nat → Int32 → Int32 → Int32 → Int32 → Int32 → Option (Int32 × AS)} (hk60 : ∀ {S : AS} {x0 : Option Nat} {x1 : Int32} {x2 : Int32} {x3 : Int32} {x4 : Int32} {x5 : Int32} {r : (Int32 × AS)}, k60 S x0 x1 x2 x3 x4 x5 = some r → kr_AW m_M_finish 5 60 [(0, va_rf x0), (1, .int x1), (2, .int x2), (3, .int x3), (4, .int x4), (5, .int x5)] [] S (kr_eI r)) {S : AS} {x0 : Option Nat} {x1 : Int32} {x2 : Int32} {x3 : Int32} {x4 : Int32} {x5 : Int32} {r : (Int32 × AS)} (h : f_M_finish_C60 k60 S x0 x1 x2 x3 x4 x5 = some r) : kr_AW m_M_finish 5 60 [(0, va_rf x0), (1, .int x1), (2, .int x2), (3, .int x3), (4, .int x4), (5, .int x5)] [] S (kr_eI r) := by
  unfold f_M_finish_C60 at h
  refine r_iload (i := 5) (x := x5) 5 rfl d_M_finish_60 ?_
  refine r_iconst (v := (3 : Int32)) (by decide) d_M_finish_62 ?_
  refine r_icmp_ge (tgt := 109) d_M_finish_63 rfl (fun c => ?_) (fun c => ?_)
  · replace h := kr_ip c h
    exact kr_sub [0, 1, 2, 3, 4] rfl (s_M_finish_B109 h)
  · replace h := kr_in_ c h
    refine r_iload_n (i := 2) (x := x2) 2 rfl d_M_finish_66 ?_
    refine r_if_eq (tgt := 109) d_M_finish_67 rfl (fun c => ?_) (fun c => ?_)
    · replace h := kr_ip c h
      exact kr_sub [0, 1, 2, 3, 4] rfl (s_M_finish_B109 h)
    · replace h := kr_in_ c h
      refine r_iload (i := 4) (x := x4) 4 rfl d_M_finish_70 ?_
      refine r_aload_n (i := 0) (x := x0) 0 rfl d_M_finish_72 ?_
      have h2 := kr_ob h
      clear h
      obtain ⟨v22, ev22, h⟩ := h2
      refine r_getR ev22 fk45 rfl d_M_finish_73 ?_
      refine r_iconst (v := (3 : Int32)) (by decide) d_M_finish_76 ?_
      refine r_aload_n (i := 0) (x := x0) 0 rfl d_M_finish_77 ?_
      have h2 := kr_ob h
      clear h
      obtain ⟨v23, ev23, h⟩ := h2
      refine r_getR ev23 fk101 rfl d_M_finish_78 ?_
      refine r_iload_n (i := 1) (x := x1) 1 rfl d_M_finish_81 ?_
      have h2 := kr_ob h
      clear h
      obtain ⟨v24, ev24, h⟩ := h2
      refine r_iaload ev24 d_M_finish_82 ?_
      refine r_imul d_M_finish_83 ?_
      refine r_iload (i := 5) (x := x5) 5 rfl d_M_finish_84 ?_
      refine r_iadd d_M_finish_86 ?_
      have h2 := kr_ob h
      clear h
      obtain ⟨v25, ev25, h⟩ := h2
      refine r_iaload ev25 d_M_finish_87 ?_
      refine r_if_eq (tgt := 99) d_M_finish_88 rfl (fun c => ?_) (fun c => ?_)
      · replace h := kr_ip c h
        refine r_iconst (v := (0 : Int32)) (by decide) d_M_finish_99 ?_
        exact kr_sub [0, 1, 2, 3, 5] rfl (s_M_finish_B100 hk60 h)
      · replace h := kr_in_ c h
        refine r_iload (i := 5) (x := x5) 5 rfl d_M_finish_91 ?_
        have h2 := kr_ob2 h
        clear h
        obtain ⟨v27, S26, eS26, h⟩ := h2
        refine r_callS (M1 := m_M_weight) (As := [.int x5]) (s_M_weight eS26) mok_M_weight rfl w2033 w2034 (by decide) (kr_c8 (kr_cI kr_c0)) d_M_finish_93 (kr_k1 ?_) kr_kn
        refine r_goto (tgt := 100) d_M_finish_96 rfl ?_
        exact kr_sub [0, 1, 2, 3, 5] rfl (s_M_finish_B100 hk60 h)
theorem s_M_finish_L60 (n : Nat) : ∀ {S : AS} {x0 : Option Nat} {x1 : Int32} {x2 : Int32} {x3 : Int32} {x4 : Int32} {x5 : Int32} {r : (Int32 × AS)}, f_M_finish_L60 n S x0 x1 x2 x3 x4 x5 = some r → kr_AW m_M_finish 5 60 [(0, va_rf x0), (1, .int x1), (2, .int x2), (3, .int x3), (4, .int x4), (5, .int x5)] [] S (kr_eI r) := by
  induction n with
  | zero => intro S x0 x1 x2 x3 x4 x5 r h; cases h
  | succ n ih => intro S x0 x1 x2 x3 x4 x5 r h; exact s_M_finish_C60 (fun {_} {_} {_} {_} {_} {_} {_} {_} h => ih h) h
set_option maxRecDepth 20000 in
set_option maxHeartbeats 4000000 in
theorem s_M_finish_B53 {S : AS} {x0 : Option Nat} {x1 : Int32} {x2 : Int32} {y0 : Int32} {r : (Int32 × AS)} (h : f_M_finish_B53 S x0 x1 x2 y0 = some r) : kr_AW m_M_finish 5 53 [(0, va_rf x0), (1, .int x1), (2, .int x2)] [.int y0] S (kr_eI r) := by
  unfold f_M_finish_B53 at h
  refine r_istore_n (i := 3) (lv' := [(3, .int y0), (0, va_rf x0), (1, .int x1), (2, .int x2)]) (by decide) rfl d_M_finish_53 ?_
  refine r_iconst (v := (0 : Int32)) (by decide) d_M_finish_54 ?_
  refine r_istore (i := 4) (lv' := [(4, .int (0 : Int32)), (3, .int y0), (0, va_rf x0), (1, .int x1), (2, .int x2)]) (by decide) rfl d_M_finish_55 ?_
  refine r_iconst (v := (0 : Int32)) (by decide) d_M_finish_57 ?_
  refine r_istore (i := 5) (lv' := [(5, .int (0 : Int32)), (4, .int (0 : Int32)), (3, .int y0), (0, va_rf x0), (1, .int x1), (2, .int x2)]) (by decide) rfl d_M_finish_58 ?_
  exact kr_sub [3, 4, 5, 2, 1, 0] rfl (s_M_finish_L60 kr_FU h)
set_option maxRecDepth 20000 in
set_option maxHeartbeats 4000000 in
theorem s_M_finish_B52 {S : AS} {x0 : Option Nat} {x1 : Int32} {x2 : Int32} {r : (Int32 × AS)} (h : f_M_finish_B52 S x0 x1 x2 = some r) : kr_AW m_M_finish 5 52 [(0, va_rf x0), (1, .int x1), (2, .int x2)] [] S (kr_eI r) := by
  unfold f_M_finish_B52 at h
  refine r_iconst (v := (0 : Int32)) (by decide) d_M_finish_52 ?_
  exact kr_sub [0, 1, 2] rfl (s_M_finish_B53 h)
set_option maxRecDepth 20000 in
set_option maxHeartbeats 4000000 in
theorem s_M_finish {S : AS} {a0 : Option Nat} {a1 : Int32} {r : (Int32 × AS)} (h : f_M_finish S a0 a1 = some r) : kr_Con m_M_finish 5 [va_rf a0, .int a1] S (kr_eI r) := by
  refine kr_con rfl rfl (by decide +kernel) (by simp [lg_sl, kr_rfcat, kr_icat, m_M_finish, mL]) ?_
  rw [show lv_args 0 [va_rf a0, .int a1] = [(0, va_rf a0), (1, .int a1)] from by simp [lv_args, kr_rfcat, kr_icat]]
  unfold f_M_finish at h
  refine r_aload_n (i := 0) (x := a0) 0 rfl d_M_finish_0 ?_
  refine r_iload_n (i := 1) (x := a1) 1 rfl d_M_finish_1 ?_
  have h2 := kr_ob h
  clear h
  obtain ⟨⟨⟩, eu28, h⟩ := h2
  have h2 := kr_ob2 h
  clear h
  obtain ⟨v30, S29, eS29, h⟩ := h2
  refine r_callV (M1 := m_M_isRecovery) (κ := 23) (As := [.int a1]) eu28 (s_M_isRecovery eS29) mok_M_isRecovery rfl (by decide) rfl w2014 w2016 w71 (by decide) (kr_c8 kr_c0) d_M_finish_2 (kr_k1 ?_) kr_kn
  refine r_istore_n (i := 2) (lv' := [(2, .int v30), (0, va_rf a0), (1, .int a1)]) (by decide) rfl d_M_finish_5 ?_
  refine r_iload_n (i := 2) (x := v30) 0 rfl d_M_finish_6 ?_
  refine r_if_eq (tgt := 52) d_M_finish_7 rfl (fun c => ?_) (fun c => ?_)
  · replace h := kr_ip c h
    exact kr_sub [1, 2, 0] rfl (s_M_finish_B52 h)
  · replace h := kr_in_ c h
    refine r_aload_n (i := 0) (x := a0) 1 rfl d_M_finish_10 ?_
    have h2 := kr_ob h
    clear h
    obtain ⟨v31, ev31, h⟩ := h2
    refine r_getR ev31 fk103 rfl d_M_finish_11 ?_
    refine r_iload_n (i := 1) (x := a1) 2 rfl d_M_finish_14 ?_
    have h2 := kr_ob h
    clear h
    obtain ⟨v32, ev32, h⟩ := h2
    refine r_baload ev32 d_M_finish_15 ?_
    refine r_if_eq (tgt := 52) d_M_finish_16 rfl (fun c => ?_) (fun c => ?_)
    · replace h := kr_ip c h
      exact kr_sub [1, 2, 0] rfl (s_M_finish_B52 h)
    · replace h := kr_in_ c h
      refine r_aload_n (i := 0) (x := a0) 1 rfl d_M_finish_19 ?_
      have h2 := kr_ob h
      clear h
      obtain ⟨v33, ev33, h⟩ := h2
      refine r_getI ev33 fk130 rfl d_M_finish_20 ?_
      refine r_aload_n (i := 0) (x := a0) 1 rfl d_M_finish_23 ?_
      have h2 := kr_ob h
      clear h
      obtain ⟨v34, ev34, h⟩ := h2
      refine r_getR ev34 fk102 rfl d_M_finish_24 ?_
      refine r_iload_n (i := 1) (x := a1) 2 rfl d_M_finish_27 ?_
      have h2 := kr_ob h
      clear h
      obtain ⟨v35, ev35, h⟩ := h2
      refine r_iaload ev35 d_M_finish_28 ?_
      refine r_isub d_M_finish_29 ?_
      refine r_bipush (v := (60 : Int32)) (by decide) d_M_finish_30 ?_
      refine r_icmp_lt (tgt := 52) d_M_finish_32 rfl (fun c => ?_) (fun c => ?_)
      · replace h := kr_ip c h
        exact kr_sub [1, 2, 0] rfl (s_M_finish_B52 h)
      · replace h := kr_in_ c h
        refine r_aload_n (i := 0) (x := a0) 1 rfl d_M_finish_35 ?_
        have h2 := kr_ob h
        clear h
        obtain ⟨v36, ev36, h⟩ := h2
        refine r_getR ev36 fk104 rfl d_M_finish_36 ?_
        refine r_iload_n (i := 1) (x := a1) 2 rfl d_M_finish_39 ?_
        have h2 := kr_ob h
        clear h
        obtain ⟨v37, ev37, h⟩ := h2
        refine r_iaload ev37 d_M_finish_40 ?_
        have h2 := kr_ob2 h
        clear h
        obtain ⟨v39, S38, eS38, h⟩ := h2
        refine r_callS (M1 := m_M_many) (As := [.int v37]) (s_M_many eS38) mok_M_many rfl w2026 w2027 (by decide) (kr_c8 kr_c0) d_M_finish_41 (kr_k1 ?_) kr_kn
        refine r_iconst (v := (2 : Int32)) (by decide) d_M_finish_44 ?_
        refine r_icmp_lt (tgt := 52) d_M_finish_45 rfl (fun c => ?_) (fun c => ?_)
        · replace h := kr_ip c h
          exact kr_sub [1, 2, 0] rfl (s_M_finish_B52 h)
        · replace h := kr_in_ c h
          refine r_iconst (v := (1 : Int32)) (by decide) d_M_finish_48 ?_
          refine r_goto (tgt := 53) d_M_finish_49 rfl ?_
          exact kr_sub [1, 2, 0] rfl (s_M_finish_B53 h)
/-! KeyringCourtModel.link(II)I -/
def f_M_link_B58 (S : AS) (x0 : Option Nat) (x1 : Int32) (x2 : Int32) (y0 : Option Nat) (y1 : Int32) (y2 : Int32) : Option (Int32 × AS) :=
  (kr_rv S 23 y0).bind fun u1 =>
  kr_b2 (f_M_mayBoth S y0 y1 y2) fun v3 S2 =>
  if v3 = 0 then
  some ((0 : Int32), S2)
  else
  (gR S2 23 76 x0).bind fun v4 =>
  (aI S2 40 v4 x1).bind fun v5 =>
  (gR S2 23 76 x0).bind fun v6 =>
  (bI S2 v6 x1 x2).bind fun S7 =>
  some (v5, S7)
def f_M_link_B53 (S : AS) (x0 : Option Nat) (x1 : Int32) (x2 : Int32) (y0 : Option Nat) (y1 : Int32) : Option (Int32 × AS) :=
  f_M_link_B58 S x0 x1 x2 y0 y1 (1 : Int32)
def f_M_link_B57 (S : AS) (x0 : Option Nat) (x1 : Int32) (x2 : Int32) (y0 : Option Nat) (y1 : Int32) : Option (Int32 × AS) :=
  f_M_link_B58 S x0 x1 x2 y0 y1 (0 : Int32)
def f_M_link_B21 (S : AS) (x0 : Option Nat) (x1 : Int32) (x2 : Int32) (y0 : Int32) : Option (Int32 × AS) :=
  if y0 = 0 then
  f_M_link_B57 S x0 x1 x2 x0 y0
  else
  if x2 = (-1 : Int32) then
  f_M_link_B53 S x0 x1 x2 x0 y0
  else
  (gR S 23 76 x0).bind fun v8 =>
  (aI S 40 v8 x1).bind fun v9 =>
  if v9 = (-1 : Int32) then
  f_M_link_B53 S x0 x1 x2 x0 y0
  else
  (gR S 23 76 x0).bind fun v10 =>
  (aI S 40 v10 x1).bind fun v11 =>
  if v11 = x2 then
  f_M_link_B53 S x0 x1 x2 x0 y0
  else
  f_M_link_B57 S x0 x1 x2 x0 y0
def f_M_link_B20 (S : AS) (x0 : Option Nat) (x1 : Int32) (x2 : Int32) : Option (Int32 × AS) :=
  f_M_link_B21 S x0 x1 x2 (0 : Int32)
def f_M_link (S : AS) (a0 : Option Nat) (a1 : Int32) (a2 : Int32) : Option (Int32 × AS) :=
  kr_b2 (f_M_isSix S a1) fun v13 S12 =>
  if v13 = 0 then
  f_M_link_B20 S12 a0 a1 a2
  else
  kr_b2 (f_M_isIn S12 a2 (-1 : Int32) (5 : Int32)) fun v15 S14 =>
  if v15 = 0 then
  f_M_link_B20 S14 a0 a1 a2
  else
  f_M_link_B21 S14 a0 a1 a2 (1 : Int32)
set_option maxRecDepth 20000 in
set_option maxHeartbeats 4000000 in
theorem s_M_link_B58 {S : AS} {x0 : Option Nat} {x1 : Int32} {x2 : Int32} {y0 : Option Nat} {y1 : Int32} {y2 : Int32} {r : (Int32 × AS)} (h : f_M_link_B58 S x0 x1 x2 y0 y1 y2 = some r) : kr_AW m_M_link 2 58 [(0, va_rf x0), (1, .int x1), (2, .int x2)] [.int y2, .int y1, va_rf y0] S (kr_eI r) := by
  unfold f_M_link_B58 at h
  have h2 := kr_ob h
  clear h
  obtain ⟨⟨⟩, eu1, h⟩ := h2
  have h2 := kr_ob2 h
  clear h
  obtain ⟨v3, S2, eS2, h⟩ := h2
  refine r_callV (M1 := m_M_mayBoth) (κ := 23) (As := [.int y1, .int y2]) eu1 (s_M_mayBoth eS2) mok_M_mayBoth rfl (by decide) rfl w1720 w1722 w43 (by decide) (kr_c8 kr_c0) d_M_link_58 (kr_k1 ?_) kr_kn
  refine r_if_ne (tgt := 66) d_M_link_61 rfl (fun c => ?_) (fun c => ?_)
  · replace h := kr_ip c h
    refine r_iconst (v := (0 : Int32)) (by decide) d_M_link_64 ?_
    cases h
    exact r_iret rfl d_M_link_65
  · replace h := kr_in_ c h
    refine r_aload_n (i := 0) (x := x0) 0 rfl d_M_link_66 ?_
    have h2 := kr_ob h
    clear h
    obtain ⟨v4, ev4, h⟩ := h2
    refine r_getR ev4 fk39 rfl d_M_link_67 ?_
    refine r_iload_n (i := 1) (x := x1) 1 rfl d_M_link_70 ?_
    have h2 := kr_ob h
    clear h
    obtain ⟨v5, ev5, h⟩ := h2
    refine r_iaload ev5 d_M_link_71 ?_
    refine r_istore (i := 4) (lv' := [(4, .int v5), (0, va_rf x0), (1, .int x1), (2, .int x2)]) (by decide) rfl d_M_link_72 ?_
    refine r_aload_n (i := 0) (x := x0) 1 rfl d_M_link_74 ?_
    have h2 := kr_ob h
    clear h
    obtain ⟨v6, ev6, h⟩ := h2
    refine r_getR ev6 fk39 rfl d_M_link_75 ?_
    refine r_iload_n (i := 1) (x := x1) 2 rfl d_M_link_78 ?_
    refine r_iload_n (i := 2) (x := x2) 3 rfl d_M_link_79 ?_
    have h2 := kr_ob h
    clear h
    obtain ⟨S7, eS7, h⟩ := h2
    refine r_iastore eS7 d_M_link_80 ?_
    refine r_iload (i := 4) (x := v5) 0 rfl d_M_link_81 ?_
    cases h
    exact r_iret rfl d_M_link_83
set_option maxRecDepth 20000 in
set_option maxHeartbeats 4000000 in
theorem s_M_link_B53 {S : AS} {x0 : Option Nat} {x1 : Int32} {x2 : Int32} {y0 : Option Nat} {y1 : Int32} {r : (Int32 × AS)} (h : f_M_link_B53 S x0 x1 x2 y0 y1 = some r) : kr_AW m_M_link 2 53 [(0, va_rf x0), (1, .int x1), (2, .int x2)] [.int y1, va_rf y0] S (kr_eI r) := by
  unfold f_M_link_B53 at h
  refine r_iconst (v := (1 : Int32)) (by decide) d_M_link_53 ?_
  refine r_goto (tgt := 58) d_M_link_54 rfl ?_
  exact kr_sub [0, 1, 2] rfl (s_M_link_B58 h)
set_option maxRecDepth 20000 in
set_option maxHeartbeats 4000000 in
theorem s_M_link_B57 {S : AS} {x0 : Option Nat} {x1 : Int32} {x2 : Int32} {y0 : Option Nat} {y1 : Int32} {r : (Int32 × AS)} (h : f_M_link_B57 S x0 x1 x2 y0 y1 = some r) : kr_AW m_M_link 2 57 [(0, va_rf x0), (1, .int x1), (2, .int x2)] [.int y1, va_rf y0] S (kr_eI r) := by
  unfold f_M_link_B57 at h
  refine r_iconst (v := (0 : Int32)) (by decide) d_M_link_57 ?_
  exact kr_sub [0, 1, 2] rfl (s_M_link_B58 h)
set_option maxRecDepth 20000 in
set_option maxHeartbeats 4000000 in
theorem s_M_link_B21 {S : AS} {x0 : Option Nat} {x1 : Int32} {x2 : Int32} {y0 : Int32} {r : (Int32 × AS)} (h : f_M_link_B21 S x0 x1 x2 y0 = some r) : kr_AW m_M_link 2 21 [(0, va_rf x0), (1, .int x1), (2, .int x2)] [.int y0] S (kr_eI r) := by
  unfold f_M_link_B21 at h
  refine r_istore_n (i := 3) (lv' := [(3, .int y0), (0, va_rf x0), (1, .int x1), (2, .int x2)]) (by decide) rfl d_M_link_21 ?_
  refine r_aload_n (i := 0) (x := x0) 1 rfl d_M_link_22 ?_
  refine r_iload_n (i := 3) (x := y0) 0 rfl d_M_link_23 ?_
  refine r_iload_n (i := 3) (x := y0) 0 rfl d_M_link_24 ?_
  refine r_if_eq (tgt := 57) d_M_link_25 rfl (fun c => ?_) (fun c => ?_)
  · replace h := kr_ip c h
    exact kr_sub [1, 2, 3] rfl (s_M_link_B57 h)
  · replace h := kr_in_ c h
    refine r_iload_n (i := 2) (x := x2) 3 rfl d_M_link_28 ?_
    refine r_iconst (v := (-1 : Int32)) (by decide) d_M_link_29 ?_
    refine r_icmp_eq (tgt := 53) d_M_link_30 rfl (fun c => ?_) (fun c => ?_)
    · replace h := kr_ip c h
      exact kr_sub [1, 2, 3] rfl (s_M_link_B53 h)
    · replace h := kr_in_ c h
      refine r_aload_n (i := 0) (x := x0) 1 rfl d_M_link_33 ?_
      have h2 := kr_ob h
      clear h
      obtain ⟨v8, ev8, h⟩ := h2
      refine r_getR ev8 fk39 rfl d_M_link_34 ?_
      refine r_iload_n (i := 1) (x := x1) 2 rfl d_M_link_37 ?_
      have h2 := kr_ob h
      clear h
      obtain ⟨v9, ev9, h⟩ := h2
      refine r_iaload ev9 d_M_link_38 ?_
      refine r_iconst (v := (-1 : Int32)) (by decide) d_M_link_39 ?_
      refine r_icmp_eq (tgt := 53) d_M_link_40 rfl (fun c => ?_) (fun c => ?_)
      · replace h := kr_ip c h
        exact kr_sub [1, 2, 3] rfl (s_M_link_B53 h)
      · replace h := kr_in_ c h
        refine r_aload_n (i := 0) (x := x0) 1 rfl d_M_link_43 ?_
        have h2 := kr_ob h
        clear h
        obtain ⟨v10, ev10, h⟩ := h2
        refine r_getR ev10 fk39 rfl d_M_link_44 ?_
        refine r_iload_n (i := 1) (x := x1) 2 rfl d_M_link_47 ?_
        have h2 := kr_ob h
        clear h
        obtain ⟨v11, ev11, h⟩ := h2
        refine r_iaload ev11 d_M_link_48 ?_
        refine r_iload_n (i := 2) (x := x2) 3 rfl d_M_link_49 ?_
        refine r_icmp_ne (tgt := 57) d_M_link_50 rfl (fun c => ?_) (fun c => ?_)
        · replace h := kr_ip c h
          exact kr_sub [1, 2, 3] rfl (s_M_link_B53 h)
        · replace h := kr_in_ c h
          exact kr_sub [1, 2, 3] rfl (s_M_link_B57 h)
set_option maxRecDepth 20000 in
set_option maxHeartbeats 4000000 in
theorem s_M_link_B20 {S : AS} {x0 : Option Nat} {x1 : Int32} {x2 : Int32} {r : (Int32 × AS)} (h : f_M_link_B20 S x0 x1 x2 = some r) : kr_AW m_M_link 2 20 [(0, va_rf x0), (1, .int x1), (2, .int x2)] [] S (kr_eI r) := by
  unfold f_M_link_B20 at h
  refine r_iconst (v := (0 : Int32)) (by decide) d_M_link_20 ?_
  exact kr_sub [0, 1, 2] rfl (s_M_link_B21 h)
set_option maxRecDepth 20000 in
set_option maxHeartbeats 4000000 in
theorem s_M_link {S : AS} {a0 : Option Nat} {a1 : Int32} {a2 : Int32} {r : (Int32 × AS)} (h : f_M_link S a0 a1 a2 = some r) : kr_Con m_M_link 2 [va_rf a0, .int a1, .int a2] S (kr_eI r) := by
  refine kr_con rfl rfl (by decide +kernel) (by simp [lg_sl, kr_rfcat, kr_icat, m_M_link, mL]) ?_
  rw [show lv_args 0 [va_rf a0, .int a1, .int a2] = [(0, va_rf a0), (1, .int a1), (2, .int a2)] from by simp [lv_args, kr_rfcat, kr_icat]]
  unfold f_M_link at h
  refine r_iload_n (i := 1) (x := a1) 1 rfl d_M_link_0 ?_
  have h2 := kr_ob2 h
  clear h
  obtain ⟨v13, S12, eS12, h⟩ := h2
  refine r_callS (M1 := m_M_isSix) (As := [.int a1]) (s_M_isSix eS12) mok_M_isSix rfl w1748 w1749 (by decide) (kr_c8 kr_c0) d_M_link_1 (kr_k1 ?_) kr_kn
  refine r_if_eq (tgt := 20) d_M_link_4 rfl (fun c => ?_) (fun c => ?_)
  · replace h := kr_ip c h
    exact kr_sub [0, 1, 2] rfl (s_M_link_B20 h)
  · replace h := kr_in_ c h
    refine r_iload_n (i := 2) (x := a2) 2 rfl d_M_link_7 ?_
    refine r_iconst (v := (-1 : Int32)) (by decide) d_M_link_8 ?_
    refine r_iconst (v := (5 : Int32)) (by decide) d_M_link_9 ?_
    have h2 := kr_ob2 h
    clear h
    obtain ⟨v15, S14, eS14, h⟩ := h2
    refine r_callS (M1 := m_M_isIn) (As := [.int a2, .int (-1 : Int32), .int (5 : Int32)]) (s_M_isIn eS14) mok_M_isIn rfl w1700 w1701 (by decide) (kr_c8 kr_c0) d_M_link_10 (kr_k1 ?_) kr_kn
    refine r_if_eq (tgt := 20) d_M_link_13 rfl (fun c => ?_) (fun c => ?_)
    · replace h := kr_ip c h
      exact kr_sub [0, 1, 2] rfl (s_M_link_B20 h)
    · replace h := kr_in_ c h
      refine r_iconst (v := (1 : Int32)) (by decide) d_M_link_16 ?_
      refine r_goto (tgt := 21) d_M_link_17 rfl ?_
      exact kr_sub [0, 1, 2] rfl (s_M_link_B21 h)
/-! KeyringCourtModel.foreign(I)I -/
def f_M_foreign_B49 (S : AS) (x0 : Option Nat) (x1 : Int32) (y0 : Option Nat) (y1 : Int32) (y2 : Int32) : Option (Int32 × AS) :=
  (kr_rv S 23 y0).bind fun u1 =>
  kr_b2 (f_M_mayBoth S y0 y1 y2) fun v3 S2 =>
  if v3 = 0 then
  some ((0 : Int32), S2)
  else
  (gR S2 23 76 x0).bind fun v4 =>
  (aI S2 40 v4 x1).bind fun v5 =>
  (kr_rv S2 23 x0).bind fun u6 =>
  kr_b2 (f_M_newSession S2 x0 v5 (-1 : Int32)) fun v8 S7 =>
  some (v8, S7)
def f_M_foreign_B48 (S : AS) (x0 : Option Nat) (x1 : Int32) (y0 : Option Nat) (y1 : Int32) : Option (Int32 × AS) :=
  f_M_foreign_B49 S x0 x1 y0 y1 (0 : Int32)
def f_M_foreign (S : AS) (a0 : Option Nat) (a1 : Int32) : Option (Int32 × AS) :=
  kr_b2 (f_M_isSix S a1) fun v10 S9 =>
  if v10 = 0 then
  f_M_foreign_B48 S9 a0 a1 a0 v10
  else
  (gR S9 23 76 a0).bind fun v11 =>
  (aI S9 40 v11 a1).bind fun v12 =>
  if v12 = (-1 : Int32) then
  f_M_foreign_B48 S9 a0 a1 a0 v10
  else
  (gR S9 23 7 a0).bind fun v13 =>
  (gR S9 23 76 a0).bind fun v14 =>
  (aI S9 40 v14 a1).bind fun v15 =>
  (aI S9 41 v13 v15).bind fun v16 =>
  if v16 = 0 then
  (gI S9 23 30 a0).bind fun v17 =>
  if (60 : Int32) ≤ v17 then
  f_M_foreign_B48 S9 a0 a1 a0 v10
  else
  f_M_foreign_B49 S9 a0 a1 a0 v10 (1 : Int32)
  else
  f_M_foreign_B48 S9 a0 a1 a0 v10
set_option maxRecDepth 20000 in
set_option maxHeartbeats 4000000 in
theorem s_M_foreign_B49 {S : AS} {x0 : Option Nat} {x1 : Int32} {y0 : Option Nat} {y1 : Int32} {y2 : Int32} {r : (Int32 × AS)} (h : f_M_foreign_B49 S x0 x1 y0 y1 y2 = some r) : kr_AW m_M_foreign 2 49 [(0, va_rf x0), (1, .int x1)] [.int y2, .int y1, va_rf y0] S (kr_eI r) := by
  unfold f_M_foreign_B49 at h
  have h2 := kr_ob h
  clear h
  obtain ⟨⟨⟩, eu1, h⟩ := h2
  have h2 := kr_ob2 h
  clear h
  obtain ⟨v3, S2, eS2, h⟩ := h2
  refine r_callV (M1 := m_M_mayBoth) (κ := 23) (As := [.int y1, .int y2]) eu1 (s_M_mayBoth eS2) mok_M_mayBoth rfl (by decide) rfl w1720 w1722 w43 (by decide) (kr_c8 kr_c0) d_M_foreign_49 (kr_k1 ?_) kr_kn
  refine r_if_eq (tgt := 69) d_M_foreign_52 rfl (fun c => ?_) (fun c => ?_)
  · replace h := kr_ip c h
    refine r_iconst (v := (0 : Int32)) (by decide) d_M_foreign_69 ?_
    cases h
    exact r_iret rfl d_M_foreign_70
  · replace h := kr_in_ c h
    refine r_aload_n (i := 0) (x := x0) 0 rfl d_M_foreign_55 ?_
    refine r_aload_n (i := 0) (x := x0) 0 rfl d_M_foreign_56 ?_
    have h2 := kr_ob h
    clear h
    obtain ⟨v4, ev4, h⟩ := h2
    refine r_getR ev4 fk39 rfl d_M_foreign_57 ?_
    refine r_iload_n (i := 1) (x := x1) 1 rfl d_M_foreign_60 ?_
    have h2 := kr_ob h
    clear h
    obtain ⟨v5, ev5, h⟩ := h2
    refine r_iaload ev5 d_M_foreign_61 ?_
    refine r_iconst (v := (-1 : Int32)) (by decide) d_M_foreign_62 ?_
    have h2 := kr_ob h
    clear h
    obtain ⟨⟨⟩, eu6, h⟩ := h2
    have h2 := kr_ob2 h
    clear h
    obtain ⟨v8, S7, eS7, h⟩ := h2
    refine r_callV (M1 := m_M_newSession) (κ := 23) (As := [.int v5, .int (-1 : Int32)]) eu6 (s_M_newSession eS7) mok_M_newSession rfl (by decide) rfl w1831 w1833 w59 (by decide) (kr_c8 kr_c0) d_M_foreign_63 (kr_k1 ?_) kr_kn
    refine r_goto (tgt := 70) d_M_foreign_66 rfl ?_
    cases h
    exact r_iret rfl d_M_foreign_70
set_option maxRecDepth 20000 in
set_option maxHeartbeats 4000000 in
theorem s_M_foreign_B48 {S : AS} {x0 : Option Nat} {x1 : Int32} {y0 : Option Nat} {y1 : Int32} {r : (Int32 × AS)} (h : f_M_foreign_B48 S x0 x1 y0 y1 = some r) : kr_AW m_M_foreign 2 48 [(0, va_rf x0), (1, .int x1)] [.int y1, va_rf y0] S (kr_eI r) := by
  unfold f_M_foreign_B48 at h
  refine r_iconst (v := (0 : Int32)) (by decide) d_M_foreign_48 ?_
  exact kr_sub [0, 1] rfl (s_M_foreign_B49 h)
set_option maxRecDepth 20000 in
set_option maxHeartbeats 4000000 in
theorem s_M_foreign {S : AS} {a0 : Option Nat} {a1 : Int32} {r : (Int32 × AS)} (h : f_M_foreign S a0 a1 = some r) : kr_Con m_M_foreign 2 [va_rf a0, .int a1] S (kr_eI r) := by
  refine kr_con rfl rfl (by decide +kernel) (by simp [lg_sl, kr_rfcat, kr_icat, m_M_foreign, mL]) ?_
  rw [show lv_args 0 [va_rf a0, .int a1] = [(0, va_rf a0), (1, .int a1)] from by simp [lv_args, kr_rfcat, kr_icat]]
  unfold f_M_foreign at h
  refine r_iload_n (i := 1) (x := a1) 1 rfl d_M_foreign_0 ?_
  have h2 := kr_ob2 h
  clear h
  obtain ⟨v10, S9, eS9, h⟩ := h2
  refine r_callS (M1 := m_M_isSix) (As := [.int a1]) (s_M_isSix eS9) mok_M_isSix rfl w1748 w1749 (by decide) (kr_c8 kr_c0) d_M_foreign_1 (kr_k1 ?_) kr_kn
  refine r_istore_n (i := 2) (lv' := [(2, .int v10), (0, va_rf a0), (1, .int a1)]) (by decide) rfl d_M_foreign_4 ?_
  refine r_aload_n (i := 0) (x := a0) 1 rfl d_M_foreign_5 ?_
  refine r_iload_n (i := 2) (x := v10) 0 rfl d_M_foreign_6 ?_
  refine r_iload_n (i := 2) (x := v10) 0 rfl d_M_foreign_7 ?_
  refine r_if_eq (tgt := 48) d_M_foreign_8 rfl (fun c => ?_) (fun c => ?_)
  · replace h := kr_ip c h
    exact kr_sub [1, 2] rfl (s_M_foreign_B48 h)
  · replace h := kr_in_ c h
    refine r_aload_n (i := 0) (x := a0) 1 rfl d_M_foreign_11 ?_
    have h2 := kr_ob h
    clear h
    obtain ⟨v11, ev11, h⟩ := h2
    refine r_getR ev11 fk39 rfl d_M_foreign_12 ?_
    refine r_iload_n (i := 1) (x := a1) 2 rfl d_M_foreign_15 ?_
    have h2 := kr_ob h
    clear h
    obtain ⟨v12, ev12, h⟩ := h2
    refine r_iaload ev12 d_M_foreign_16 ?_
    refine r_iconst (v := (-1 : Int32)) (by decide) d_M_foreign_17 ?_
    refine r_icmp_eq (tgt := 48) d_M_foreign_18 rfl (fun c => ?_) (fun c => ?_)
    · replace h := kr_ip c h
      exact kr_sub [1, 2] rfl (s_M_foreign_B48 h)
    · replace h := kr_in_ c h
      refine r_aload_n (i := 0) (x := a0) 1 rfl d_M_foreign_21 ?_
      have h2 := kr_ob h
      clear h
      obtain ⟨v13, ev13, h⟩ := h2
      refine r_getR ev13 fk50 rfl d_M_foreign_22 ?_
      refine r_aload_n (i := 0) (x := a0) 1 rfl d_M_foreign_25 ?_
      have h2 := kr_ob h
      clear h
      obtain ⟨v14, ev14, h⟩ := h2
      refine r_getR ev14 fk39 rfl d_M_foreign_26 ?_
      refine r_iload_n (i := 1) (x := a1) 2 rfl d_M_foreign_29 ?_
      have h2 := kr_ob h
      clear h
      obtain ⟨v15, ev15, h⟩ := h2
      refine r_iaload ev15 d_M_foreign_30 ?_
      have h2 := kr_ob h
      clear h
      obtain ⟨v16, ev16, h⟩ := h2
      refine r_baload ev16 d_M_foreign_31 ?_
      refine r_if_ne (tgt := 48) d_M_foreign_32 rfl (fun c => ?_) (fun c => ?_)
      · replace h := kr_ip c h
        refine r_aload_n (i := 0) (x := a0) 1 rfl d_M_foreign_35 ?_
        have h2 := kr_ob h
        clear h
        obtain ⟨v17, ev17, h⟩ := h2
        refine r_getI ev17 fk133 rfl d_M_foreign_36 ?_
        refine r_bipush (v := (60 : Int32)) (by decide) d_M_foreign_39 ?_
        refine r_icmp_ge (tgt := 48) d_M_foreign_41 rfl (fun c => ?_) (fun c => ?_)
        · replace h := kr_ip c h
          exact kr_sub [1, 2] rfl (s_M_foreign_B48 h)
        · replace h := kr_in_ c h
          refine r_iconst (v := (1 : Int32)) (by decide) d_M_foreign_44 ?_
          refine r_goto (tgt := 49) d_M_foreign_45 rfl ?_
          exact kr_sub [1, 2] rfl (s_M_foreign_B49 h)
      · replace h := kr_in_ c h
        exact kr_sub [1, 2] rfl (s_M_foreign_B48 h)
/-! KeyringCourtModel.leave(I)I -/
def f_M_leave_B94 (k52 : AS → Option Nat → Int32 → Int32 → Int32 → Option (Int32 × AS)) (S : AS) (x0 : Option Nat) (x1 : Int32) (x2 : Int32) (x3 : Int32) (y0 : Option Nat) (y1 : Int32) (y2 : Int32) : Option (Int32 × AS) :=
  (bI S y0 y1 y2).bind fun S1 =>
  (some (x3 + (1 : Int32))).bind fun i2 =>
  k52 S1 x0 x1 x2 i2
def f_M_leave_B88 (k52 : AS → Option Nat → Int32 → Int32 → Int32 → Option (Int32 × AS)) (S : AS) (x0 : Option Nat) (x1 : Int32) (x2 : Int32) (x3 : Int32) (y0 : Option Nat) (y1 : Int32) : Option (Int32 × AS) :=
  (gR S 23 25 x0).bind fun v3 =>
  (aI S 40 v3 x3).bind fun v4 =>
  f_M_leave_B94 k52 S x0 x1 x2 x3 y0 y1 v4
def f_M_leave_B140 (k103 : AS → Option Nat → Int32 → Int32 → Int32 → Option (Int32 × AS)) (S : AS) (x0 : Option Nat) (x1 : Int32) (x2 : Int32) (x3 : Int32) (y0 : Option Nat) (y1 : Int32) (y2 : Int32) : Option (Int32 × AS) :=
  (bZ S y0 y1 y2).bind fun S5 =>
  (some (x3 + (1 : Int32))).bind fun i6 =>
  k103 S5 x0 x1 x2 i6
def f_M_leave_B139 (k103 : AS → Option Nat → Int32 → Int32 → Int32 → Option (Int32 × AS)) (S : AS) (x0 : Option Nat) (x1 : Int32) (x2 : Int32) (x3 : Int32) (y0 : Option Nat) (y1 : Int32) : Option (Int32 × AS) :=
  f_M_leave_B140 k103 S x0 x1 x2 x3 y0 y1 (0 : Int32)
def f_M_leave_C103 (k103 : AS → Option Nat → Int32 → Int32 → Int32 → Option (Int32 × AS)) (S : AS) (x0 : Option Nat) (x1 : Int32) (x2 : Int32) (x3 : Int32) : Option (Int32 × AS) :=
  (gI S 23 70 x0).bind fun v7 =>
  if v7 ≤ x3 then
  some (x2, S)
  else
  (gR S 23 73 x0).bind fun v8 =>
  (gR S 23 73 x0).bind fun v9 =>
  (aI S 41 v9 x3).bind fun v10 =>
  if v10 = 0 then
  f_M_leave_B139 k103 S x0 x1 x2 x3 v8 x3
  else
  (gR S 23 71 x0).bind fun v11 =>
  (aI S 40 v11 x3).bind fun v12 =>
  if v12 = x1 then
  f_M_leave_B139 k103 S x0 x1 x2 x3 v8 x3
  else
  f_M_leave_B140 k103 S x0 x1 x2 x3 v8 x3 (1 : Int32)
def f_M_leave_L103 : Nat → AS → Option Nat → Int32 → Int32 → Int32 → Option (Int32 × AS)
  | 0, S, x0, x1, x2, x3 => none
  | n + 1, S, x0, x1, x2, x3 => f_M_leave_C103 (f_M_leave_L103 n) S x0 x1 x2 x3
def f_M_leave_C52 (k52 : AS → Option Nat → Int32 → Int32 → Int32 → Option (Int32 × AS)) (S : AS) (x0 : Option Nat) (x1 : Int32) (x2 : Int32) (x3 : Int32) : Option (Int32 × AS) :=
  (gI S 23 19 x0).bind fun v13 =>
  if v13 ≤ x3 then
  f_M_leave_L103 kr_FU S x0 x1 x2 (0 : Int32)
  else
  (gR S 23 25 x0).bind fun v14 =>
  (gR S 23 20 x0).bind fun v15 =>
  (aI S 40 v15 x3).bind fun v16 =>
  if v16 = x1 then
  (gR S 23 25 x0).bind fun v17 =>
  (aI S 40 v17 x3).bind fun v18 =>
  if v18 = 0 then
  f_M_leave_B94 k52 S x0 x1 x2 x3 v14 x3 (2 : Int32)
  else
  f_M_leave_B88 k52 S x0 x1 x2 x3 v14 x3
  else
  f_M_leave_B88 k52 S x0 x1 x2 x3 v14 x3
def f_M_leave_L52 : Nat → AS → Option Nat → Int32 → Int32 → Int32 → Option (Int32 × AS)
  | 0, S, x0, x1, x2, x3 => none
  | n + 1, S, x0, x1, x2, x3 => f_M_leave_C52 (f_M_leave_L52 n) S x0 x1 x2 x3
def f_M_leave_B32 (S : AS) (x0 : Option Nat) (x1 : Int32) (y0 : Option Nat) (y1 : Int32) (y2 : Int32) : Option (Int32 × AS) :=
  (bZ S y0 y1 y2).bind fun S19 =>
  (gR S19 23 7 x0).bind fun v20 =>
  (aI S19 41 v20 x1).bind fun v21 =>
  if v21 = 0 then
  some ((-1 : Int32), S19)
  else
  (kr_rv S19 23 x0).bind fun u22 =>
  kr_b2 (f_M_endAllOf S19 x0 x1) fun v24 S23 =>
  f_M_leave_L52 kr_FU S23 x0 x1 v24 (0 : Int32)
def f_M_leave (S : AS) (a0 : Option Nat) (a1 : Int32) : Option (Int32 × AS) :=
  kr_b2 (f_M_isSix S a1) fun v26 S25 =>
  (kr_rv S25 23 a0).bind fun u27 =>
  kr_b2 (f_M_may S25 a0 v26) fun v29 S28 =>
  if v29 = 0 then
  some ((0 : Int32), S28)
  else
  (gR S28 23 7 a0).bind fun v30 =>
  (gR S28 23 7 a0).bind fun v31 =>
  (aI S28 41 v31 a1).bind fun v32 =>
  if v32 = 0 then
  f_M_leave_B32 S28 a0 a1 v30 a1 (1 : Int32)
  else
  f_M_leave_B32 S28 a0 a1 v30 a1 (0 : Int32)
set_option maxRecDepth 20000 in
set_option maxHeartbeats 4000000 in
theorem s_M_leave_B94 {k52 : AS → Option Nat → Int32 → Int32 → Int32 → Option (Int32 × AS)} (hk52 : ∀ {S : AS} {x0 : Option Nat} {x1 : Int32} {x2 : Int32} {x3 : Int32} {r : (Int32 × AS)}, k52 S x0 x1 x2 x3 = some r → kr_AW m_M_leave 5 52 [(0, va_rf x0), (1, .int x1), (2, .int x2), (3, .int x3)] [] S (kr_eI r)) {S : AS} {x0 : Option Nat} {x1 : Int32} {x2 : Int32} {x3 : Int32} {y0 : Option Nat} {y1 : Int32} {y2 : Int32} {r : (Int32 × AS)} (h : f_M_leave_B94 k52 S x0 x1 x2 x3 y0 y1 y2 = some r) : kr_AW m_M_leave 5 94 [(0, va_rf x0), (1, .int x1), (2, .int x2), (3, .int x3)] [.int y2, .int y1, va_rf y0] S (kr_eI r) := by
  unfold f_M_leave_B94 at h
  have h2 := kr_ob h
  clear h
  obtain ⟨S1, eS1, h⟩ := h2
  refine r_iastore eS1 d_M_leave_94 ?_
  have h2 := kr_ob h
  clear h
  obtain ⟨i2, ei2, h⟩ := h2
  refine r_iinc (v := i2) (lv' := [(3, .int i2), (0, va_rf x0), (1, .int x1), (2, .int x2)]) 3 rfl (kr_inc (by decide) ei2) (by decide) rfl d_M_leave_95 ?_
  refine r_goto (tgt := 52) d_M_leave_98 rfl ?_
  exact kr_sub [1, 2, 3, 0] rfl (hk52 h)
set_option maxRecDepth 20000 in
set_option maxHeartbeats 4000000 in
theorem s_M_leave_B88 {k52 : AS → Option Nat → Int32 → Int32 → Int32 → Option (Int32 × AS)} (hk52 : ∀ {S : AS} {x0 : Option Nat} {x1 : Int32} {x2 : Int32} {x3 : Int32} {r : (Int32 × AS)}, k52 S x0 x1 x2 x3 = some r → kr_AW m_M_leave 5 52 [(0, va_rf x0), (1, .int x1), (2, .int x2), (3, .int x3)] [] S (kr_eI r)) {S : AS} {x0 : Option Nat} {x1 : Int32} {x2 : Int32} {x3 : Int32} {y0 : Option Nat} {y1 : Int32} {r : (Int32 × AS)} (h : f_M_leave_B88 k52 S x0 x1 x2 x3 y0 y1 = some r) : kr_AW m_M_leave 5 88 [(0, va_rf x0), (1, .int x1), (2, .int x2), (3, .int x3)] [.int y1, va_rf y0] S (kr_eI r) := by
  unfold f_M_leave_B88 at h
  refine r_aload_n (i := 0) (x := x0) 0 rfl d_M_leave_88 ?_
  have h2 := kr_ob h
  clear h
  obtain ⟨v3, ev3, h⟩ := h2
  refine r_getR ev3 fk64 rfl d_M_leave_89 ?_
  refine r_iload_n (i := 3) (x := x3) 3 rfl d_M_leave_92 ?_
  have h2 := kr_ob h
  clear h
  obtain ⟨v4, ev4, h⟩ := h2
  refine r_iaload ev4 d_M_leave_93 ?_
  exact kr_sub [0, 1, 2, 3] rfl (s_M_leave_B94 hk52 h)
set_option maxRecDepth 20000 in
set_option maxHeartbeats 4000000 in
theorem s_M_leave_B140 {k103 : AS → Option Nat → Int32 → Int32 → Int32 → Option (Int32 × AS)} (hk103 : ∀ {S : AS} {x0 : Option Nat} {x1 : Int32} {x2 : Int32} {x3 : Int32} {r : (Int32 × AS)}, k103 S x0 x1 x2 x3 = some r → kr_AW m_M_leave 5 103 [(0, va_rf x0), (1, .int x1), (2, .int x2), (3, .int x3)] [] S (kr_eI r)) {S : AS} {x0 : Option Nat} {x1 : Int32} {x2 : Int32} {x3 : Int32} {y0 : Option Nat} {y1 : Int32} {y2 : Int32} {r : (Int32 × AS)} (h : f_M_leave_B140 k103 S x0 x1 x2 x3 y0 y1 y2 = some r) : kr_AW m_M_leave 5 140 [(0, va_rf x0), (1, .int x1), (2, .int x2), (3, .int x3)] [.int y2, .int y1, va_rf y0] S (kr_eI r) := by
  unfold f_M_leave_B140 at h
  have h2 := kr_ob h
  clear h
  obtain ⟨S5, eS5, h⟩ := h2
  refine r_bastore eS5 d_M_leave_140 ?_
  have h2 := kr_ob h
  clear h
  obtain ⟨i6, ei6, h⟩ := h2
  refine r_iinc (v := i6) (lv' := [(3, .int i6), (0, va_rf x0), (1, .int x1), (2, .int x2)]) 3 rfl (kr_inc (by decide) ei6) (by decide) rfl d_M_leave_141 ?_
  refine r_goto (tgt := 103) d_M_leave_144 rfl ?_
  exact kr_sub [1, 2, 3, 0] rfl (hk103 h)
set_option maxRecDepth 20000 in
set_option maxHeartbeats 4000000 in
theorem s_M_leave_B139 {k103 : AS → Option Nat → Int32 → Int32 → Int32 → Option (Int32 × AS)} (hk103 : ∀ {S : AS} {x0 : Option Nat} {x1 : Int32} {x2 : Int32} {x3 : Int32} {r : (Int32 × AS)}, k103 S x0 x1 x2 x3 = some r → kr_AW m_M_leave 5 103 [(0, va_rf x0), (1, .int x1), (2, .int x2), (3, .int x3)] [] S (kr_eI r)) {S : AS} {x0 : Option Nat} {x1 : Int32} {x2 : Int32} {x3 : Int32} {y0 : Option Nat} {y1 : Int32} {r : (Int32 × AS)} (h : f_M_leave_B139 k103 S x0 x1 x2 x3 y0 y1 = some r) : kr_AW m_M_leave 5 139 [(0, va_rf x0), (1, .int x1), (2, .int x2), (3, .int x3)] [.int y1, va_rf y0] S (kr_eI r) := by
  unfold f_M_leave_B139 at h
  refine r_iconst (v := (0 : Int32)) (by decide) d_M_leave_139 ?_
  exact kr_sub [0, 1, 2, 3] rfl (s_M_leave_B140 hk103 h)
set_option maxRecDepth 20000 in
set_option maxHeartbeats 4000000 in
theorem s_M_leave_C103 {k103 : AS → Option Nat → Int32 → Int32 → Int32 → Option (Int32 × AS)} (hk103 : ∀ {S : AS} {x0 : Option Nat} {x1 : Int32} {x2 : Int32} {x3 : Int32} {r : (Int32 × AS)}, k103 S x0 x1 x2 x3 = some r → kr_AW m_M_leave 5 103 [(0, va_rf x0), (1, .int x1), (2, .int x2), (3, .int x3)] [] S (kr_eI r)) {S : AS} {x0 : Option Nat} {x1 : Int32} {x2 : Int32} {x3 : Int32} {r : (Int32 × AS)} (h : f_M_leave_C103 k103 S x0 x1 x2 x3 = some r) : kr_AW m_M_leave 5 103 [(0, va_rf x0), (1, .int x1), (2, .int x2), (3, .int x3)] [] S (kr_eI r) := by
  unfold f_M_leave_C103 at h
  refine r_iload_n (i := 3) (x := x3) 3 rfl d_M_leave_103 ?_
  refine r_aload_n (i := 0) (x := x0) 0 rfl d_M_leave_104 ?_
  have h2 := kr_ob h
  clear h
  obtain ⟨v7, ev7, h⟩ := h2
  refine r_getI ev7 fk220 rfl d_M_leave_105 ?_
  refine r_icmp_ge (tgt := 147) d_M_leave_108 rfl (fun c => ?_) (fun c => ?_)
  · replace h := kr_ip c h
    refine r_iload_n (i := 2) (x := x2) 2 rfl d_M_leave_147 ?_
    cases h
    exact r_iret rfl d_M_leave_148
  · replace h := kr_in_ c h
    refine r_aload_n (i := 0) (x := x0) 0 rfl d_M_leave_111 ?_
    have h2 := kr_ob h
    clear h
    obtain ⟨v8, ev8, h⟩ := h2
    refine r_getR ev8 fk103 rfl d_M_leave_112 ?_
    refine r_iload_n (i := 3) (x := x3) 3 rfl d_M_leave_115 ?_
    refine r_aload_n (i := 0) (x := x0) 0 rfl d_M_leave_116 ?_
    have h2 := kr_ob h
    clear h
    obtain ⟨v9, ev9, h⟩ := h2
    refine r_getR ev9 fk103 rfl d_M_leave_117 ?_
    refine r_iload_n (i := 3) (x := x3) 3 rfl d_M_leave_120 ?_
    have h2 := kr_ob h
    clear h
    obtain ⟨v10, ev10, h⟩ := h2
    refine r_baload ev10 d_M_leave_121 ?_
    refine r_if_eq (tgt := 139) d_M_leave_122 rfl (fun c => ?_) (fun c => ?_)
    · replace h := kr_ip c h
      exact kr_sub [0, 1, 2, 3] rfl (s_M_leave_B139 hk103 h)
    · replace h := kr_in_ c h
      refine r_aload_n (i := 0) (x := x0) 0 rfl d_M_leave_125 ?_
      have h2 := kr_ob h
      clear h
      obtain ⟨v11, ev11, h⟩ := h2
      refine r_getR ev11 fk101 rfl d_M_leave_126 ?_
      refine r_iload_n (i := 3) (x := x3) 3 rfl d_M_leave_129 ?_
      have h2 := kr_ob h
      clear h
      obtain ⟨v12, ev12, h⟩ := h2
      refine r_iaload ev12 d_M_leave_130 ?_
      refine r_iload_n (i := 1) (x := x1) 1 rfl d_M_leave_131 ?_
      refine r_icmp_eq (tgt := 139) d_M_leave_132 rfl (fun c => ?_) (fun c => ?_)
      · replace h := kr_ip c h
        exact kr_sub [0, 1, 2, 3] rfl (s_M_leave_B139 hk103 h)
      · replace h := kr_in_ c h
        refine r_iconst (v := (1 : Int32)) (by decide) d_M_leave_135 ?_
        refine r_goto (tgt := 140) d_M_leave_136 rfl ?_
        exact kr_sub [0, 1, 2, 3] rfl (s_M_leave_B140 hk103 h)
theorem s_M_leave_L103 (n : Nat) : ∀ {S : AS} {x0 : Option Nat} {x1 : Int32} {x2 : Int32} {x3 : Int32} {r : (Int32 × AS)}, f_M_leave_L103 n S x0 x1 x2 x3 = some r → kr_AW m_M_leave 5 103 [(0, va_rf x0), (1, .int x1), (2, .int x2), (3, .int x3)] [] S (kr_eI r) := by
  induction n with
  | zero => intro S x0 x1 x2 x3 r h; cases h
  | succ n ih => intro S x0 x1 x2 x3 r h; exact s_M_leave_C103 (fun {_} {_} {_} {_} {_} {_} h => ih h) h
set_option maxRecDepth 20000 in
set_option maxHeartbeats 4000000 in
theorem s_M_leave_C52 {k52 : AS → Option Nat → Int32 → Int32 → Int32 → Option (Int32 × AS)} (hk52 : ∀ {S : AS} {x0 : Option Nat} {x1 : Int32} {x2 : Int32} {x3 : Int32} {r : (Int32 × AS)}, k52 S x0 x1 x2 x3 = some r → kr_AW m_M_leave 5 52 [(0, va_rf x0), (1, .int x1), (2, .int x2), (3, .int x3)] [] S (kr_eI r)) {S : AS} {x0 : Option Nat} {x1 : Int32} {x2 : Int32} {x3 : Int32} {r : (Int32 × AS)} (h : f_M_leave_C52 k52 S x0 x1 x2 x3 = some r) : kr_AW m_M_leave 5 52 [(0, va_rf x0), (1, .int x1), (2, .int x2), (3, .int x3)] [] S (kr_eI r) := by
  unfold f_M_leave_C52 at h
  refine r_iload_n (i := 3) (x := x3) 3 rfl d_M_leave_52 ?_
  refine r_aload_n (i := 0) (x := x0) 0 rfl d_M_leave_53 ?_
  have h2 := kr_ob h
  clear h
  obtain ⟨v13, ev13, h⟩ := h2
  refine r_getI ev13 fk168 rfl d_M_leave_54 ?_
  refine r_icmp_ge (tgt := 101) d_M_leave_57 rfl (fun c => ?_) (fun c => ?_)
  · replace h := kr_ip c h
    refine r_iconst (v := (0 : Int32)) (by decide) d_M_leave_101 ?_
    refine r_istore_n (i := 3) (lv' := [(3, .int (0 : Int32)), (0, va_rf x0), (1, .int x1), (2, .int x2)]) (by decide) rfl d_M_leave_102 ?_
    exact kr_sub [1, 2, 3, 0] rfl (s_M_leave_L103 kr_FU h)
  · replace h := kr_in_ c h
    refine r_aload_n (i := 0) (x := x0) 0 rfl d_M_leave_60 ?_
    have h2 := kr_ob h
    clear h
    obtain ⟨v14, ev14, h⟩ := h2
    refine r_getR ev14 fk64 rfl d_M_leave_61 ?_
    refine r_iload_n (i := 3) (x := x3) 3 rfl d_M_leave_64 ?_
    refine r_aload_n (i := 0) (x := x0) 0 rfl d_M_leave_65 ?_
    have h2 := kr_ob h
    clear h
    obtain ⟨v15, ev15, h⟩ := h2
    refine r_getR ev15 fk59 rfl d_M_leave_66 ?_
    refine r_iload_n (i := 3) (x := x3) 3 rfl d_M_leave_69 ?_
    have h2 := kr_ob h
    clear h
    obtain ⟨v16, ev16, h⟩ := h2
    refine r_iaload ev16 d_M_leave_70 ?_
    refine r_iload_n (i := 1) (x := x1) 1 rfl d_M_leave_71 ?_
    refine r_icmp_ne (tgt := 88) d_M_leave_72 rfl (fun c => ?_) (fun c => ?_)
    · replace h := kr_ip c h
      refine r_aload_n (i := 0) (x := x0) 0 rfl d_M_leave_75 ?_
      have h2 := kr_ob h
      clear h
      obtain ⟨v17, ev17, h⟩ := h2
      refine r_getR ev17 fk64 rfl d_M_leave_76 ?_
      refine r_iload_n (i := 3) (x := x3) 3 rfl d_M_leave_79 ?_
      have h2 := kr_ob h
      clear h
      obtain ⟨v18, ev18, h⟩ := h2
      refine r_iaload ev18 d_M_leave_80 ?_
      refine r_if_ne (tgt := 88) d_M_leave_81 rfl (fun c => ?_) (fun c => ?_)
      · replace h := kr_ip c h
        refine r_iconst (v := (2 : Int32)) (by decide) d_M_leave_84 ?_
        refine r_goto (tgt := 94) d_M_leave_85 rfl ?_
        exact kr_sub [0, 1, 2, 3] rfl (s_M_leave_B94 hk52 h)
      · replace h := kr_in_ c h
        exact kr_sub [0, 1, 2, 3] rfl (s_M_leave_B88 hk52 h)
    · replace h := kr_in_ c h
      exact kr_sub [0, 1, 2, 3] rfl (s_M_leave_B88 hk52 h)
theorem s_M_leave_L52 (n : Nat) : ∀ {S : AS} {x0 : Option Nat} {x1 : Int32} {x2 : Int32} {x3 : Int32} {r : (Int32 × AS)}, f_M_leave_L52 n S x0 x1 x2 x3 = some r → kr_AW m_M_leave 5 52 [(0, va_rf x0), (1, .int x1), (2, .int x2), (3, .int x3)] [] S (kr_eI r) := by
  induction n with
  | zero => intro S x0 x1 x2 x3 r h; cases h
  | succ n ih => intro S x0 x1 x2 x3 r h; exact s_M_leave_C52 (fun {_} {_} {_} {_} {_} {_} h => ih h) h
set_option maxRecDepth 20000 in
set_option maxHeartbeats 4000000 in
theorem s_M_leave_B32 {S : AS} {x0 : Option Nat} {x1 : Int32} {y0 : Option Nat} {y1 : Int32} {y2 : Int32} {r : (Int32 × AS)} (h : f_M_leave_B32 S x0 x1 y0 y1 y2 = some r) : kr_AW m_M_leave 5 32 [(0, va_rf x0), (1, .int x1)] [.int y2, .int y1, va_rf y0] S (kr_eI r) := by
  unfold f_M_leave_B32 at h
  have h2 := kr_ob h
  clear h
  obtain ⟨S19, eS19, h⟩ := h2
  refine r_bastore eS19 d_M_leave_32 ?_
  refine r_aload_n (i := 0) (x := x0) 0 rfl d_M_leave_33 ?_
  have h2 := kr_ob h
  clear h
  obtain ⟨v20, ev20, h⟩ := h2
  refine r_getR ev20 fk50 rfl d_M_leave_34 ?_
  refine r_iload_n (i := 1) (x := x1) 1 rfl d_M_leave_37 ?_
  have h2 := kr_ob h
  clear h
  obtain ⟨v21, ev21, h⟩ := h2
  refine r_baload ev21 d_M_leave_38 ?_
  refine r_if_ne (tgt := 44) d_M_leave_39 rfl (fun c => ?_) (fun c => ?_)
  · replace h := kr_ip c h
    refine r_iconst (v := (-1 : Int32)) (by decide) d_M_leave_42 ?_
    cases h
    exact r_iret rfl d_M_leave_43
  · replace h := kr_in_ c h
    refine r_aload_n (i := 0) (x := x0) 0 rfl d_M_leave_44 ?_
    refine r_iload_n (i := 1) (x := x1) 1 rfl d_M_leave_45 ?_
    have h2 := kr_ob h
    clear h
    obtain ⟨⟨⟩, eu22, h⟩ := h2
    have h2 := kr_ob2 h
    clear h
    obtain ⟨v24, S23, eS23, h⟩ := h2
    refine r_callV (M1 := m_M_endAllOf) (κ := 23) (As := [.int x1]) eu22 (s_M_endAllOf eS23) mok_M_endAllOf rfl (by decide) rfl w2036 w2038 w73 (by decide) (kr_c8 kr_c0) d_M_leave_46 (kr_k1 ?_) kr_kn
    refine r_istore_n (i := 2) (lv' := [(2, .int v24), (0, va_rf x0), (1, .int x1)]) (by decide) rfl d_M_leave_49 ?_
    refine r_iconst (v := (0 : Int32)) (by decide) d_M_leave_50 ?_
    refine r_istore_n (i := 3) (lv' := [(3, .int (0 : Int32)), (2, .int v24), (0, va_rf x0), (1, .int x1)]) (by decide) rfl d_M_leave_51 ?_
    exact kr_sub [2, 3, 1, 0] rfl (s_M_leave_L52 kr_FU h)
set_option maxRecDepth 20000 in
set_option maxHeartbeats 4000000 in
theorem s_M_leave {S : AS} {a0 : Option Nat} {a1 : Int32} {r : (Int32 × AS)} (h : f_M_leave S a0 a1 = some r) : kr_Con m_M_leave 5 [va_rf a0, .int a1] S (kr_eI r) := by
  refine kr_con rfl rfl (by decide +kernel) (by simp [lg_sl, kr_rfcat, kr_icat, m_M_leave, mL]) ?_
  rw [show lv_args 0 [va_rf a0, .int a1] = [(0, va_rf a0), (1, .int a1)] from by simp [lv_args, kr_rfcat, kr_icat]]
  unfold f_M_leave at h
  refine r_aload_n (i := 0) (x := a0) 0 rfl d_M_leave_0 ?_
  refine r_iload_n (i := 1) (x := a1) 1 rfl d_M_leave_1 ?_
  have h2 := kr_ob2 h
  clear h
  obtain ⟨v26, S25, eS25, h⟩ := h2
  refine r_callS (M1 := m_M_isSix) (As := [.int a1]) (s_M_isSix eS25) mok_M_isSix rfl w1748 w1749 (by decide) (kr_c8 (kr_cR kr_c0)) d_M_leave_2 (kr_k1 ?_) kr_kn
  have h2 := kr_ob h
  clear h
  obtain ⟨⟨⟩, eu27, h⟩ := h2
  have h2 := kr_ob2 h
  clear h
  obtain ⟨v29, S28, eS28, h⟩ := h2
  refine r_callV (M1 := m_M_may) (κ := 23) (As := [.int v26]) eu27 (s_M_may eS28) mok_M_may rfl (by decide) rfl w1703 w1705 w42 (by decide) (kr_c8 kr_c0) d_M_leave_5 (kr_k1 ?_) kr_kn
  refine r_if_ne (tgt := 13) d_M_leave_8 rfl (fun c => ?_) (fun c => ?_)
  · replace h := kr_ip c h
    refine r_iconst (v := (0 : Int32)) (by decide) d_M_leave_11 ?_
    cases h
    exact r_iret rfl d_M_leave_12
  · replace h := kr_in_ c h
    refine r_aload_n (i := 0) (x := a0) 0 rfl d_M_leave_13 ?_
    have h2 := kr_ob h
    clear h
    obtain ⟨v30, ev30, h⟩ := h2
    refine r_getR ev30 fk50 rfl d_M_leave_14 ?_
    refine r_iload_n (i := 1) (x := a1) 1 rfl d_M_leave_17 ?_
    refine r_aload_n (i := 0) (x := a0) 0 rfl d_M_leave_18 ?_
    have h2 := kr_ob h
    clear h
    obtain ⟨v31, ev31, h⟩ := h2
    refine r_getR ev31 fk50 rfl d_M_leave_19 ?_
    refine r_iload_n (i := 1) (x := a1) 1 rfl d_M_leave_22 ?_
    have h2 := kr_ob h
    clear h
    obtain ⟨v32, ev32, h⟩ := h2
    refine r_baload ev32 d_M_leave_23 ?_
    refine r_if_ne (tgt := 31) d_M_leave_24 rfl (fun c => ?_) (fun c => ?_)
    · replace h := kr_ip c h
      refine r_iconst (v := (1 : Int32)) (by decide) d_M_leave_27 ?_
      refine r_goto (tgt := 32) d_M_leave_28 rfl ?_
      exact kr_sub [0, 1] rfl (s_M_leave_B32 h)
    · replace h := kr_in_ c h
      refine r_iconst (v := (0 : Int32)) (by decide) d_M_leave_31 ?_
      exact kr_sub [0, 1] rfl (s_M_leave_B32 h)
/-! KeyringCourtModel.audits()I -/
def f_M_audits (S : AS) (a0 : Option Nat) : Option (Int32 × AS) :=
  (pI S 23 82 a0 (0 : Int32)).bind fun S1 =>
  (gI S1 23 77 a0).bind fun v2 =>
  some (v2, S1)
set_option maxRecDepth 20000 in
set_option maxHeartbeats 4000000 in
theorem s_M_audits {S : AS} {a0 : Option Nat} {r : (Int32 × AS)} (h : f_M_audits S a0 = some r) : kr_Con m_M_audits 0 [va_rf a0] S (kr_eI r) := by
  refine kr_con rfl rfl (by decide +kernel) (by simp [lg_sl, kr_rfcat, kr_icat, m_M_audits, mL]) ?_
  rw [show lv_args 0 [va_rf a0] = [(0, va_rf a0)] from by simp [lv_args, kr_rfcat, kr_icat]]
  unfold f_M_audits at h
  refine r_aload_n (i := 0) (x := a0) 0 rfl d_M_audits_0 ?_
  refine r_iconst (v := (0 : Int32)) (by decide) d_M_audits_1 ?_
  have h2 := kr_ob h
  clear h
  obtain ⟨S1, eS1, h⟩ := h2
  refine r_putI eS1 fk128 (Or.inl rfl) rfl d_M_audits_2 ?_
  refine r_aload_n (i := 0) (x := a0) 0 rfl d_M_audits_5 ?_
  have h2 := kr_ob h
  clear h
  obtain ⟨v2, ev2, h⟩ := h2
  refine r_getI ev2 fk129 rfl d_M_audits_6 ?_
  cases h
  exact r_iret rfl d_M_audits_9
/-! KeyringCourtModel.audit(I)I -/
def f_M_audit (S : AS) (a0 : Option Nat) (a1 : Int32) : Option (Int32 × AS) :=
  (gI S 23 77 a0).bind fun v1 =>
  kr_b2 (f_M_isIn S a1 (0 : Int32) (v1 - (1 : Int32))) fun v3 S2 =>
  (kr_rv S2 23 a0).bind fun u4 =>
  kr_b2 (f_M_may S2 a0 v3) fun v6 S5 =>
  if v6 = 0 then
  some ((0 : Int32), S5)
  else
  (gR S5 23 78 a0).bind fun v7 =>
  (aI S5 40 v7 a1).bind fun v8 =>
  (gR S5 23 79 a0).bind fun v9 =>
  (aI S5 40 v9 a1).bind fun v10 =>
  some (((1000 : Int32) * v8) + v10, S5)
set_option maxRecDepth 20000 in
set_option maxHeartbeats 4000000 in
theorem s_M_audit {S : AS} {a0 : Option Nat} {a1 : Int32} {r : (Int32 × AS)} (h : f_M_audit S a0 a1 = some r) : kr_Con m_M_audit 1 [va_rf a0, .int a1] S (kr_eI r) := by
  refine kr_con rfl rfl (by decide +kernel) (by simp [lg_sl, kr_rfcat, kr_icat, m_M_audit, mL]) ?_
  rw [show lv_args 0 [va_rf a0, .int a1] = [(0, va_rf a0), (1, .int a1)] from by simp [lv_args, kr_rfcat, kr_icat]]
  unfold f_M_audit at h
  refine r_aload_n (i := 0) (x := a0) 0 rfl d_M_audit_0 ?_
  refine r_iload_n (i := 1) (x := a1) 1 rfl d_M_audit_1 ?_
  refine r_iconst (v := (0 : Int32)) (by decide) d_M_audit_2 ?_
  refine r_aload_n (i := 0) (x := a0) 0 rfl d_M_audit_3 ?_
  have h2 := kr_ob h
  clear h
  obtain ⟨v1, ev1, h⟩ := h2
  refine r_getI ev1 fk129 rfl d_M_audit_4 ?_
  refine r_iconst (v := (1 : Int32)) (by decide) d_M_audit_7 ?_
  refine r_isub d_M_audit_8 ?_
  have h2 := kr_ob2 h
  clear h
  obtain ⟨v3, S2, eS2, h⟩ := h2
  refine r_callS (M1 := m_M_isIn) (As := [.int a1, .int (0 : Int32), .int (v1 - (1 : Int32))]) (s_M_isIn eS2) mok_M_isIn rfl w1700 w1701 (by decide) (kr_c8 (kr_cR kr_c0)) d_M_audit_9 (kr_k1 ?_) kr_kn
  have h2 := kr_ob h
  clear h
  obtain ⟨⟨⟩, eu4, h⟩ := h2
  have h2 := kr_ob2 h
  clear h
  obtain ⟨v6, S5, eS5, h⟩ := h2
  refine r_callV (M1 := m_M_may) (κ := 23) (As := [.int v3]) eu4 (s_M_may eS5) mok_M_may rfl (by decide) rfl w1703 w1705 w42 (by decide) (kr_c8 kr_c0) d_M_audit_12 (kr_k1 ?_) kr_kn
  refine r_if_eq (tgt := 38) d_M_audit_15 rfl (fun c => ?_) (fun c => ?_)
  · replace h := kr_ip c h
    refine r_iconst (v := (0 : Int32)) (by decide) d_M_audit_38 ?_
    cases h
    exact r_iret rfl d_M_audit_39
  · replace h := kr_in_ c h
    refine r_sipush (v := (1000 : Int32)) (by decide) d_M_audit_18 ?_
    refine r_aload_n (i := 0) (x := a0) 0 rfl d_M_audit_21 ?_
    have h2 := kr_ob h
    clear h
    obtain ⟨v7, ev7, h⟩ := h2
    refine r_getR ev7 fk106 rfl d_M_audit_22 ?_
    refine r_iload_n (i := 1) (x := a1) 1 rfl d_M_audit_25 ?_
    have h2 := kr_ob h
    clear h
    obtain ⟨v8, ev8, h⟩ := h2
    refine r_iaload ev8 d_M_audit_26 ?_
    refine r_imul d_M_audit_27 ?_
    refine r_aload_n (i := 0) (x := a0) 0 rfl d_M_audit_28 ?_
    have h2 := kr_ob h
    clear h
    obtain ⟨v9, ev9, h⟩ := h2
    refine r_getR ev9 fk107 rfl d_M_audit_29 ?_
    refine r_iload_n (i := 1) (x := a1) 1 rfl d_M_audit_32 ?_
    have h2 := kr_ob h
    clear h
    obtain ⟨v10, ev10, h⟩ := h2
    refine r_iaload ev10 d_M_audit_33 ?_
    refine r_iadd d_M_audit_34 ?_
    refine r_goto (tgt := 39) d_M_audit_35 rfl ?_
    cases h
    exact r_iret rfl d_M_audit_39
/-! KeyringCourtModel.sum()I -/
def f_M_sum (S : AS) (a0 : Option Nat) : Option (Int32 × AS) :=
  (pI S 23 82 a0 (0 : Int32)).bind fun S1 =>
  (gI S1 23 81 a0).bind fun v2 =>
  some (v2, S1)
set_option maxRecDepth 20000 in
set_option maxHeartbeats 4000000 in
theorem s_M_sum {S : AS} {a0 : Option Nat} {r : (Int32 × AS)} (h : f_M_sum S a0 = some r) : kr_Con m_M_sum 0 [va_rf a0] S (kr_eI r) := by
  refine kr_con rfl rfl (by decide +kernel) (by simp [lg_sl, kr_rfcat, kr_icat, m_M_sum, mL]) ?_
  rw [show lv_args 0 [va_rf a0] = [(0, va_rf a0)] from by simp [lv_args, kr_rfcat, kr_icat]]
  unfold f_M_sum at h
  refine r_aload_n (i := 0) (x := a0) 0 rfl d_M_sum_0 ?_
  refine r_iconst (v := (0 : Int32)) (by decide) d_M_sum_1 ?_
  have h2 := kr_ob h
  clear h
  obtain ⟨S1, eS1, h⟩ := h2
  refine r_putI eS1 fk128 (Or.inl rfl) rfl d_M_sum_2 ?_
  refine r_aload_n (i := 0) (x := a0) 0 rfl d_M_sum_5 ?_
  have h2 := kr_ob h
  clear h
  obtain ⟨v2, ev2, h⟩ := h2
  refine r_getI ev2 fk109 rfl d_M_sum_6 ?_
  cases h
  exact r_iret rfl d_M_sum_9
/-! KeyringCourtModel.sumAnew(I)I -/
def f_M_sumAnew_C23 (k23 : AS → Option Nat → Int32 → Int32 → Int32 → Option (Int32 × AS)) (S : AS) (x0 : Option Nat) (x1 : Int32) (x2 : Int32) (x3 : Int32) : Option (Int32 × AS) :=
  if x1 ≤ x3 then
  some (x2, S)
  else
  (gR S 23 78 x0).bind fun v1 =>
  (aI S 40 v1 x3).bind fun v2 =>
  (gR S 23 79 x0).bind fun v3 =>
  (aI S 40 v3 x3).bind fun v4 =>
  (gR S 23 80 x0).bind fun v5 =>
  (aI S 40 v5 x3).bind fun v6 =>
  (some (((((31 : Int32) * x2) + ((100 : Int32) * v2)) + v4) + v6)).bind fun i7 =>
  (some (i7 - i7 / (65521 : Int32) * (65521 : Int32))).bind fun i8 =>
  (some (x3 + (1 : Int32))).bind fun i9 =>
  k23 S x0 x1 i8 i9
def f_M_sumAnew_L23 : Nat → AS → Option Nat → Int32 → Int32 → Int32 → Option (Int32 × AS)
  | 0, S, x0, x1, x2, x3 => none
  | n + 1, S, x0, x1, x2, x3 => f_M_sumAnew_C23 (f_M_sumAnew_L23 n) S x0 x1 x2 x3
def f_M_sumAnew (S : AS) (a0 : Option Nat) (a1 : Int32) : Option (Int32 × AS) :=
  (gI S 23 77 a0).bind fun v10 =>
  kr_b2 (f_M_isIn S a1 (0 : Int32) v10) fun v12 S11 =>
  (kr_rv S11 23 a0).bind fun u13 =>
  kr_b2 (f_M_may S11 a0 v12) fun v15 S14 =>
  if v15 = 0 then
  some ((0 : Int32), S14)
  else
  f_M_sumAnew_L23 kr_FU S14 a0 a1 (7 : Int32) (0 : Int32)
set_option maxRecDepth 20000 in
set_option maxHeartbeats 4000000 in
theorem s_M_sumAnew_C23 {k23 : AS → Option Nat → Int32 → Int32 → Int32 → Option (Int32 × AS)} (hk23 : ∀ {S : AS} {x0 : Option Nat} {x1 : Int32} {x2 : Int32} {x3 : Int32} {r : (Int32 × AS)}, k23 S x0 x1 x2 x3 = some r → kr_AW m_M_sumAnew 1 23 [(0, va_rf x0), (1, .int x1), (2, .int x2), (3, .int x3)] [] S (kr_eI r)) {S : AS} {x0 : Option Nat} {x1 : Int32} {x2 : Int32} {x3 : Int32} {r : (Int32 × AS)} (h : f_M_sumAnew_C23 k23 S x0 x1 x2 x3 = some r) : kr_AW m_M_sumAnew 1 23 [(0, va_rf x0), (1, .int x1), (2, .int x2), (3, .int x3)] [] S (kr_eI r) := by
  unfold f_M_sumAnew_C23 at h
  refine r_iload_n (i := 3) (x := x3) 3 rfl d_M_sumAnew_23 ?_
  refine r_iload_n (i := 1) (x := x1) 1 rfl d_M_sumAnew_24 ?_
  refine r_icmp_ge (tgt := 66) d_M_sumAnew_25 rfl (fun c => ?_) (fun c => ?_)
  · replace h := kr_ip c h
    refine r_iload_n (i := 2) (x := x2) 2 rfl d_M_sumAnew_66 ?_
    cases h
    exact r_iret rfl d_M_sumAnew_67
  · replace h := kr_in_ c h
    refine r_bipush (v := (31 : Int32)) (by decide) d_M_sumAnew_28 ?_
    refine r_iload_n (i := 2) (x := x2) 2 rfl d_M_sumAnew_30 ?_
    refine r_imul d_M_sumAnew_31 ?_
    refine r_bipush (v := (100 : Int32)) (by decide) d_M_sumAnew_32 ?_
    refine r_aload_n (i := 0) (x := x0) 0 rfl d_M_sumAnew_34 ?_
    have h2 := kr_ob h
    clear h
    obtain ⟨v1, ev1, h⟩ := h2
    refine r_getR ev1 fk106 rfl d_M_sumAnew_35 ?_
    refine r_iload_n (i := 3) (x := x3) 3 rfl d_M_sumAnew_38 ?_
    have h2 := kr_ob h
    clear h
    obtain ⟨v2, ev2, h⟩ := h2
    refine r_iaload ev2 d_M_sumAnew_39 ?_
    refine r_imul d_M_sumAnew_40 ?_
    refine r_iadd d_M_sumAnew_41 ?_
    refine r_aload_n (i := 0) (x := x0) 0 rfl d_M_sumAnew_42 ?_
    have h2 := kr_ob h
    clear h
    obtain ⟨v3, ev3, h⟩ := h2
    refine r_getR ev3 fk107 rfl d_M_sumAnew_43 ?_
    refine r_iload_n (i := 3) (x := x3) 3 rfl d_M_sumAnew_46 ?_
    have h2 := kr_ob h
    clear h
    obtain ⟨v4, ev4, h⟩ := h2
    refine r_iaload ev4 d_M_sumAnew_47 ?_
    refine r_iadd d_M_sumAnew_48 ?_
    refine r_aload_n (i := 0) (x := x0) 0 rfl d_M_sumAnew_49 ?_
    have h2 := kr_ob h
    clear h
    obtain ⟨v5, ev5, h⟩ := h2
    refine r_getR ev5 fk108 rfl d_M_sumAnew_50 ?_
    refine r_iload_n (i := 3) (x := x3) 3 rfl d_M_sumAnew_53 ?_
    have h2 := kr_ob h
    clear h
    obtain ⟨v6, ev6, h⟩ := h2
    refine r_iaload ev6 d_M_sumAnew_54 ?_
    refine r_iadd d_M_sumAnew_55 ?_
    refine r_ldc (v := (65521 : Int32)) w1715 d_M_sumAnew_56 ?_
    have h2 := kr_ob h
    clear h
    obtain ⟨i7, ei7, h⟩ := h2
    refine kr_nmI2 ei7 ?_
    refine r_irem (by decide) d_M_sumAnew_58 ?_
    have h2 := kr_ob h
    clear h
    obtain ⟨i8, ei8, h⟩ := h2
    refine kr_nmI ei8 ?_
    refine r_istore_n (i := 2) (lv' := [(2, .int i8), (0, va_rf x0), (1, .int x1), (3, .int x3)]) (by decide) rfl d_M_sumAnew_59 ?_
    have h2 := kr_ob h
    clear h
    obtain ⟨i9, ei9, h⟩ := h2
    refine r_iinc (v := i9) (lv' := [(3, .int i9), (2, .int i8), (0, va_rf x0), (1, .int x1)]) 3 rfl (kr_inc (by decide) ei9) (by decide) rfl d_M_sumAnew_60 ?_
    refine r_goto (tgt := 23) d_M_sumAnew_63 rfl ?_
    exact kr_sub [2, 3, 1, 0] rfl (hk23 h)
theorem s_M_sumAnew_L23 (n : Nat) : ∀ {S : AS} {x0 : Option Nat} {x1 : Int32} {x2 : Int32} {x3 : Int32} {r : (Int32 × AS)}, f_M_sumAnew_L23 n S x0 x1 x2 x3 = some r → kr_AW m_M_sumAnew 1 23 [(0, va_rf x0), (1, .int x1), (2, .int x2), (3, .int x3)] [] S (kr_eI r) := by
  induction n with
  | zero => intro S x0 x1 x2 x3 r h; cases h
  | succ n ih => intro S x0 x1 x2 x3 r h; exact s_M_sumAnew_C23 (fun {_} {_} {_} {_} {_} {_} h => ih h) h
set_option maxRecDepth 20000 in
set_option maxHeartbeats 4000000 in
theorem s_M_sumAnew {S : AS} {a0 : Option Nat} {a1 : Int32} {r : (Int32 × AS)} (h : f_M_sumAnew S a0 a1 = some r) : kr_Con m_M_sumAnew 1 [va_rf a0, .int a1] S (kr_eI r) := by
  refine kr_con rfl rfl (by decide +kernel) (by simp [lg_sl, kr_rfcat, kr_icat, m_M_sumAnew, mL]) ?_
  rw [show lv_args 0 [va_rf a0, .int a1] = [(0, va_rf a0), (1, .int a1)] from by simp [lv_args, kr_rfcat, kr_icat]]
  unfold f_M_sumAnew at h
  refine r_aload_n (i := 0) (x := a0) 0 rfl d_M_sumAnew_0 ?_
  refine r_iload_n (i := 1) (x := a1) 1 rfl d_M_sumAnew_1 ?_
  refine r_iconst (v := (0 : Int32)) (by decide) d_M_sumAnew_2 ?_
  refine r_aload_n (i := 0) (x := a0) 0 rfl d_M_sumAnew_3 ?_
  have h2 := kr_ob h
  clear h
  obtain ⟨v10, ev10, h⟩ := h2
  refine r_getI ev10 fk129 rfl d_M_sumAnew_4 ?_
  have h2 := kr_ob2 h
  clear h
  obtain ⟨v12, S11, eS11, h⟩ := h2
  refine r_callS (M1 := m_M_isIn) (As := [.int a1, .int (0 : Int32), .int v10]) (s_M_isIn eS11) mok_M_isIn rfl w1700 w1701 (by decide) (kr_c8 (kr_cR kr_c0)) d_M_sumAnew_7 (kr_k1 ?_) kr_kn
  have h2 := kr_ob h
  clear h
  obtain ⟨⟨⟩, eu13, h⟩ := h2
  have h2 := kr_ob2 h
  clear h
  obtain ⟨v15, S14, eS14, h⟩ := h2
  refine r_callV (M1 := m_M_may) (κ := 23) (As := [.int v12]) eu13 (s_M_may eS14) mok_M_may rfl (by decide) rfl w1703 w1705 w42 (by decide) (kr_c8 kr_c0) d_M_sumAnew_10 (kr_k1 ?_) kr_kn
  refine r_if_ne (tgt := 18) d_M_sumAnew_13 rfl (fun c => ?_) (fun c => ?_)
  · replace h := kr_ip c h
    refine r_iconst (v := (0 : Int32)) (by decide) d_M_sumAnew_16 ?_
    cases h
    exact r_iret rfl d_M_sumAnew_17
  · replace h := kr_in_ c h
    refine r_bipush (v := (7 : Int32)) (by decide) d_M_sumAnew_18 ?_
    refine r_istore_n (i := 2) (lv' := [(2, .int (7 : Int32)), (0, va_rf a0), (1, .int a1)]) (by decide) rfl d_M_sumAnew_20 ?_
    refine r_iconst (v := (0 : Int32)) (by decide) d_M_sumAnew_21 ?_
    refine r_istore_n (i := 3) (lv' := [(3, .int (0 : Int32)), (2, .int (7 : Int32)), (0, va_rf a0), (1, .int a1)]) (by decide) rfl d_M_sumAnew_22 ?_
    exact kr_sub [2, 3, 1, 0] rfl (s_M_sumAnew_L23 kr_FU h)
