/-! ===== safety of the class's functions ===== -/
def kw_K0 : List Nat := [1100]
def kw_K1 : List Nat := [1001, 1100]
def kw_K2 : List Nat := [1001, 1002, 1100]
def kw_K3 : List Nat := [300]
def kw_K4 : List Nat := [300, 400]
def kw_K5 : List Nat := [203, 300, 400]
def kw_K6 : List Nat := [202, 203, 300, 400]
def kw_K7 : List Nat := [1004]
def kw_K8 : List Nat := [4411]
def kw_K9 : List Nat := [1400]
def kw_K10 : List Nat := [1400, 1500]
def kw_K11 : List Nat := [1303, 1400, 1500]
def kw_K12 : List Nat := [4100]
def kw_K13 : List Nat := [4005, 4100]
def kw_K14 : List Nat := [5100]
def kw_K15 : List Nat := [4206]
def kw_K16 : List Nat := [4206, 4207]
def kw_K17 : List Nat := [1307]
def kw_K18 : List Nat := [1307, 1308]
def kw_K19 : List Nat := [1500]
def kw_K20 : List Nat := [1303, 1500]
def kw_K21 : List Nat := [1306]
def kw_K22 : List Nat := [1305, 1306]
def kw_K23 : List Nat := [1304, 1305, 1306]
def kw_K24 : List Nat := [4800]
def kw_K25 : List Nat := [1000, 1004]
def kw_K26 : List Nat := [1000, 1002, 1004]
def kw_K27 : List Nat := [1000, 1002, 1003, 1004]
def kw_K28 : List Nat := [1000, 1001, 1004]
def kw_K29 : List Nat := [1000, 1001, 1002, 1004]
def kw_K30 : List Nat := [202, 203, 300, 400, 1001, 1002, 1100]
def kw_K31 : List Nat := [202, 203, 300, 400, 1001, 1002, 1004, 1100]
def kw_K32 : List Nat := [4306]
def kw_K33 : List Nat := [109, 4306]
def kw_K34 : List Nat := [109, 202, 203, 300, 400, 4306]
def kw_K35 : List Nat := [4406]
def kw_K36 : List Nat := [202, 203, 300, 400, 4406]
def kw_K37 : List Nat := [202, 203, 300, 400, 4406, 4411]
def kw_K38 : List Nat := [109, 202, 203, 300, 400, 4306, 4406, 4411]
def kw_K39 : List Nat := [100]
def kw_K40 : List Nat := [100, 202, 203, 300, 400, 1001, 1002, 1004, 1100]
def kw_K41 : List Nat := [100, 109, 202, 203, 300, 400, 1001, 1002, 1004, 1100, 4306, 4406, 4411]
def kw_K42 : List Nat := [4005]
def kw_K43 : List Nat := [2000, 2002, 52001, 53000]
def kw_K44 : List Nat := [2000, 2002, 50105, 52001, 53000]
def kw_K45 : List Nat := [600]
def kw_K46 : List Nat := [700]
def kw_K47 : List Nat := [600, 700]
def kw_K48 : List Nat := [2200, 2202, 4800, 52201, 53200]
def kw_K49 : List Nat := [109, 2200, 2202, 4800, 52201, 53200]
def kw_K50 : List Nat := [109, 202, 203, 300, 400, 2200, 2202, 4800, 52201, 53200]
def kw_K51 : List Nat := [4205]
def kw_K52 : List Nat := [109, 202, 203, 300, 400, 2200, 2202, 4205, 4800, 52201, 53200]
def kw_K53 : List Nat := [109, 202, 203, 300, 400, 2200, 2202, 4205, 4209, 4800, 52201, 53200]
def kw_K54 : List Nat := [109, 202, 203, 300, 400, 1307, 1308, 2200, 2202, 4205, 4209, 4800, 52201, 53200]
def kw_K55 : List Nat := [109, 202, 203, 300, 400, 1307, 1308, 2200, 2202, 4205, 4206, 4207, 4209, 4800, 52201, 53200]
def kw_K56 : List Nat := [2100, 2102, 52101, 53100]
def kw_K57 : List Nat := [109, 202, 203, 300, 400, 1307, 1308, 2100, 2102, 2200, 2202, 4205, 4206, 4207, 4209, 4800, 52101, 52201, 53100, 53200]
def kw_K58 : List Nat := [1303, 1304, 1305, 1306, 1400, 1500]
def kw_K59 : List Nat := [202, 203, 300, 400, 1303, 1304, 1305, 1306, 1400, 1500]
def kw_K60 : List Nat := [4208]
def kw_K61 : List Nat := [202, 203, 300, 400, 1303, 1304, 1305, 1306, 1400, 1500, 4208]
def kw_K62 : List Nat := [202, 203, 300, 400, 1303, 1304, 1305, 1306, 1400, 1500, 4207, 4208]
def kw_K63 : List Nat := [109, 202, 203, 300, 400, 1303, 1304, 1305, 1306, 1307, 1308, 1400, 1500, 2200, 2202, 4205, 4206, 4207, 4208, 4209, 4800, 52201, 53200]
def kw_K64 : List Nat := [202, 203, 300, 400, 1303, 1304, 1305, 1306, 1400, 1500, 4208, 4800]
def kw_K65 : List Nat := [4305]
def kw_K66 : List Nat := [202, 203, 300, 400, 1303, 1304, 1305, 1306, 1400, 1500, 4305]
def kw_K67 : List Nat := [202, 203, 300, 400, 1303, 1304, 1305, 1306, 1400, 1500, 4305, 4800]
def kw_K68 : List Nat := [1310]
def kw_K69 : List Nat := [800]
def kw_K70 : List Nat := [1600]
def kw_K71 : List Nat := [800, 1600]
def kw_K72 : List Nat := [202, 203, 300, 400, 1600, 4406, 4411]
def kw_K73 : List Nat := [1700]
def kw_K74 : List Nat := [2300, 2302, 4305, 52301, 53300]
def kw_K75 : List Nat := [4409]
def kw_K76 : List Nat := [4409, 4410]
def kw_K77 : List Nat := [2500, 2502, 4409, 4410, 52501, 53500]
def kw_K78 : List Nat := [4405]
def kw_K79 : List Nat := [4405, 4406]
def kw_K80 : List Nat := [2400, 2402, 4405, 4406, 52401, 53400]
def kw_K81 : List Nat := [202, 203, 300, 400, 2400, 2402, 4405, 4406, 52401, 53400]
def kw_K82 : List Nat := [202, 203, 300, 400, 2400, 2402, 2500, 2502, 4405, 4406, 4409, 4410, 52401, 52501, 53400, 53500]
def kw_K83 : List Nat := [202, 203, 300, 400, 2400, 2402, 2500, 2502, 4405, 4406, 4409, 4410, 4411, 52401, 52501, 53400, 53500]
def kw_K84 : List Nat := [4407]
def kw_K85 : List Nat := [4407, 4408]
def kw_K86 : List Nat := [4305, 4407, 4408]
def kw_K87 : List Nat := [2500, 2502, 4305, 4407, 4408, 4409, 4410, 52501, 53500]
def kw_K88 : List Nat := [202, 203, 300, 400, 2500, 2502, 4305, 4406, 4407, 4408, 4409, 4410, 4411, 52501, 53500]
def kw_K89 : List Nat := [202, 203, 300, 400, 1000, 1001, 1002, 1004]
def kw_K90 : List Nat := [1701]
def kw_K91 : List Nat := [1701, 4411]
def kw_K92 : List Nat := [1702]
def kw_K93 : List Nat := [1702, 1703]
def kw_K94 : List Nat := [2600, 2602, 52601, 53600]
def kw_K95 : List Nat := [4603]
def kw_K96 : List Nat := [4603, 4604]
def kw_K97 : List Nat := [4602]
def kw_K98 : List Nat := [202, 203, 300, 400, 4602]
def kw_K99 : List Nat := [109, 202, 203, 300, 400, 4306, 4406, 4411, 4602]
def kw_K100 : List Nat := [109, 202, 203, 300, 400, 1400, 4306, 4406, 4411, 4602]
def kw_K101 : List Nat := [109, 202, 203, 300, 400, 1303, 1400, 1500, 4306, 4406, 4411, 4602]
def kw_K102 : List Nat := [1200]
def kw_K103 : List Nat := [1311]
def kw_K104 : List Nat := [1311, 4205]
def kw_K105 : List Nat := [1311, 4205, 4602]
def kw_K106 : List Nat := [109, 202, 203, 300, 400, 1311, 4205, 4306, 4406, 4411, 4602]
theorem t_Keyring_isDueToSign {T : Nat → Nat} {S : AS} (hT : TI T S) {a0 : Option Nat} {a1 : Int32} (h_a0 : Tx T 10 a0) : Ho (f_Keyring_isDueToSign  S a0 a1) (fun q => q.2 = S ∧ In 0 1 q.1) := by
  unfold f_Keyring_isDueToSign
  refine r_gIe hT h_a0 rfl (fun v1 b1 e2 => ?_)
  refine r_if (fun c3 => ?_) (fun c3 => ?_)
  · have q4 : In (-1) (-1) v1 := In_w (In_eq c3 (by decide : In (-1) (-1) (-1 : Int32))) (by decide) (by decide)
    exact r_some ⟨rfl, (In_w (by decide : In 0 0 (0 : Int32)) (by decide) (by decide))⟩
  · refine r_gIe hT h_a0 rfl (fun v2 b5 e6 => ?_)
    refine r_if (fun c7 => ?_) (fun c7 => ?_)
    · have q8 : In (-2147483648) 2147483646 a1 := In_w (In_lt1 c7 (In_top a1) (In_top v2)) (by decide) (by decide)
      have q9 : In (-2147483647) 2147483647 v2 := In_w (In_lt2 c7 (In_top a1) (In_top v2)) (by decide) (by decide)
      exact r_some ⟨rfl, (In_w (by decide : In 0 0 (0 : Int32)) (by decide) (by decide))⟩
    · exact r_some ⟨rfl, (In_w (by decide : In 1 1 (1 : Int32)) (by decide) (by decide))⟩
theorem t_Keyring_putWaitingToSign_B29 {T : Nat → Nat} {S0 S : AS} (g : Rl T kw_K0 S0 0 0 T S) {x0 : Option Nat} (h_x0 : Tx T 10 x0) : Ho (f_Keyring_putWaitingToSign_B29  S x0) (fun q => Rl T kw_K2 S0 0 0 T q) := by
  unfold f_Keyring_putWaitingToSign_B29
  refine r_gIe g.1 h_x0 rfl (fun v1 b1 e2 => ?_)
  refine r_pI (w' := kw_K1) g h_x0 rfl (by decide) (fun _ _ q => by cases q) rfl (by decide) (by decide +kernel) (by unfold phc; decide) (fun s3 g4 => ?_)
  refine r_pI (w' := kw_K2) g4 h_x0 rfl (by decide) (fun _ _ q => by cases q) rfl (by decide) (by decide +kernel) (by unfold phc; decide) (fun s5 g6 => ?_)
  exact r_some (Rlweak g6 (by decide +kernel) (by decide) (by decide))
theorem t_Keyring_putWaitingToSign {T : Nat → Nat} {S : AS} (hT : TI T S) {a0 : Option Nat} {a1 : Int32} (h_a0 : Tx T 10 a0) : Ho (f_Keyring_putWaitingToSign  S a0 a1) (fun q => Rl T kw_K2 S 0 0 T q) := by
  have g0 := Rlrf hT
  unfold f_Keyring_putWaitingToSign
  refine r_gIe g0.1 h_a0 rfl (fun v4 b1 e2 => ?_)
  refine r_if (fun c3 => ?_) (fun c3 => ?_)
  · have q4 : In (-2147483648) (-1) v4 := In_w (In_lt1 c3 (In_top v4) (by decide : In 0 0 (0 : Int32))) (by decide) (by decide)
    exact t_Keyring_putWaitingToSign_B29 (Rlweak g0 (by decide +kernel) (by decide) (by decide))  h_a0 
  · have q5 : In 0 2147483647 v4 := In_w (In_le2 (Int32.not_lt.mp c3) (by decide : In 0 0 (0 : Int32)) (In_top v4)) (by decide) (by decide)
    refine r_gIe g0.1 h_a0 rfl (fun v5 b6 e7 => ?_)
    have q8 : In 0 2147483647 v5 := by rw [(rd_w h_a0 g0 g0 (by decide +kernel) (by decide +kernel) e2 e7)]; exact q5
    refine r_if (fun c9 => ?_) (fun c9 => ?_)
    · have q10 : In 20 2147483647 v5 := In_w (In_le2 c9 (by decide : In 20 20 (20 : Int32)) q8) (by decide) (by decide)
      exact t_Keyring_putWaitingToSign_B29 (Rlweak g0 (by decide +kernel) (by decide) (by decide))  h_a0 
    · have q11 : In 0 19 v5 := In_w (In_lt1 (Int32.not_le.mp c9) q8 (by decide : In 20 20 (20 : Int32))) (by decide) (by decide)
      refine r_gR g0.1 h_a0 rfl rfl (fun v6 h12 => ?_)
      refine r_gIe g0.1 h_a0 rfl (fun v7 b13 e14 => ?_)
      have q15 : In 0 19 v7 := by rw [(rd_w h_a0 g0 g0 (by decide +kernel) (by decide +kernel) e7 e14)]; exact q11
      refine r_bI (w' := kw_K0) g0 h12 rfl rfl (In_w q15 (by decide) (by decide) : In 0 19 v7) (by decide) (fun _ _ _ q => by cases q) (fun _ => rfl) (by decide) (by decide +kernel) (fun _ => by unfold phc; omega) (fun s16 g17 => ?_)
      exact t_Keyring_putWaitingToSign_B29 (Rlweak g17 (by decide +kernel) (by decide) (by decide))  h_a0 
theorem t_Audit_totalWith {T : Nat → Nat} {S : AS} (hT : TI T S) {a0 : Option Nat} {a1 : Int32} {a2 : Int32} (h_a0 : Tx T 2 a0) : Ho (f_Audit_totalWith  S a0 a1 a2) (fun q => q.2 = S ∧ True) := by
  unfold f_Audit_totalWith
  refine r_if (fun c1 => ?_) (fun c1 => ?_)
  · have q2 : In (-2147483648) (-1) a2 := In_w (In_lt1 c1 (In_top a2) (by decide : In 0 0 (0 : Int32))) (by decide) (by decide)
    exact r_some ⟨rfl, trivial⟩
  · have q3 : In 0 2147483647 a2 := In_w (In_le2 (Int32.not_lt.mp c1) (by decide : In 0 0 (0 : Int32)) (In_top a2)) (by decide) (by decide)
    refine r_if (fun c4 => ?_) (fun c4 => ?_)
    · have q5 : In 0 1023 a2 := In_w (In_lt1 c4 q3 (by decide : In 1024 1024 (1024 : Int32))) (by decide) (by decide)
      refine r_gR hT h_a0 rfl rfl (fun v1 h6 => ?_)
      refine r_aI hT h6 rfl rfl (In_w q5 (by decide) (by decide) : In 0 1023 a2) (by decide) (fun v2 b7 => ?_)
      refine r_val ?_
      generalize ei3 : (v2 / (1000 : Int32)) = i3
      refine r_gR hT h_a0 rfl rfl (fun v4 h8 => ?_)
      refine r_aI hT h8 rfl rfl (In_w q5 (by decide) (by decide) : In 0 1023 a2) (by decide) (fun v5 b9 => ?_)
      refine r_val ?_
      generalize ei6 : (v5 - v5 / (1000 : Int32) * (1000 : Int32)) = i6
      refine r_gR hT h_a0 rfl rfl (fun v7 h10 => ?_)
      refine r_aI hT h10 rfl rfl (In_w q5 (by decide) (by decide) : In 0 1023 a2) (by decide) (fun v8 b11 => ?_)
      refine r_val ?_
      generalize ei9 : (((((31 : Int32) * a1) + ((100 : Int32) * i3)) + i6) + v8) = i9
      exact r_some ⟨rfl, trivial⟩
    · have q12 : In 1024 2147483647 a2 := In_w (In_le2 (Int32.not_lt.mp c4) (by decide : In 1024 1024 (1024 : Int32)) q3) (by decide) (by decide)
      exact r_some ⟨rfl, trivial⟩
theorem t_Audit_write {T : Nat → Nat} {S : AS} (hT : TI T S) {a0 : Option Nat} {a1 : Int32} {a2 : Int32} {a3 : Int32} (h_a0 : Tx T 2 a0) : Ho (f_Audit_write  S a0 a1 a2 a3) (fun q => Rl T kw_K6 S 0 0 T q) := by
  have g0 := Rlrf hT
  unfold f_Audit_write
  refine r_gIe g0.1 h_a0 rfl (fun v1 b1 e2 => ?_)
  have q3 : In 0 1024 v1 := b1 _ _ rfl
  refine r_if (fun c4 => ?_) (fun c4 => ?_)
  · have q5 : In 0 (-1) v1 := In_w (In_lt1 c4 q3 (by decide : In 0 0 (0 : Int32))) (by decide) (by decide)
    exact absurd q5.1 (by have := q5.2; omega)
  · refine r_gIe g0.1 h_a0 rfl (fun v2 b6 e7 => ?_)
    have q8 : In 0 1024 v2 := by rw [(rd_w h_a0 g0 g0 (by decide +kernel) (by decide +kernel) e2 e7)]; exact q3
    refine r_if (fun c9 => ?_) (fun c9 => ?_)
    · have q10 : In 0 1023 v2 := In_w (In_lt1 c9 q8 (by decide : In 1024 1024 (1024 : Int32))) (by decide) (by decide)
      refine r_gR g0.1 h_a0 rfl rfl (fun v3 h11 => ?_)
      refine r_gIe g0.1 h_a0 rfl (fun v4 b12 e13 => ?_)
      have q14 : In 0 1023 v4 := by rw [(rd_w h_a0 g0 g0 (by decide +kernel) (by decide +kernel) e7 e13)]; exact q10
      refine r_bI (w' := kw_K3) g0 h11 rfl rfl (In_w q14 (by decide) (by decide) : In 0 1023 v4) (by decide) (fun _ _ _ q => by cases q) (fun _ => rfl) (by decide) (by decide +kernel) (fun _ => by unfold phc; omega) (fun s15 g16 => ?_)
      refine r_gR g16.1 h_a0 rfl rfl (fun v6 h17 => ?_)
      refine r_gIe g16.1 h_a0 rfl (fun v7 b18 e19 => ?_)
      have q20 : In 0 1023 v7 := by rw [(rd_w h_a0 g0 g16 (by decide +kernel) (by decide +kernel) e13 e19)]; exact q14
      refine r_bI (w' := kw_K4) g16 h17 rfl rfl (In_w q20 (by decide) (by decide) : In 0 1023 v7) (by decide) (fun _ _ _ q => by cases q) (fun _ => rfl) (by decide) (by decide +kernel) (fun _ => by unfold phc; omega) (fun s21 g22 => ?_)
      refine r_gIe g22.1 h_a0 rfl (fun v9 b23 e24 => ?_)
      refine r_gIe g22.1 h_a0 rfl (fun v10 b25 e26 => ?_)
      have q27 : In 0 1023 v10 := by rw [(rd_w h_a0 g16 g22 (by decide +kernel) (by decide +kernel) e19 e26)]; exact q20
      refine r_rv g22.1 h_a0 rfl ?_
      refine r_P (P := fun v => True) (t_Audit_totalWith g22.1 h_a0) (fun v13 h28 => ?_)
      refine r_pI (w' := kw_K5) g22 h_a0 rfl (by decide) (fun _ _ q => by cases q) rfl (by decide) (by decide +kernel) (by unfold phc; decide) (fun s29 g30 => ?_)
      refine r_gIe g30.1 h_a0 rfl (fun v15 b31 e32 => ?_)
      have q33 : In 0 1023 v15 := by rw [(rd_w h_a0 g22 g30 (by decide +kernel) (by decide +kernel) e26 e32)]; exact q27
      refine r_pI (w' := kw_K6) g30 h_a0 rfl (by decide) (fun _ _ q => by cases q; exact (In_w (In_w (In_add q33 (by decide : In 1 1 (1 : Int32)) (by decide) (by decide)) (by decide) (by decide) : In 1 1024 (v15 + (1 : Int32))) (by decide) (by decide))) rfl (by decide) (by decide +kernel) (by unfold phc; decide) (fun s34 g35 => ?_)
      exact r_some (Rlweak g35 (by decide +kernel) (by decide) (by decide))
    · have q36 : In 1024 1024 v2 := In_w (In_le2 (Int32.not_lt.mp c9) (by decide : In 1024 1024 (1024 : Int32)) q8) (by decide) (by decide)
      exact r_some (Rlweak g0 (by decide +kernel) (by decide) (by decide))
theorem t_Keyring_retire_B40 {T : Nat → Nat} {S0 S : AS} (g : Rl T kw_K7 S0 0 0 T S) {x0 : Option Nat} {x1 : Int32} {x2 : Int32} {k2 : AS → Option Nat → Int32 → Int32 → Option AS} {n2 : Nat} (hk2 : ∀ (S' : AS) (z0 : Option Nat) (z1 : Int32) (z2 : Int32), Rl T kw_K7 S0 0 0 T S' → Tx T 10 z0 → In 0 20 z2 → (20 + 1 : Int) ≤ z2.toInt + (n2 : Int) → Ho (k2 S' z0 z1 z2) (fun q => Rl T kw_K7 S0 0 0 T q)) (hm2 : (20 + 1 : Int) ≤ x2.toInt + ((n2 + 1 : Nat) : Int)) (h_x0 : Tx T 10 x0) (h_x2 : In 0 19 x2) : Ho (f_Keyring_retire_B40 k2 S x0 x1 x2) (fun q => Rl T kw_K7 S0 0 0 T q) := by
  unfold f_Keyring_retire_B40
  refine r_val ?_
  generalize ei1 : (x2 + (1 : Int32)) = i1
  have qi1 : In 1 20 i1 := by rw [← ei1]; exact (In_w (In_add h_x2 (by decide : In 1 1 (1 : Int32)) (by decide) (by decide)) (by decide) (by decide) : In 1 20 (x2 + (1 : Int32)))
  exact hk2 S x0 x1 i1 (Rlweak g (by decide +kernel) (by decide) (by decide)) h_x0 (In_w qi1 (by decide) (by decide))  (by rw [← ei1, toInt_add1 h_x2 (by decide) (by decide)]; omega)
theorem t_Keyring_retire_C2 {T : Nat → Nat} {S0 S : AS} (g : Rl T kw_K7 S0 0 0 T S) {x0 : Option Nat} {x1 : Int32} {x2 : Int32} {k2 : AS → Option Nat → Int32 → Int32 → Option AS} {n2 : Nat} (hk2 : ∀ (S' : AS) (z0 : Option Nat) (z1 : Int32) (z2 : Int32), Rl T kw_K7 S0 0 0 T S' → Tx T 10 z0 → In 0 20 z2 → (20 + 1 : Int) ≤ z2.toInt + (n2 : Int) → Ho (k2 S' z0 z1 z2) (fun q => Rl T kw_K7 S0 0 0 T q)) (hm2 : (20 + 1 : Int) ≤ x2.toInt + ((n2 + 1 : Nat) : Int)) (h_x0 : Tx T 10 x0) (h_x2 : In 0 20 x2) : Ho (f_Keyring_retire_C2 k2 S x0 x1 x2) (fun q => Rl T kw_K7 S0 0 0 T q) := by
  unfold f_Keyring_retire_C2
  refine r_gIe g.1 h_x0 rfl (fun v2 b1 e2 => ?_)
  refine r_if (fun c3 => ?_) (fun c3 => ?_)
  · have q4 : In (-2147483648) 20 v2 := In_w (In_le1 c3 (In_top v2) h_x2) (by decide) (by decide)
    exact r_some (Rlweak g (by decide +kernel) (by decide) (by decide))
  · have q5 : In 1 2147483647 v2 := In_w (In_lt2 (Int32.not_le.mp c3) h_x2 (In_top v2)) (by decide) (by decide)
    refine r_if (fun c6 => ?_) (fun c6 => ?_)
    · have q7 : In 20 20 x2 := In_w (In_le2 c6 (by decide : In 20 20 (20 : Int32)) h_x2) (by decide) (by decide)
      exact r_some (Rlweak g (by decide +kernel) (by decide) (by decide))
    · have q8 : In 0 19 x2 := In_w (In_lt1 (Int32.not_le.mp c6) h_x2 (by decide : In 20 20 (20 : Int32))) (by decide) (by decide)
      refine r_gR g.1 h_x0 rfl rfl (fun v3 h9 => ?_)
      refine r_aI g.1 h9 rfl rfl (In_w q8 (by decide) (by decide) : In 0 19 x2) (by decide) (fun v4 b10 => ?_)
      refine r_if (fun c11 => ?_) (fun c11 => ?_)
      · refine r_gIe g.1 h_x0 rfl (fun v5 b12 e13 => ?_)
        refine r_pI (w' := kw_K7) g h_x0 rfl (by decide) (fun _ _ q => by cases q) rfl (by decide) (by decide +kernel) (by unfold phc; decide) (fun s14 g15 => ?_)
        exact t_Keyring_retire_B40 (Rlweak g15 (by decide +kernel) (by decide) (by decide)) hk2 hm2 h_x0 (In_w q8 (by decide) (by decide)) 
      · exact t_Keyring_retire_B40 (Rlweak g (by decide +kernel) (by decide) (by decide)) hk2 hm2 h_x0 (In_w q8 (by decide) (by decide))
theorem t_Keyring_retire_L2 {T : Nat → Nat} {S0 : AS} : ∀ (n : Nat) (S : AS) (x0 : Option Nat) (x1 : Int32) (x2 : Int32), Rl T kw_K7 S0 0 0 T S → Tx T 10 x0 → In 0 20 x2 → (20 + 1 : Int) ≤ x2.toInt + (n : Int) → Ho (f_Keyring_retire_L2  n S x0 x1 x2) (fun q => Rl T kw_K7 S0 0 0 T q) := by
  intro n
  induction n with
  | zero =>
    intro S x0 x1 x2 g h_x0 h_x2 hm
    exact absurd hm (by have := h_x2.2; omega)
  | succ n ih =>
    intro S x0 x1 x2 g h_x0 h_x2 hm
    exact t_Keyring_retire_C2 g  (fun S' z0 z1 z2 g' a_h_x0 a_h_x2 am => ih S' z0 z1 z2 g' a_h_x0 a_h_x2 am) hm h_x0 h_x2 
theorem t_Keyring_retire {T : Nat → Nat} {S : AS} (hT : TI T S) {a0 : Option Nat} {a1 : Int32} (h_a0 : Tx T 10 a0) : Ho (f_Keyring_retire  S a0 a1) (fun q => Rl T kw_K7 S 0 0 T q) := by
  have g0 := Rlrf hT
  unfold f_Keyring_retire
  exact t_Keyring_retire_L2   kr_FU S a0 a1 (0 : Int32) (Rlweak g0 (by decide +kernel) (by decide) (by decide)) h_a0 (In_w (by decide : In 0 0 (0 : Int32)) (by decide) (by decide))  (by decide)
theorem t_Session_isOldAt_B23 {T : Nat → Nat} {S : AS} (hT : TI T S) : Ho (f_Session_isOldAt_B23  S ) (fun q => q.2 = S ∧ In 0 1 q.1) := by
  unfold f_Session_isOldAt_B23
  exact r_some ⟨rfl, (In_w (by decide : In 1 1 (1 : Int32)) (by decide) (by decide))⟩
theorem t_Session_isOldAt {T : Nat → Nat} {S : AS} (hT : TI T S) {a0 : Option Nat} {a1 : Int32} (h_a0 : Tx T 43 a0) : Ho (f_Session_isOldAt  S a0 a1) (fun q => q.2 = S ∧ In 0 1 q.1) := by
  unfold f_Session_isOldAt
  refine r_gIe hT h_a0 rfl (fun v1 b1 e2 => ?_)
  refine r_if (fun c3 => ?_) (fun c3 => ?_)
  · exact t_Session_isOldAt_B23 hT
  · refine r_gIe hT h_a0 rfl (fun v2 b4 e5 => ?_)
    refine r_if (fun c6 => ?_) (fun c6 => ?_)
    · exact r_some ⟨rfl, (In_w (by decide : In 0 0 (0 : Int32)) (by decide) (by decide))⟩
    · exact t_Session_isOldAt_B23 hT
theorem t_K_isIn {T : Nat → Nat} {S : AS} (hT : TI T S) {a0 : Int32} {a1 : Int32} : Ho (f_K_isIn  S a0 a1) (fun q => q.2 = S ∧ In 0 1 q.1) := by
  unfold f_K_isIn
  refine r_if (fun c1 => ?_) (fun c1 => ?_)
  · exact r_some ⟨rfl, (In_w (by decide : In 1 1 (1 : Int32)) (by decide) (by decide))⟩
  · exact r_some ⟨rfl, (In_w (by decide : In 0 0 (0 : Int32)) (by decide) (by decide))⟩
theorem t_Grant_tell {T : Nat → Nat} {S : AS} (hT : TI T S) {a0 : Option Nat} {a1 : Int32} (h_a0 : Tx T 44 a0) : Ho (f_Grant_tell  S a0 a1) (fun q => Rl T kw_K8 S 0 0 T q.2 ∧ In 0 1 q.1) := by
  have g0 := Rlrf hT
  unfold f_Grant_tell
  refine r_gIe g0.1 h_a0 rfl (fun v1 b1 e2 => ?_)
  refine r_P (P := fun v => In 0 1 v) (t_K_isIn g0.1 ) (fun v3 h3 => ?_)
  refine r_if (fun c4 => ?_) (fun c4 => ?_)
  · have q5 : In 0 0 v3 := In_w (In_eq c4 (by decide : In 0 0 (0 : Int32))) (by decide) (by decide)
    exact r_some ⟨(Rlweak g0 (by decide +kernel) (by decide) (by decide)), (In_w (by decide : In 0 0 (0 : Int32)) (by decide) (by decide))⟩
  · have q6 : In 1 1 v3 := In_w (In_neL c4 h3 (by decide)) (by decide) (by decide)
    refine r_gIe g0.1 h_a0 rfl (fun v4 b7 e8 => ?_)
    refine r_P (P := fun v => In 0 1 v) (t_K_isIn g0.1 ) (fun v6 h9 => ?_)
    refine r_if (fun c10 => ?_) (fun c10 => ?_)
    · have q11 : In 0 0 v6 := In_w (In_eq c10 (by decide : In 0 0 (0 : Int32))) (by decide) (by decide)
      refine r_gIe g0.1 h_a0 rfl (fun v7 b12 e13 => ?_)
      refine r_pI (w' := kw_K8) g0 h_a0 rfl (by decide) (fun _ _ q => by cases q) rfl (by decide) (by decide +kernel) (by unfold phc; decide) (fun s14 g15 => ?_)
      exact r_some ⟨(Rlweak g15 (by decide +kernel) (by decide) (by decide)), (In_w (by decide : In 1 1 (1 : Int32)) (by decide) (by decide))⟩
    · have q16 : In 1 1 v6 := In_w (In_neL c10 h9 (by decide)) (by decide) (by decide)
      exact r_some ⟨(Rlweak g0 (by decide +kernel) (by decide) (by decide)), (In_w (by decide : In 0 0 (0 : Int32)) (by decide) (by decide))⟩
theorem t_Person_stateOf {T : Nat → Nat} {S : AS} (hT : TI T S) {a0 : Option Nat} {a1 : Int32} (h_a0 : Tx T 13 a0) : Ho (f_Person_stateOf  S a0 a1) (fun q => q.2 = S ∧ True) := by
  unfold f_Person_stateOf
  refine r_Kf (fun q1 => ?_) ?_
  · have q2 : In 0 2 a1 := In_w q1 (by decide) (by decide)
    refine r_ifF (by decide) ?_
    refine r_gR hT h_a0 rfl rfl (fun v3 h3 => ?_)
    refine r_aI hT h3 rfl rfl (In_w q2 (by decide) (by decide) : In 0 2 a1) (by decide) (fun v4 b4 => ?_)
    exact r_some ⟨rfl, trivial⟩
  · refine r_ifT (by decide) ?_
    exact r_some ⟨rfl, trivial⟩
theorem t_Person_makeReady {T : Nat → Nat} {S : AS} (hT : TI T S) {a0 : Option Nat} {a1 : Int32} (h_a0 : Tx T 13 a0) : Ho (f_Person_makeReady  S a0 a1) (fun q => Rl T kw_K11 S 0 0 T q) := by
  have g0 := Rlrf hT
  unfold f_Person_makeReady
  refine r_Kf (fun q1 => ?_) ?_
  · have q2 : In 0 2 a1 := In_w q1 (by decide) (by decide)
    refine r_ifF (by decide) ?_
    refine r_gR g0.1 h_a0 rfl rfl (fun v3 h3 => ?_)
    refine r_bI (w' := kw_K9) g0 h3 rfl rfl (In_w q2 (by decide) (by decide) : In 0 2 a1) (by decide) (fun _ _ _ q => by cases q) (fun _ => rfl) (by decide) (by decide +kernel) (fun _ => by unfold phc; omega) (fun s4 g5 => ?_)
    refine r_gR g5.1 h_a0 rfl rfl (fun v5 h6 => ?_)
    refine r_bI (w' := kw_K10) g5 h6 rfl rfl (In_w q2 (by decide) (by decide) : In 0 2 a1) (by decide) (fun _ _ _ q => by cases q) (fun _ => rfl) (by decide) (by decide +kernel) (fun _ => by unfold phc; omega) (fun s7 g8 => ?_)
    refine r_if (fun c9 => ?_) (fun c9 => ?_)
    · have q10 : In 2 2 a1 := In_w (In_eq c9 (by decide : In 2 2 (2 : Int32))) (by decide) (by decide)
      refine r_pI (w' := kw_K11) g8 h_a0 rfl (by decide) (fun _ _ q => by cases q) rfl (by decide) (by decide +kernel) (by unfold phc; decide) (fun s11 g12 => ?_)
      exact r_some (Rlweak g12 (by decide +kernel) (by decide) (by decide))
    · have q13 : In 0 1 a1 := In_w (In_neR c9 q2 (by decide)) (by decide) (by decide)
      exact r_some (Rlweak g8 (by decide +kernel) (by decide) (by decide))
  · refine r_ifT (by decide) ?_
    exact r_some (Rlweak g0 (by decide +kernel) (by decide) (by decide))
theorem t_Flow_add {T : Nat → Nat} {S : AS} (hT : TI T S) {a0 : Option Nat} {a1 : Int32} {a2 : Int32} {a3 : Int32} {a4 : Int32} {a5 : Int32} (h_a0 : Tx T 40 a0) : Ho (f_Flow_add  S a0 a1 a2 a3 a4 a5) (fun q => Rl T kw_K13 S 0 0 T q.2 ∧ In (-1) 11 q.1) := by
  have g0 := Rlrf hT
  unfold f_Flow_add
  refine r_gIe g0.1 h_a0 rfl (fun v1 b1 e2 => ?_)
  have q3 : In 0 12 v1 := b1 _ _ rfl
  refine r_if (fun c4 => ?_) (fun c4 => ?_)
  · have q5 : In 0 (-1) v1 := In_w (In_lt1 c4 q3 (by decide : In 0 0 (0 : Int32))) (by decide) (by decide)
    exact absurd q5.1 (by have := q5.2; omega)
  · refine r_gIe g0.1 h_a0 rfl (fun v2 b6 e7 => ?_)
    have q8 : In 0 12 v2 := by rw [(rd_w h_a0 g0 g0 (by decide +kernel) (by decide +kernel) e2 e7)]; exact q3
    refine r_if (fun c9 => ?_) (fun c9 => ?_)
    · have q10 : In 0 11 v2 := In_w (In_lt1 c9 q8 (by decide : In 12 12 (12 : Int32))) (by decide) (by decide)
      refine r_gR g0.1 h_a0 rfl rfl (fun v3 h11 => ?_)
      refine r_gIe g0.1 h_a0 rfl (fun v4 b12 e13 => ?_)
      have q14 : In 0 11 v4 := by rw [(rd_w h_a0 g0 g0 (by decide +kernel) (by decide +kernel) e7 e13)]; exact q10
      refine r_bI (w' := kw_K12) g0 h11 rfl rfl (In_w q14 (by decide) (by decide) : In 0 11 v4) (by decide) (fun _ _ _ q => by cases q) (fun _ => rfl) (by decide) (by decide +kernel) (fun _ => by unfold phc; omega) (fun s15 g16 => ?_)
      refine r_gR g16.1 h_a0 rfl rfl (fun v6 h17 => ?_)
      refine r_gIe g16.1 h_a0 rfl (fun v7 b18 e19 => ?_)
      have q20 : In 0 11 v7 := by rw [(rd_w h_a0 g0 g16 (by decide +kernel) (by decide +kernel) e13 e19)]; exact q14
      refine r_bI (w' := kw_K12) g16 h17 rfl rfl (In_w q20 (by decide) (by decide) : In 0 11 v7) (by decide) (fun _ _ _ q => by cases q) (fun _ => rfl) (by decide) (by decide +kernel) (fun _ => by unfold phc; omega) (fun s21 g22 => ?_)
      refine r_gR g22.1 h_a0 rfl rfl (fun v9 h23 => ?_)
      refine r_gIe g22.1 h_a0 rfl (fun v10 b24 e25 => ?_)
      have q26 : In 0 11 v10 := by rw [(rd_w h_a0 g16 g22 (by decide +kernel) (by decide +kernel) e19 e25)]; exact q20
      refine r_bI (w' := kw_K12) g22 h23 rfl rfl (In_w q26 (by decide) (by decide) : In 0 11 v10) (by decide) (fun _ _ _ q => by cases q) (fun _ => rfl) (by decide) (by decide +kernel) (fun _ => by unfold phc; omega) (fun s27 g28 => ?_)
      refine r_gR g28.1 h_a0 rfl rfl (fun v12 h29 => ?_)
      refine r_gIe g28.1 h_a0 rfl (fun v13 b30 e31 => ?_)
      have q32 : In 0 11 v13 := by rw [(rd_w h_a0 g22 g28 (by decide +kernel) (by decide +kernel) e25 e31)]; exact q26
      refine r_bI (w' := kw_K12) g28 h29 rfl rfl (In_w q32 (by decide) (by decide) : In 0 11 v13) (by decide) (fun _ _ _ q => by cases q) (fun _ => rfl) (by decide) (by decide +kernel) (fun _ => by unfold phc; omega) (fun s33 g34 => ?_)
      refine r_gR g34.1 h_a0 rfl rfl (fun v15 h35 => ?_)
      refine r_gIe g34.1 h_a0 rfl (fun v16 b36 e37 => ?_)
      have q38 : In 0 11 v16 := by rw [(rd_w h_a0 g28 g34 (by decide +kernel) (by decide +kernel) e31 e37)]; exact q32
      refine r_bI (w' := kw_K12) g34 h35 rfl rfl (In_w q38 (by decide) (by decide) : In 0 11 v16) (by decide) (fun _ _ _ q => by cases q) (fun _ => rfl) (by decide) (by decide +kernel) (fun _ => by unfold phc; omega) (fun s39 g40 => ?_)
      refine r_gIe g40.1 h_a0 rfl (fun v18 b41 e42 => ?_)
      have q43 : In 0 11 v18 := by rw [(rd_w h_a0 g34 g40 (by decide +kernel) (by decide +kernel) e37 e42)]; exact q38
      refine r_pI (w' := kw_K13) g40 h_a0 rfl (by decide) (fun _ _ q => by cases q; exact (In_w (In_w (In_add q43 (by decide : In 1 1 (1 : Int32)) (by decide) (by decide)) (by decide) (by decide) : In 1 12 (v18 + (1 : Int32))) (by decide) (by decide))) rfl (by decide) (by decide +kernel) (by unfold phc; decide) (fun s44 g45 => ?_)
      refine r_gIe g45.1 h_a0 rfl (fun v20 b46 e47 => ?_)
      have q48 : In 0 12 v20 := b46 _ _ rfl
      exact r_some ⟨(Rlweak g45 (by decide +kernel) (by decide) (by decide)), (In_w (In_w (In_sub q48 (by decide : In 1 1 (1 : Int32)) (by decide) (by decide)) (by decide) (by decide) : In (-1) 11 (v20 - (1 : Int32))) (by decide) (by decide))⟩
    · have q49 : In 12 12 v2 := In_w (In_le2 (Int32.not_lt.mp c9) (by decide : In 12 12 (12 : Int32)) q8) (by decide) (by decide)
      exact r_some ⟨(Rlweak g0 (by decide +kernel) (by decide) (by decide)), (In_w (by decide : In (-1) (-1) (-1 : Int32)) (by decide) (by decide))⟩
theorem t_Flow_isThere {T : Nat → Nat} {S : AS} (hT : TI T S) {a0 : Option Nat} {a1 : Int32} (h_a0 : Tx T 40 a0) : Ho (f_Flow_isThere  S a0 a1) (fun q => q.2 = S ∧ In 0 1 q.1) := by
  unfold f_Flow_isThere
  refine r_if (fun c1 => ?_) (fun c1 => ?_)
  · have q2 : In (-2147483648) (-1) a1 := In_w (In_lt1 c1 (In_top a1) (by decide : In 0 0 (0 : Int32))) (by decide) (by decide)
    exact r_some ⟨rfl, (In_w (by decide : In 0 0 (0 : Int32)) (by decide) (by decide))⟩
  · have q3 : In 0 2147483647 a1 := In_w (In_le2 (Int32.not_lt.mp c1) (by decide : In 0 0 (0 : Int32)) (In_top a1)) (by decide) (by decide)
    refine r_gIe hT h_a0 rfl (fun v1 b4 e5 => ?_)
    have q6 : In 0 12 v1 := b4 _ _ rfl
    refine r_if (fun c7 => ?_) (fun c7 => ?_)
    · exact r_some ⟨rfl, (In_w (by decide : In 0 0 (0 : Int32)) (by decide) (by decide))⟩
    · have q8 : In 0 11 a1 := In_w (In_lt1 (Int32.not_le.mp c7) q3 q6) (by decide) (by decide)
      have q9 : In 1 12 v1 := In_w (In_lt2 (Int32.not_le.mp c7) q3 q6) (by decide) (by decide)
      refine r_if (fun c10 => ?_) (fun c10 => ?_)
      · have q11 : In 12 11 a1 := In_w (In_le2 c10 (by decide : In 12 12 (12 : Int32)) q8) (by decide) (by decide)
        exact absurd q11.1 (by have := q11.2; omega)
      · exact r_some ⟨rfl, (In_w (by decide : In 1 1 (1 : Int32)) (by decide) (by decide))⟩
theorem t_Flow_kindOf {T : Nat → Nat} {S : AS} (hT : TI T S) {a0 : Option Nat} {a1 : Int32} (h_a0 : Tx T 40 a0) : Ho (f_Flow_kindOf  S a0 a1) (fun q => q.2 = S ∧ True) := by
  unfold f_Flow_kindOf
  refine r_rv hT h_a0 rfl ?_
  refine r_Ft hT h_a0 (fun q1 => ?_) ?_
  · have q2 : In 0 11 a1 := In_w q1 (by decide) (by decide)
    refine r_ifF (by decide) ?_
    refine r_gR hT h_a0 rfl rfl (fun v4 h3 => ?_)
    refine r_aI hT h3 rfl rfl (In_w q2 (by decide) (by decide) : In 0 11 a1) (by decide) (fun v5 b4 => ?_)
    exact r_some ⟨rfl, trivial⟩
  · refine r_ifT (by decide) ?_
    exact r_some ⟨rfl, trivial⟩
theorem t_Flow_nextOf {T : Nat → Nat} {S : AS} (hT : TI T S) {a0 : Option Nat} {a1 : Int32} {a2 : Int32} (h_a0 : Tx T 40 a0) : Ho (f_Flow_nextOf  S a0 a1 a2) (fun q => q.2 = S ∧ True) := by
  unfold f_Flow_nextOf
  refine r_rv hT h_a0 rfl ?_
  refine r_Ft hT h_a0 (fun q1 => ?_) ?_
  · have q2 : In 0 11 a1 := In_w q1 (by decide) (by decide)
    refine r_ifF (by decide) ?_
    refine r_if (fun c3 => ?_) (fun c3 => ?_)
    · have q4 : In 0 0 a2 := In_w (In_eq c3 (by decide : In 0 0 (0 : Int32))) (by decide) (by decide)
      refine r_gR hT h_a0 rfl rfl (fun v4 h5 => ?_)
      refine r_aI hT h5 rfl rfl (In_w q2 (by decide) (by decide) : In 0 11 a1) (by decide) (fun v5 b6 => ?_)
      exact r_some ⟨rfl, trivial⟩
    · refine r_gR hT h_a0 rfl rfl (fun v6 h7 => ?_)
      refine r_aI hT h7 rfl rfl (In_w q2 (by decide) (by decide) : In 0 11 a1) (by decide) (fun v7 b8 => ?_)
      exact r_some ⟨rfl, trivial⟩
  · refine r_ifT (by decide) ?_
    exact r_some ⟨rfl, trivial⟩
theorem t_Flow_isNoneOrThere_B13 {T : Nat → Nat} {S : AS} (hT : TI T S) : Ho (f_Flow_isNoneOrThere_B13  S ) (fun q => q.2 = S ∧ In 0 1 q.1) := by
  unfold f_Flow_isNoneOrThere_B13
  exact r_some ⟨rfl, (In_w (by decide : In 1 1 (1 : Int32)) (by decide) (by decide))⟩
theorem t_Flow_isNoneOrThere {T : Nat → Nat} {S : AS} (hT : TI T S) {a0 : Option Nat} {a1 : Int32} (h_a0 : Tx T 40 a0) : Ho (f_Flow_isNoneOrThere  S a0 a1) (fun q => q.2 = S ∧ In 0 1 q.1) := by
  unfold f_Flow_isNoneOrThere
  refine r_if (fun c1 => ?_) (fun c1 => ?_)
  · have q2 : In (-1) (-1) a1 := In_w (In_eq c1 (by decide : In (-1) (-1) (-1 : Int32))) (by decide) (by decide)
    exact t_Flow_isNoneOrThere_B13 hT   
  · refine r_rv hT h_a0 rfl ?_
    refine r_Ft hT h_a0 (fun q3 => ?_) ?_
    · have q4 : In 0 11 a1 := In_w q3 (by decide) (by decide)
      refine r_ifF (by decide) ?_
      exact t_Flow_isNoneOrThere_B13 hT   
    · refine r_ifT (by decide) ?_
      exact r_some ⟨rfl, (In_w (by decide : In 0 0 (0 : Int32)) (by decide) (by decide))⟩
theorem t_Flow_hasAllNextSteps_B47 {T : Nat → Nat} {S : AS} (hT : TI T S) {x0 : Option Nat} {x1 : Int32} {k2 : AS → Option Nat → Int32 → Option (Int32 × AS)} {n2 : Nat} (hk2 : ∀ (z0 : Option Nat) (z1 : Int32), Tx T 40 z0 → In 0 12 z1 → (12 + 1 : Int) ≤ z1.toInt + (n2 : Int) → Ho (k2 S z0 z1) (fun q => q.2 = S ∧ In 0 1 q.1)) (hm2 : (12 + 1 : Int) ≤ x1.toInt + ((n2 + 1 : Nat) : Int)) (h_x0 : Tx T 40 x0) (h_x1 : In 0 11 x1) : Ho (f_Flow_hasAllNextSteps_B47 k2 S x0 x1) (fun q => q.2 = S ∧ In 0 1 q.1) := by
  unfold f_Flow_hasAllNextSteps_B47
  refine r_val ?_
  generalize ei1 : (x1 + (1 : Int32)) = i1
  have qi1 : In 1 12 i1 := by rw [← ei1]; exact (In_w (In_add h_x1 (by decide : In 1 1 (1 : Int32)) (by decide) (by decide)) (by decide) (by decide) : In 1 12 (x1 + (1 : Int32)))
  exact hk2  x0 i1  h_x0 (In_w qi1 (by decide) (by decide))  (by rw [← ei1, toInt_add1 h_x1 (by decide) (by decide)]; omega)
theorem t_Flow_hasAllNextSteps_C2 {T : Nat → Nat} {S : AS} (hT : TI T S) {x0 : Option Nat} {x1 : Int32} {k2 : AS → Option Nat → Int32 → Option (Int32 × AS)} {n2 : Nat} (hk2 : ∀ (z0 : Option Nat) (z1 : Int32), Tx T 40 z0 → In 0 12 z1 → (12 + 1 : Int) ≤ z1.toInt + (n2 : Int) → Ho (k2 S z0 z1) (fun q => q.2 = S ∧ In 0 1 q.1)) (hm2 : (12 + 1 : Int) ≤ x1.toInt + ((n2 + 1 : Nat) : Int)) (h_x0 : Tx T 40 x0) (h_x1 : In 0 12 x1) : Ho (f_Flow_hasAllNextSteps_C2 k2 S x0 x1) (fun q => q.2 = S ∧ In 0 1 q.1) := by
  unfold f_Flow_hasAllNextSteps_C2
  refine r_gIe hT h_x0 rfl (fun v2 b1 e2 => ?_)
  have q3 : In 0 12 v2 := b1 _ _ rfl
  refine r_if (fun c4 => ?_) (fun c4 => ?_)
  · exact r_some ⟨rfl, (In_w (by decide : In 1 1 (1 : Int32)) (by decide) (by decide))⟩
  · have q5 : In 0 11 x1 := In_w (In_lt1 (Int32.not_le.mp c4) h_x1 q3) (by decide) (by decide)
    have q6 : In 1 12 v2 := In_w (In_lt2 (Int32.not_le.mp c4) h_x1 q3) (by decide) (by decide)
    refine r_rv hT h_x0 rfl ?_
    refine r_P (P := fun v => True) (t_Flow_kindOf hT h_x0) (fun v5 h7 => ?_)
    refine r_if (fun c8 => ?_) (fun c8 => ?_)
    · have q9 : In 5 2147483647 v5 := In_w (In_le2 c8 (by decide : In 5 5 (5 : Int32)) (In_top v5)) (by decide) (by decide)
      exact t_Flow_hasAllNextSteps_B47 hT hk2 hm2 h_x0 (In_w q5 (by decide) (by decide)) 
    · have q10 : In (-2147483648) 4 v5 := In_w (In_lt1 (Int32.not_le.mp c8) (In_top v5) (by decide : In 5 5 (5 : Int32))) (by decide) (by decide)
      refine r_rv hT h_x0 rfl ?_
      refine r_P (P := fun v => True) (t_Flow_nextOf hT h_x0) (fun v8 h11 => ?_)
      refine r_rv hT h_x0 rfl ?_
      refine r_P (P := fun v => In 0 1 v) (t_Flow_isNoneOrThere hT h_x0) (fun v11 h12 => ?_)
      refine r_if (fun c13 => ?_) (fun c13 => ?_)
      · have q14 : In 0 0 v11 := In_w (In_eq c13 (by decide : In 0 0 (0 : Int32))) (by decide) (by decide)
        exact r_some ⟨rfl, (In_w (by decide : In 0 0 (0 : Int32)) (by decide) (by decide))⟩
      · have q15 : In 1 1 v11 := In_w (In_neL c13 h12 (by decide)) (by decide) (by decide)
        refine r_rv hT h_x0 rfl ?_
        refine r_P (P := fun v => True) (t_Flow_nextOf hT h_x0) (fun v14 h16 => ?_)
        refine r_rv hT h_x0 rfl ?_
        refine r_P (P := fun v => In 0 1 v) (t_Flow_isNoneOrThere hT h_x0) (fun v17 h17 => ?_)
        refine r_if (fun c18 => ?_) (fun c18 => ?_)
        · have q19 : In 0 0 v17 := In_w (In_eq c18 (by decide : In 0 0 (0 : Int32))) (by decide) (by decide)
          exact r_some ⟨rfl, (In_w (by decide : In 0 0 (0 : Int32)) (by decide) (by decide))⟩
        · have q20 : In 1 1 v17 := In_w (In_neL c18 h17 (by decide)) (by decide) (by decide)
          exact t_Flow_hasAllNextSteps_B47 hT hk2 hm2 h_x0 (In_w q5 (by decide) (by decide)) 
theorem t_Flow_hasAllNextSteps_L2 {T : Nat → Nat} {S : AS} (hT : TI T S) : ∀ (n : Nat) (x0 : Option Nat) (x1 : Int32), Tx T 40 x0 → In 0 12 x1 → (12 + 1 : Int) ≤ x1.toInt + (n : Int) → Ho (f_Flow_hasAllNextSteps_L2  n S x0 x1) (fun q => q.2 = S ∧ In 0 1 q.1) := by
  intro n
  induction n with
  | zero =>
    intro x0 x1 h_x0 h_x1 hm
    exact absurd hm (by have := h_x1.2; omega)
  | succ n ih =>
    intro x0 x1 h_x0 h_x1 hm
    exact t_Flow_hasAllNextSteps_C2 hT  (fun z0 z1 a_h_x0 a_h_x1 am => ih z0 z1 a_h_x0 a_h_x1 am) hm h_x0 h_x1 
theorem t_Flow_hasAllNextSteps {T : Nat → Nat} {S : AS} (hT : TI T S) {a0 : Option Nat} (h_a0 : Tx T 40 a0) : Ho (f_Flow_hasAllNextSteps  S a0) (fun q => q.2 = S ∧ In 0 1 q.1) := by
  unfold f_Flow_hasAllNextSteps
  exact t_Flow_hasAllNextSteps_L2 hT   kr_FU  a0 (0 : Int32)  h_a0 (In_w (by decide : In 0 0 (0 : Int32)) (by decide) (by decide))  (by decide)
theorem t_Flow_isTest {T : Nat → Nat} {S : AS} (hT : TI T S) {a0 : Option Nat} {a1 : Int32} (h_a0 : Tx T 40 a0) : Ho (f_Flow_isTest  S a0 a1) (fun q => q.2 = S ∧ In 0 1 q.1) := by
  unfold f_Flow_isTest
  refine r_rv hT h_a0 rfl ?_
  refine r_P (P := fun v => True) (t_Flow_kindOf hT h_a0) (fun v3 h1 => ?_)
  refine r_Kw (fun p2 p2b => ?_) ?_
  · have q3 : In 1 2147483647 v3 := In_w (In_le2 p2 (by decide : In 1 1 (1 : Int32)) (In_top v3)) (by decide) (by decide)
    have q4 : In 1 4 v3 := In_w (In_le1 p2b q3 (by decide : In 4 4 (4 : Int32))) (by decide) (by decide)
    refine r_z (In_w (by decide : In 1 1 (1 : Int32)) (by decide) (by decide)) ?_
    exact r_some ⟨rfl, (In_w (by decide : In 1 1 (1 : Int32)) (by decide) (by decide))⟩
  · refine r_z (In_w (by decide : In 0 0 (0 : Int32)) (by decide) (by decide)) ?_
    exact r_some ⟨rfl, (In_w (by decide : In 0 0 (0 : Int32)) (by decide) (by decide))⟩
theorem t_Flow_leaves_B13 {T : Nat → Nat} {S : AS} (hT : TI T S) : Ho (f_Flow_leaves_B13  S ) (fun q => q.2 = S ∧ In 0 1 q.1) := by
  unfold f_Flow_leaves_B13
  exact r_some ⟨rfl, (In_w (by decide : In 1 1 (1 : Int32)) (by decide) (by decide))⟩
theorem t_Flow_leaves {T : Nat → Nat} {S : AS} (hT : TI T S) {a0 : Int32} {a1 : Int32} : Ho (f_Flow_leaves  S a0 a1) (fun q => q.2 = S ∧ In 0 1 q.1) := by
  unfold f_Flow_leaves
  refine r_if (fun c1 => ?_) (fun c1 => ?_)
  · have q2 : In (-1) (-1) a0 := In_w (In_eq c1 (by decide : In (-1) (-1) (-1 : Int32))) (by decide) (by decide)
    exact t_Flow_leaves_B13 hT   
  · refine r_P (P := fun v => In 0 1 v) (t_K_isIn hT ) (fun v2 h3 => ?_)
    refine r_if (fun c4 => ?_) (fun c4 => ?_)
    · have q5 : In 0 0 v2 := In_w (In_eq c4 (by decide : In 0 0 (0 : Int32))) (by decide) (by decide)
      exact r_some ⟨rfl, (In_w (by decide : In 0 0 (0 : Int32)) (by decide) (by decide))⟩
    · have q6 : In 1 1 v2 := In_w (In_neL c4 h3 (by decide)) (by decide) (by decide)
      exact t_Flow_leaves_B13 hT   
theorem t_Flow_hasLoopOfTests_B62 {T : Nat → Nat} {S : AS} (hT : TI T S) {x0 : Option Nat} {x1 : Int32} {x2 : Int32} {x3 : Int32} {k4 : AS → Option Nat → Int32 → Int32 → Option (Int32 × AS)} {n4 : Nat} (hk4 : ∀ (z0 : Option Nat) (z1 : Int32) (z2 : Int32), Tx T 40 z0 → In 0 12 z2 → (12 + 1 : Int) ≤ z2.toInt + (n4 : Int) → Ho (k4 S z0 z1 z2) (fun q => q.2 = S ∧ In 0 1 q.1)) (hm4 : (12 + 1 : Int) ≤ x2.toInt + ((n4 + 1 : Nat) : Int)) {k14 : AS → Option Nat → Int32 → Int32 → Int32 → Option (Int32 × AS)} {n14 : Nat} (hk14 : ∀ (z0 : Option Nat) (z1 : Int32) (z2 : Int32) (z3 : Int32), Tx T 40 z0 → In 0 11 z2 → In 0 12 z3 → (12 + 1 : Int) ≤ z2.toInt + ((n4 + 1 : Nat) : Int) → (12 + 1 : Int) ≤ z3.toInt + (n14 : Int) → Ho (k14 S z0 z1 z2 z3) (fun q => q.2 = S ∧ In 0 1 q.1)) (hm14 : (12 + 1 : Int) ≤ x3.toInt + ((n14 + 1 : Nat) : Int)) (h_x0 : Tx T 40 x0) (h_x2 : In 0 11 x2) (h_x3 : In 0 11 x3) : Ho (f_Flow_hasLoopOfTests_B62 k4 k14 S x0 x1 x2 x3) (fun q => q.2 = S ∧ In 0 1 q.1) := by
  unfold f_Flow_hasLoopOfTests_B62
  refine r_val ?_
  generalize ei1 : (x3 + (1 : Int32)) = i1
  have qi1 : In 1 12 i1 := by rw [← ei1]; exact (In_w (In_add h_x3 (by decide : In 1 1 (1 : Int32)) (by decide) (by decide)) (by decide) (by decide) : In 1 12 (x3 + (1 : Int32)))
  exact hk14  x0 x1 x2 i1  h_x0 (In_w h_x2 (by decide) (by decide)) (In_w qi1 (by decide) (by decide)) hm4 (by rw [← ei1, toInt_add1 h_x3 (by decide) (by decide)]; omega)
theorem t_Flow_hasLoopOfTests_B56 {T : Nat → Nat} {S : AS} (hT : TI T S) {x0 : Option Nat} {x1 : Int32} {x2 : Int32} {x3 : Int32} {k4 : AS → Option Nat → Int32 → Int32 → Option (Int32 × AS)} {n4 : Nat} (hk4 : ∀ (z0 : Option Nat) (z1 : Int32) (z2 : Int32), Tx T 40 z0 → In 0 12 z2 → (12 + 1 : Int) ≤ z2.toInt + (n4 : Int) → Ho (k4 S z0 z1 z2) (fun q => q.2 = S ∧ In 0 1 q.1)) (hm4 : (12 + 1 : Int) ≤ x2.toInt + ((n4 + 1 : Nat) : Int)) {k14 : AS → Option Nat → Int32 → Int32 → Int32 → Option (Int32 × AS)} {n14 : Nat} (hk14 : ∀ (z0 : Option Nat) (z1 : Int32) (z2 : Int32) (z3 : Int32), Tx T 40 z0 → In 0 11 z2 → In 0 12 z3 → (12 + 1 : Int) ≤ z2.toInt + ((n4 + 1 : Nat) : Int) → (12 + 1 : Int) ≤ z3.toInt + (n14 : Int) → Ho (k14 S z0 z1 z2 z3) (fun q => q.2 = S ∧ In 0 1 q.1)) (hm14 : (12 + 1 : Int) ≤ x3.toInt + ((n14 + 1 : Nat) : Int)) (h_x0 : Tx T 40 x0) (h_x2 : In 0 11 x2) (h_x3 : In 0 11 x3) : Ho (f_Flow_hasLoopOfTests_B56 k4 k14 S x0 x1 x2 x3) (fun q => q.2 = S ∧ In 0 1 q.1) := by
  unfold f_Flow_hasLoopOfTests_B56
  refine r_val ?_
  generalize ei2 : (x1 ||| ((1 : Int32) <<< (x3 &&& 31))) = i2
  exact t_Flow_hasLoopOfTests_B62 hT hk4 hm4 hk14 hm14 h_x0 (In_w h_x2 (by decide) (by decide)) (In_w h_x3 (by decide) (by decide)) 
theorem t_Flow_hasLoopOfTests_C14 {T : Nat → Nat} {S : AS} (hT : TI T S) {x0 : Option Nat} {x1 : Int32} {x2 : Int32} {x3 : Int32} {k4 : AS → Option Nat → Int32 → Int32 → Option (Int32 × AS)} {n4 : Nat} (hk4 : ∀ (z0 : Option Nat) (z1 : Int32) (z2 : Int32), Tx T 40 z0 → In 0 12 z2 → (12 + 1 : Int) ≤ z2.toInt + (n4 : Int) → Ho (k4 S z0 z1 z2) (fun q => q.2 = S ∧ In 0 1 q.1)) (hm4 : (12 + 1 : Int) ≤ x2.toInt + ((n4 + 1 : Nat) : Int)) {k14 : AS → Option Nat → Int32 → Int32 → Int32 → Option (Int32 × AS)} {n14 : Nat} (hk14 : ∀ (z0 : Option Nat) (z1 : Int32) (z2 : Int32) (z3 : Int32), Tx T 40 z0 → In 0 11 z2 → In 0 12 z3 → (12 + 1 : Int) ≤ z2.toInt + ((n4 + 1 : Nat) : Int) → (12 + 1 : Int) ≤ z3.toInt + (n14 : Int) → Ho (k14 S z0 z1 z2 z3) (fun q => q.2 = S ∧ In 0 1 q.1)) (hm14 : (12 + 1 : Int) ≤ x3.toInt + ((n14 + 1 : Nat) : Int)) (h_x0 : Tx T 40 x0) (h_x2 : In 0 11 x2) (h_x3 : In 0 12 x3) : Ho (f_Flow_hasLoopOfTests_C14 k4 k14 S x0 x1 x2 x3) (fun q => q.2 = S ∧ In 0 1 q.1) := by
  unfold f_Flow_hasLoopOfTests_C14
  refine r_gIe hT h_x0 rfl (fun v3 b1 e2 => ?_)
  have q3 : In 0 12 v3 := b1 _ _ rfl
  refine r_if (fun c4 => ?_) (fun c4 => ?_)
  · refine r_val ?_
    generalize ei4 : (x2 + (1 : Int32)) = i4
    have qi4 : In 1 12 i4 := by rw [← ei4]; exact (In_w (In_add h_x2 (by decide : In 1 1 (1 : Int32)) (by decide) (by decide)) (by decide) (by decide) : In 1 12 (x2 + (1 : Int32)))
    exact hk4  x0 x1 i4  h_x0 (In_w qi4 (by decide) (by decide))  (by rw [← ei4, toInt_add1 h_x2 (by decide) (by decide)]; omega)
  · have q5 : In 0 11 x3 := In_w (In_lt1 (Int32.not_le.mp c4) h_x3 q3) (by decide) (by decide)
    have q6 : In 1 12 v3 := In_w (In_lt2 (Int32.not_le.mp c4) h_x3 q3) (by decide) (by decide)
    refine r_rv hT h_x0 rfl ?_
    refine r_P (P := fun v => In 0 1 v) (t_Flow_isTest hT h_x0) (fun v7 h7 => ?_)
    refine r_if (fun c8 => ?_) (fun c8 => ?_)
    · have q9 : In 0 0 v7 := In_w (In_eq c8 (by decide : In 0 0 (0 : Int32))) (by decide) (by decide)
      exact t_Flow_hasLoopOfTests_B56 hT hk4 hm4 hk14 hm14 h_x0 (In_w h_x2 (by decide) (by decide)) (In_w q5 (by decide) (by decide)) 
    · have q10 : In 1 1 v7 := In_w (In_neL c8 h7 (by decide)) (by decide) (by decide)
      refine r_rv hT h_x0 rfl ?_
      refine r_P (P := fun v => True) (t_Flow_nextOf hT h_x0) (fun v10 h11 => ?_)
      refine r_P (P := fun v => In 0 1 v) (t_Flow_leaves hT ) (fun v12 h12 => ?_)
      refine r_if (fun c13 => ?_) (fun c13 => ?_)
      · have q14 : In 0 0 v12 := In_w (In_eq c13 (by decide : In 0 0 (0 : Int32))) (by decide) (by decide)
        exact t_Flow_hasLoopOfTests_B62 hT hk4 hm4 hk14 hm14 h_x0 (In_w h_x2 (by decide) (by decide)) (In_w q5 (by decide) (by decide)) 
      · have q15 : In 1 1 v12 := In_w (In_neL c13 h12 (by decide)) (by decide) (by decide)
        refine r_rv hT h_x0 rfl ?_
        refine r_P (P := fun v => True) (t_Flow_nextOf hT h_x0) (fun v15 h16 => ?_)
        refine r_P (P := fun v => In 0 1 v) (t_Flow_leaves hT ) (fun v17 h17 => ?_)
        refine r_if (fun c18 => ?_) (fun c18 => ?_)
        · have q19 : In 0 0 v17 := In_w (In_eq c18 (by decide : In 0 0 (0 : Int32))) (by decide) (by decide)
          exact t_Flow_hasLoopOfTests_B62 hT hk4 hm4 hk14 hm14 h_x0 (In_w h_x2 (by decide) (by decide)) (In_w q5 (by decide) (by decide)) 
        · have q20 : In 1 1 v17 := In_w (In_neL c18 h17 (by decide)) (by decide) (by decide)
          exact t_Flow_hasLoopOfTests_B56 hT hk4 hm4 hk14 hm14 h_x0 (In_w h_x2 (by decide) (by decide)) (In_w q5 (by decide) (by decide)) 
theorem t_Flow_hasLoopOfTests_L14 {T : Nat → Nat} {S : AS} (hT : TI T S) {k4 : AS → Option Nat → Int32 → Int32 → Option (Int32 × AS)} {n4 : Nat} (hk4 : ∀ (z0 : Option Nat) (z1 : Int32) (z2 : Int32), Tx T 40 z0 → In 0 12 z2 → (12 + 1 : Int) ≤ z2.toInt + (n4 : Int) → Ho (k4 S z0 z1 z2) (fun q => q.2 = S ∧ In 0 1 q.1)) : ∀ (n : Nat) (x0 : Option Nat) (x1 : Int32) (x2 : Int32) (x3 : Int32), Tx T 40 x0 → In 0 11 x2 → In 0 12 x3 → (12 + 1 : Int) ≤ x2.toInt + ((n4 + 1 : Nat) : Int) → (12 + 1 : Int) ≤ x3.toInt + (n : Int) → Ho (f_Flow_hasLoopOfTests_L14 k4 n S x0 x1 x2 x3) (fun q => q.2 = S ∧ In 0 1 q.1) := by
  intro n
  induction n with
  | zero =>
    intro x0 x1 x2 x3 h_x0 h_x2 h_x3 hm4 hm
    exact absurd hm (by have := h_x3.2; omega)
  | succ n ih =>
    intro x0 x1 x2 x3 h_x0 h_x2 h_x3 hm4 hm
    exact t_Flow_hasLoopOfTests_C14 hT hk4 hm4 (fun z0 z1 z2 z3 a_h_x0 a_h_x2 a_h_x3 a_hm4 am => ih z0 z1 z2 z3 a_h_x0 a_h_x2 a_h_x3 a_hm4 am) hm h_x0 h_x2 h_x3 
theorem t_Flow_hasLoopOfTests_C4 {T : Nat → Nat} {S : AS} (hT : TI T S) {x0 : Option Nat} {x1 : Int32} {x2 : Int32} {k4 : AS → Option Nat → Int32 → Int32 → Option (Int32 × AS)} {n4 : Nat} (hk4 : ∀ (z0 : Option Nat) (z1 : Int32) (z2 : Int32), Tx T 40 z0 → In 0 12 z2 → (12 + 1 : Int) ≤ z2.toInt + (n4 : Int) → Ho (k4 S z0 z1 z2) (fun q => q.2 = S ∧ In 0 1 q.1)) (hm4 : (12 + 1 : Int) ≤ x2.toInt + ((n4 + 1 : Nat) : Int)) (h_x0 : Tx T 40 x0) (h_x2 : In 0 12 x2) : Ho (f_Flow_hasLoopOfTests_C4 k4 S x0 x1 x2) (fun q => q.2 = S ∧ In 0 1 q.1) := by
  unfold f_Flow_hasLoopOfTests_C4
  refine r_gIe hT h_x0 rfl (fun v18 b1 e2 => ?_)
  have q3 : In 0 12 v18 := b1 _ _ rfl
  refine r_if (fun c4 => ?_) (fun c4 => ?_)
  · refine r_gIe hT h_x0 rfl (fun v19 b5 e6 => ?_)
    have q7 : In 0 12 v19 := by rw [(rd_p h_x0 e2 e6)]; exact q3
    refine r_if (fun c8 => ?_) (fun c8 => ?_)
    · exact r_some ⟨rfl, (In_w (by decide : In 0 0 (0 : Int32)) (by decide) (by decide))⟩
    · exact r_some ⟨rfl, (In_w (by decide : In 1 1 (1 : Int32)) (by decide) (by decide))⟩
  · have q9 : In 0 11 x2 := In_w (In_lt1 (Int32.not_le.mp c4) h_x2 q3) (by decide) (by decide)
    have q10 : In 1 12 v18 := In_w (In_lt2 (Int32.not_le.mp c4) h_x2 q3) (by decide) (by decide)
    exact t_Flow_hasLoopOfTests_L14 hT hk4  kr_FU  x0 x1 x2 (0 : Int32)  h_x0 (In_w q9 (by decide) (by decide)) (In_w (by decide : In 0 0 (0 : Int32)) (by decide) (by decide)) hm4 (by decide)
theorem t_Flow_hasLoopOfTests_L4 {T : Nat → Nat} {S : AS} (hT : TI T S) : ∀ (n : Nat) (x0 : Option Nat) (x1 : Int32) (x2 : Int32), Tx T 40 x0 → In 0 12 x2 → (12 + 1 : Int) ≤ x2.toInt + (n : Int) → Ho (f_Flow_hasLoopOfTests_L4  n S x0 x1 x2) (fun q => q.2 = S ∧ In 0 1 q.1) := by
  intro n
  induction n with
  | zero =>
    intro x0 x1 x2 h_x0 h_x2 hm
    exact absurd hm (by have := h_x2.2; omega)
  | succ n ih =>
    intro x0 x1 x2 h_x0 h_x2 hm
    exact t_Flow_hasLoopOfTests_C4 hT  (fun z0 z1 z2 a_h_x0 a_h_x2 am => ih z0 z1 z2 a_h_x0 a_h_x2 am) hm h_x0 h_x2 
theorem t_Flow_hasLoopOfTests {T : Nat → Nat} {S : AS} (hT : TI T S) {a0 : Option Nat} (h_a0 : Tx T 40 a0) : Ho (f_Flow_hasLoopOfTests  S a0) (fun q => q.2 = S ∧ In 0 1 q.1) := by
  unfold f_Flow_hasLoopOfTests
  exact t_Flow_hasLoopOfTests_L4 hT   kr_FU  a0 (0 : Int32) (0 : Int32)  h_a0 (In_w (by decide : In 0 0 (0 : Int32)) (by decide) (by decide))  (by decide)
theorem t_Flow_firstOf {T : Nat → Nat} {S : AS} (hT : TI T S) {a0 : Option Nat} {a1 : Int32} (h_a0 : Tx T 40 a0) : Ho (f_Flow_firstOf  S a0 a1) (fun q => q.2 = S ∧ True) := by
  unfold f_Flow_firstOf
  refine r_rv hT h_a0 rfl ?_
  refine r_Ft hT h_a0 (fun q1 => ?_) ?_
  · have q2 : In 0 11 a1 := In_w q1 (by decide) (by decide)
    refine r_ifF (by decide) ?_
    refine r_gR hT h_a0 rfl rfl (fun v4 h3 => ?_)
    refine r_aI hT h3 rfl rfl (In_w q2 (by decide) (by decide) : In 0 11 a1) (by decide) (fun v5 b4 => ?_)
    exact r_some ⟨rfl, trivial⟩
  · refine r_ifT (by decide) ?_
    exact r_some ⟨rfl, trivial⟩
theorem t_Shown_levelOfSet_B24 {T : Nat → Nat} {S : AS} (hT : TI T S) {x0 : Int32} {x1 : Int32} {x2 : Int32} {k4 : AS → Int32 → Int32 → Int32 → Option (Int32 × AS)} {n4 : Nat} (hk4 : ∀ (z0 : Int32) (z1 : Int32) (z2 : Int32), In 0 3 z2 → (3 + 1 : Int) ≤ z2.toInt + (n4 : Int) → Ho (k4 S z0 z1 z2) (fun q => q.2 = S ∧ True)) (hm4 : (3 + 1 : Int) ≤ x2.toInt + ((n4 + 1 : Nat) : Int)) (h_x2 : In 0 2 x2) : Ho (f_Shown_levelOfSet_B24 k4 S x0 x1 x2) (fun q => q.2 = S ∧ True) := by
  unfold f_Shown_levelOfSet_B24
  refine r_val ?_
  generalize ei1 : (x2 + (1 : Int32)) = i1
  have qi1 : In 1 3 i1 := by rw [← ei1]; exact (In_w (In_add h_x2 (by decide : In 1 1 (1 : Int32)) (by decide) (by decide)) (by decide) (by decide) : In 1 3 (x2 + (1 : Int32)))
  exact hk4  x0 x1 i1  (In_w qi1 (by decide) (by decide))  (by rw [← ei1, toInt_add1 h_x2 (by decide) (by decide)]; omega)
theorem t_Shown_levelOfSet_C4 {T : Nat → Nat} {S : AS} (hT : TI T S) {x0 : Int32} {x1 : Int32} {x2 : Int32} {k4 : AS → Int32 → Int32 → Int32 → Option (Int32 × AS)} {n4 : Nat} (hk4 : ∀ (z0 : Int32) (z1 : Int32) (z2 : Int32), In 0 3 z2 → (3 + 1 : Int) ≤ z2.toInt + (n4 : Int) → Ho (k4 S z0 z1 z2) (fun q => q.2 = S ∧ True)) (hm4 : (3 + 1 : Int) ≤ x2.toInt + ((n4 + 1 : Nat) : Int)) (h_x2 : In 0 3 x2) : Ho (f_Shown_levelOfSet_C4 k4 S x0 x1 x2) (fun q => q.2 = S ∧ True) := by
  unfold f_Shown_levelOfSet_C4
  refine r_if (fun c1 => ?_) (fun c1 => ?_)
  · have q2 : In 3 3 x2 := In_w (In_le2 c1 (by decide : In 3 3 (3 : Int32)) h_x2) (by decide) (by decide)
    exact r_some ⟨rfl, trivial⟩
  · have q3 : In 0 2 x2 := In_w (In_lt1 (Int32.not_le.mp c1) h_x2 (by decide : In 3 3 (3 : Int32))) (by decide) (by decide)
    refine r_P (P := fun v => In 0 1 v) (t_K_isIn hT ) (fun v3 h4 => ?_)
    refine r_if (fun c5 => ?_) (fun c5 => ?_)
    · have q6 : In 0 0 v3 := In_w (In_eq c5 (by decide : In 0 0 (0 : Int32))) (by decide) (by decide)
      exact t_Shown_levelOfSet_B24 hT hk4 hm4 (In_w q3 (by decide) (by decide)) 
    · have q7 : In 1 1 v3 := In_w (In_neL c5 h4 (by decide)) (by decide) (by decide)
      refine r_P (P := fun _ => True) (hO_and (t_Shown_weightOf hT _)) (fun v5 _ => ?_)
      refine r_val ?_
      generalize ei6 : (x1 + v5) = i6
      exact t_Shown_levelOfSet_B24 hT hk4 hm4 (In_w q3 (by decide) (by decide)) 
theorem t_Shown_levelOfSet_L4 {T : Nat → Nat} {S : AS} (hT : TI T S) : ∀ (n : Nat) (x0 : Int32) (x1 : Int32) (x2 : Int32), In 0 3 x2 → (3 + 1 : Int) ≤ x2.toInt + (n : Int) → Ho (f_Shown_levelOfSet_L4  n S x0 x1 x2) (fun q => q.2 = S ∧ True) := by
  intro n
  induction n with
  | zero =>
    intro x0 x1 x2 h_x2 hm
    exact absurd hm (by have := h_x2.2; omega)
  | succ n ih =>
    intro x0 x1 x2 h_x2 hm
    exact t_Shown_levelOfSet_C4 hT  (fun z0 z1 z2 a_h_x2 am => ih z0 z1 z2 a_h_x2 am) hm h_x2 
theorem t_Shown_levelOfSet {T : Nat → Nat} {S : AS} (hT : TI T S) {a0 : Int32} : Ho (f_Shown_levelOfSet  S a0) (fun q => q.2 = S ∧ True) := by
  unfold f_Shown_levelOfSet
  exact t_Shown_levelOfSet_L4 hT   kr_FU  a0 (0 : Int32) (0 : Int32)  (In_w (by decide : In 0 0 (0 : Int32)) (by decide) (by decide))  (by decide)
theorem t_Flow_setBehindYes {T : Nat → Nat} {S : AS} (hT : TI T S) {a0 : Option Nat} {a1 : Int32} {a2 : Int32} (h_a0 : Tx T 40 a0) : Ho (f_Flow_setBehindYes  S a0 a1 a2) (fun q => q.2 = S ∧ True) := by
  unfold f_Flow_setBehindYes
  refine r_rv hT h_a0 rfl ?_
  refine r_P (P := fun v => True) (t_Flow_kindOf hT h_a0) (fun v3 h1 => ?_)
  refine r_if (fun c2 => ?_) (fun c2 => ?_)
  · have q3 : In 0 0 v3 := In_w (In_eq c2 (by decide : In 0 0 (0 : Int32))) (by decide) (by decide)
    refine r_rv hT h_a0 rfl ?_
    refine r_P (P := fun v => True) (t_Flow_firstOf hT h_a0) (fun v6 h4 => ?_)
    exact r_some ⟨rfl, trivial⟩
  · refine r_rv hT h_a0 rfl ?_
    refine r_P (P := fun v => True) (t_Flow_kindOf hT h_a0) (fun v9 h5 => ?_)
    refine r_if (fun c6 => ?_) (fun c6 => ?_)
    · have q7 : In 4 4 v9 := In_w (In_eq c6 (by decide : In 4 4 (4 : Int32))) (by decide) (by decide)
      refine r_P (P := fun v => True) (t_Shown_levelOfSet hT ) (fun v11 h8 => ?_)
      refine r_rv hT h_a0 rfl ?_
      refine r_P (P := fun v => True) (t_Flow_firstOf hT h_a0) (fun v14 h9 => ?_)
      refine r_if (fun c10 => ?_) (fun c10 => ?_)
      · exact r_some ⟨rfl, trivial⟩
      · have q11 : In (-2147483648) 2147483646 v11 := In_w (In_lt1 (Int32.not_le.mp c10) (In_top v11) (In_top v14)) (by decide) (by decide)
        have q12 : In (-2147483647) 2147483647 v14 := In_w (In_lt2 (Int32.not_le.mp c10) (In_top v11) (In_top v14)) (by decide) (by decide)
        exact r_some ⟨rfl, trivial⟩
    · exact r_some ⟨rfl, trivial⟩
theorem t_Flow_reach {T : Nat → Nat} {S : AS} (hT : TI T S) {a0 : Int32} {a1 : Int32} {a2 : Option Nat} (h_a2 : Tx T 51 a2) : Ho (f_Flow_reach  S a0 a1 a2) (fun q => Rl T kw_K14 S 0 0 T q.2 ∧ In 0 1 q.1) := by
  have g0 := Rlrf hT
  unfold f_Flow_reach
  refine r_if (fun c1 => ?_) (fun c1 => ?_)
  · have q2 : In (-2147483648) (-1) a0 := In_w (In_lt1 c1 (In_top a0) (by decide : In 0 0 (0 : Int32))) (by decide) (by decide)
    exact r_some ⟨(Rlweak g0 (by decide +kernel) (by decide) (by decide)), (In_w (by decide : In 0 0 (0 : Int32)) (by decide) (by decide))⟩
  · have q3 : In 0 2147483647 a0 := In_w (In_le2 (Int32.not_lt.mp c1) (by decide : In 0 0 (0 : Int32)) (In_top a0)) (by decide) (by decide)
    refine r_aN g0.1 h_a2 (by decide) rfl (by decide) (fun v1 q4 => ?_)
    have q4n : In 12 12 v1 := q4
    refine r_if (fun c5 => ?_) (fun c5 => ?_)
    · have q6 : In 12 2147483647 a0 := In_w (In_le2 c5 q4n q3) (by decide) (by decide)
      exact r_some ⟨(Rlweak g0 (by decide +kernel) (by decide) (by decide)), (In_w (by decide : In 0 0 (0 : Int32)) (by decide) (by decide))⟩
    · have q7 : In 0 11 a0 := In_w (In_lt1 (Int32.not_le.mp c5) q3 q4n) (by decide) (by decide)
      refine r_if (fun c8 => ?_) (fun c8 => ?_)
      · have q9 : In (-1) (-1) a1 := In_w (In_eq c8 (by decide : In (-1) (-1) (-1 : Int32))) (by decide) (by decide)
        exact r_some ⟨(Rlweak g0 (by decide +kernel) (by decide) (by decide)), (In_w (by decide : In 0 0 (0 : Int32)) (by decide) (by decide))⟩
      · refine r_aI g0.1 h_a2 rfl rfl (In_w q7 (by decide) (by decide) : In 0 11 a0) (by decide) (fun v2 b10 => ?_)
        refine r_P (P := fun v => In 0 1 v) (t_K_isIn g0.1 ) (fun v4 h11 => ?_)
        refine r_if (fun c12 => ?_) (fun c12 => ?_)
        · have q13 : In 0 0 v4 := In_w (In_eq c12 (by decide : In 0 0 (0 : Int32))) (by decide) (by decide)
          refine r_aI g0.1 h_a2 rfl rfl (In_w q7 (by decide) (by decide) : In 0 11 a0) (by decide) (fun v5 b14 => ?_)
          refine r_bI (w' := kw_K14) g0 h_a2 rfl rfl (In_w q7 (by decide) (by decide) : In 0 11 a0) (by decide) (fun _ _ _ q => by cases q) (fun _ => rfl) (by decide) (by decide +kernel) (fun _ => by unfold phc; omega) (fun s15 g16 => ?_)
          exact r_some ⟨(Rlweak g16 (by decide +kernel) (by decide) (by decide)), (In_w (by decide : In 1 1 (1 : Int32)) (by decide) (by decide))⟩
        · have q17 : In 1 1 v4 := In_w (In_neL c12 h11 (by decide)) (by decide) (by decide)
          exact r_some ⟨(Rlweak g0 (by decide +kernel) (by decide) (by decide)), (In_w (by decide : In 0 0 (0 : Int32)) (by decide) (by decide))⟩
theorem t_Flow_setBehindNo {T : Nat → Nat} {S : AS} (hT : TI T S) {a0 : Option Nat} {a1 : Int32} {a2 : Int32} (h_a0 : Tx T 40 a0) : Ho (f_Flow_setBehindNo  S a0 a1 a2) (fun q => q.2 = S ∧ True) := by
  unfold f_Flow_setBehindNo
  refine r_rv hT h_a0 rfl ?_
  refine r_P (P := fun v => True) (t_Flow_kindOf hT h_a0) (fun v3 h1 => ?_)
  refine r_if (fun c2 => ?_) (fun c2 => ?_)
  · have q3 : In 4 4 v3 := In_w (In_eq c2 (by decide : In 4 4 (4 : Int32))) (by decide) (by decide)
    refine r_P (P := fun v => True) (t_Shown_levelOfSet hT ) (fun v5 h4 => ?_)
    refine r_rv hT h_a0 rfl ?_
    refine r_P (P := fun v => True) (t_Flow_firstOf hT h_a0) (fun v8 h5 => ?_)
    refine r_if (fun c6 => ?_) (fun c6 => ?_)
    · have q7 : In (-2147483648) 2147483646 v5 := In_w (In_lt1 c6 (In_top v5) (In_top v8)) (by decide) (by decide)
      have q8 : In (-2147483647) 2147483647 v8 := In_w (In_lt2 c6 (In_top v5) (In_top v8)) (by decide) (by decide)
      exact r_some ⟨rfl, trivial⟩
    · exact r_some ⟨rfl, trivial⟩
  · exact r_some ⟨rfl, trivial⟩
theorem t_Flow_spread_B80 {T : Nat → Nat} {S0 S : AS} (g : Rl T kw_K14 S0 0 0 T S) {x0 : Option Nat} {x1 : Int32} {x2 : Option Nat} {x3 : Int32} {x4 : Int32} {k22 : AS → Option Nat → Int32 → Option Nat → Int32 → Int32 → Option (Int32 × AS)} {n22 : Nat} (hk22 : ∀ (S' : AS) (z0 : Option Nat) (z1 : Int32) (z2 : Option Nat) (z3 : Int32) (z4 : Int32), Rl T kw_K14 S0 0 0 T S' → Tx T 40 z0 → In 0 11 z1 → Tx T 51 z2 → In 0 1 z3 → In 0 8 z4 → (8 + 1 : Int) ≤ z4.toInt + (n22 : Int) → Ho (k22 S' z0 z1 z2 z3 z4) (fun q => Rl T kw_K14 S0 0 0 T q.2 ∧ In 0 1 q.1)) (hm22 : (8 + 1 : Int) ≤ x4.toInt + ((n22 + 1 : Nat) : Int)) (h_x0 : Tx T 40 x0) (h_x1 : In 0 11 x1) (h_x2 : Tx T 51 x2) (h_x3 : In 0 1 x3) (h_x4 : In 0 7 x4) : Ho (f_Flow_spread_B80 k22 S x0 x1 x2 x3 x4) (fun q => Rl T kw_K14 S0 0 0 T q.2 ∧ In 0 1 q.1) := by
  unfold f_Flow_spread_B80
  refine r_val ?_
  generalize ei1 : (x4 + (1 : Int32)) = i1
  have qi1 : In 1 8 i1 := by rw [← ei1]; exact (In_w (In_add h_x4 (by decide : In 1 1 (1 : Int32)) (by decide) (by decide)) (by decide) (by decide) : In 1 8 (x4 + (1 : Int32)))
  exact hk22 S x0 x1 x2 x3 i1 (Rlweak g (by decide +kernel) (by decide) (by decide)) h_x0 (In_w h_x1 (by decide) (by decide)) h_x2 (In_w h_x3 (by decide) (by decide)) (In_w qi1 (by decide) (by decide))  (by rw [← ei1, toInt_add1 h_x4 (by decide) (by decide)]; omega)
theorem t_Flow_spread_C22 {T : Nat → Nat} {S0 S : AS} (g : Rl T kw_K14 S0 0 0 T S) {x0 : Option Nat} {x1 : Int32} {x2 : Option Nat} {x3 : Int32} {x4 : Int32} {k22 : AS → Option Nat → Int32 → Option Nat → Int32 → Int32 → Option (Int32 × AS)} {n22 : Nat} (hk22 : ∀ (S' : AS) (z0 : Option Nat) (z1 : Int32) (z2 : Option Nat) (z3 : Int32) (z4 : Int32), Rl T kw_K14 S0 0 0 T S' → Tx T 40 z0 → In 0 11 z1 → Tx T 51 z2 → In 0 1 z3 → In 0 8 z4 → (8 + 1 : Int) ≤ z4.toInt + (n22 : Int) → Ho (k22 S' z0 z1 z2 z3 z4) (fun q => Rl T kw_K14 S0 0 0 T q.2 ∧ In 0 1 q.1)) (hm22 : (8 + 1 : Int) ≤ x4.toInt + ((n22 + 1 : Nat) : Int)) (h_x0 : Tx T 40 x0) (h_x1 : In 0 11 x1) (h_x2 : Tx T 51 x2) (h_x3 : In 0 1 x3) (h_x4 : In 0 8 x4) : Ho (f_Flow_spread_C22 k22 S x0 x1 x2 x3 x4) (fun q => Rl T kw_K14 S0 0 0 T q.2 ∧ In 0 1 q.1) := by
  unfold f_Flow_spread_C22
  refine r_if (fun c1 => ?_) (fun c1 => ?_)
  · have q2 : In 8 8 x4 := In_w (In_le2 c1 (by decide : In 8 8 (8 : Int32)) h_x4) (by decide) (by decide)
    refine r_z (In_w h_x3 (by decide) (by decide)) ?_
    exact r_some ⟨(Rlweak g (by decide +kernel) (by decide) (by decide)), (In_w h_x3 (by decide) (by decide))⟩
  · have q3 : In 0 7 x4 := In_w (In_lt1 (Int32.not_le.mp c1) h_x4 (by decide : In 8 8 (8 : Int32))) (by decide) (by decide)
    refine r_aI g.1 h_x2 rfl rfl (In_w h_x1 (by decide) (by decide) : In 0 11 x1) (by decide) (fun v3 b4 => ?_)
    refine r_P (P := fun v => In 0 1 v) (t_K_isIn g.1 ) (fun v5 h5 => ?_)
    refine r_if (fun c6 => ?_) (fun c6 => ?_)
    · have q7 : In 0 0 v5 := In_w (In_eq c6 (by decide : In 0 0 (0 : Int32))) (by decide) (by decide)
      exact t_Flow_spread_B80 (Rlweak g (by decide +kernel) (by decide) (by decide)) hk22 hm22 h_x0 (In_w h_x1 (by decide) (by decide)) h_x2 (In_w h_x3 (by decide) (by decide)) (In_w q3 (by decide) (by decide)) 
    · have q8 : In 1 1 v5 := In_w (In_neL c6 h5 (by decide)) (by decide) (by decide)
      refine r_rv g.1 h_x0 rfl ?_
      refine r_P (P := fun v => True) (t_Flow_nextOf g.1 h_x0) (fun v8 h9 => ?_)
      refine r_rv g.1 h_x0 rfl ?_
      refine r_P (P := fun v => True) (t_Flow_setBehindYes g.1 h_x0) (fun v11 h10 => ?_)
      refine r_b2 (t_Flow_reach g.1 h_x2) (fun v13 s12 h11 => ?_)
      obtain ⟨g13, h11r⟩ := h11
      have g14 : Rl T kw_K14 S0 0 0 T s12 := Rltrans g g13 (by decide +kernel)
      refine r_val ?_
      generalize ei14 : (x3 ||| v13) = i14
      have qi14 : In 0 1 i14 := by rw [← ei14]; exact (In_w (In_or1 (In_w h_x3 (by decide) (by decide)) (In_w h11r (by decide) (by decide))) (by decide) (by decide) : In 0 1 (x3 ||| v13))
      refine r_rv g14.1 h_x0 rfl ?_
      refine r_P (P := fun v => True) (t_Flow_nextOf g14.1 h_x0) (fun v17 h15 => ?_)
      refine r_rv g14.1 h_x0 rfl ?_
      refine r_P (P := fun v => True) (t_Flow_setBehindNo g14.1 h_x0) (fun v20 h16 => ?_)
      refine r_b2 (t_Flow_reach g14.1 h_x2) (fun v22 s18 h17 => ?_)
      obtain ⟨g19, h17r⟩ := h17
      have g20 : Rl T kw_K14 S0 0 0 T s18 := Rltrans g14 g19 (by decide +kernel)
      refine r_val ?_
      generalize ei23 : (i14 ||| v22) = i23
      have qi23 : In 0 1 i23 := by rw [← ei23]; exact (In_w (In_or1 (In_w qi14 (by decide) (by decide)) (In_w h17r (by decide) (by decide))) (by decide) (by decide) : In 0 1 (i14 ||| v22))
      exact t_Flow_spread_B80 (Rlweak g20 (by decide +kernel) (by decide) (by decide)) hk22 hm22 h_x0 (In_w h_x1 (by decide) (by decide)) h_x2 (In_w qi23 (by decide) (by decide)) (In_w q3 (by decide) (by decide)) 
theorem t_Flow_spread_L22 {T : Nat → Nat} {S0 : AS} : ∀ (n : Nat) (S : AS) (x0 : Option Nat) (x1 : Int32) (x2 : Option Nat) (x3 : Int32) (x4 : Int32), Rl T kw_K14 S0 0 0 T S → Tx T 40 x0 → In 0 11 x1 → Tx T 51 x2 → In 0 1 x3 → In 0 8 x4 → (8 + 1 : Int) ≤ x4.toInt + (n : Int) → Ho (f_Flow_spread_L22  n S x0 x1 x2 x3 x4) (fun q => Rl T kw_K14 S0 0 0 T q.2 ∧ In 0 1 q.1) := by
  intro n
  induction n with
  | zero =>
    intro S x0 x1 x2 x3 x4 g h_x0 h_x1 h_x2 h_x3 h_x4 hm
    exact absurd hm (by have := h_x4.2; omega)
  | succ n ih =>
    intro S x0 x1 x2 x3 x4 g h_x0 h_x1 h_x2 h_x3 h_x4 hm
    exact t_Flow_spread_C22 g  (fun S' z0 z1 z2 z3 z4 g' a_h_x0 a_h_x1 a_h_x2 a_h_x3 a_h_x4 am => ih S' z0 z1 z2 z3 z4 g' a_h_x0 a_h_x1 a_h_x2 a_h_x3 a_h_x4 am) hm h_x0 h_x1 h_x2 h_x3 h_x4 
theorem t_Flow_spread {T : Nat → Nat} {S : AS} (hT : TI T S) {a0 : Option Nat} {a1 : Int32} {a2 : Option Nat} (h_a0 : Tx T 40 a0) (h_a1 : In 0 11 a1) (h_a2 : Tx T 51 a2) : Ho (f_Flow_spread  S a0 a1 a2) (fun q => Rl T kw_K14 S 0 0 T q.2 ∧ In 0 1 q.1) := by
  have g0 := Rlrf hT
  unfold f_Flow_spread
  refine r_rv g0.1 h_a0 rfl ?_
  refine r_P (P := fun v => True) (t_Flow_kindOf g0.1 h_a0) (fun v26 h1 => ?_)
  refine r_if (fun c2 => ?_) (fun c2 => ?_)
  · have q3 : In 5 2147483647 v26 := In_w (In_le2 c2 (by decide : In 5 5 (5 : Int32)) (In_top v26)) (by decide) (by decide)
    exact r_some ⟨(Rlweak g0 (by decide +kernel) (by decide) (by decide)), (In_w (by decide : In 0 0 (0 : Int32)) (by decide) (by decide))⟩
  · have q4 : In (-2147483648) 4 v26 := In_w (In_lt1 (Int32.not_le.mp c2) (In_top v26) (by decide : In 5 5 (5 : Int32))) (by decide) (by decide)
    refine r_aN g0.1 h_a2 (by decide) rfl (by decide) (fun v27 q5 => ?_)
    have q5n : In 12 12 v27 := q5
    refine r_if (fun c6 => ?_) (fun c6 => ?_)
    · exact t_Flow_spread_L22   kr_FU S a0 a1 a2 (0 : Int32) (0 : Int32) (Rlweak g0 (by decide +kernel) (by decide) (by decide)) h_a0 (In_w h_a1 (by decide) (by decide)) h_a2 (In_w (by decide : In 0 0 (0 : Int32)) (by decide) (by decide)) (In_w (by decide : In 0 0 (0 : Int32)) (by decide) (by decide))  (by decide)
    · have q7 : In 12 11 v27 := In_w (In_le1 (Int32.not_lt.mp c6) q5n h_a1) (by decide) (by decide)
      exact absurd q7.1 (by have := q7.2; omega)
theorem t_Flow_weaker_B10 {T : Nat → Nat} {S : AS} (hT : TI T S) {x0 : Int32} {x1 : Int32} : Ho (f_Flow_weaker_B10  S x0 x1) (fun q => q.2 = S ∧ True) := by
  unfold f_Flow_weaker_B10
  exact r_some ⟨rfl, trivial⟩
theorem t_Flow_weaker {T : Nat → Nat} {S : AS} (hT : TI T S) {a0 : Int32} {a1 : Int32} : Ho (f_Flow_weaker  S a0 a1) (fun q => q.2 = S ∧ True) := by
  unfold f_Flow_weaker
  refine r_if (fun c1 => ?_) (fun c1 => ?_)
  · have q2 : In (-1) (-1) a0 := In_w (In_eq c1 (by decide : In (-1) (-1) (-1 : Int32))) (by decide) (by decide)
    exact t_Flow_weaker_B10 hT   
  · refine r_if (fun c3 => ?_) (fun c3 => ?_)
    · have q4 : In (-1) (-1) a1 := In_w (In_eq c3 (by decide : In (-1) (-1) (-1 : Int32))) (by decide) (by decide)
      exact t_Flow_weaker_B10 hT   
    · exact r_some ⟨rfl, trivial⟩
theorem t_Flow_leastLevel_B27 {T : Nat → Nat} {S : AS} (hT : TI T S) {x0 : Int32} {x1 : Int32} {x2 : Int32} {k4 : AS → Int32 → Int32 → Int32 → Option (Int32 × AS)} {n4 : Nat} (hk4 : ∀ (z0 : Int32) (z1 : Int32) (z2 : Int32), In 0 8 z2 → (8 + 1 : Int) ≤ z2.toInt + (n4 : Int) → Ho (k4 S z0 z1 z2) (fun q => q.2 = S ∧ True)) (hm4 : (8 + 1 : Int) ≤ x2.toInt + ((n4 + 1 : Nat) : Int)) (h_x2 : In 0 7 x2) : Ho (f_Flow_leastLevel_B27 k4 S x0 x1 x2) (fun q => q.2 = S ∧ True) := by
  unfold f_Flow_leastLevel_B27
  refine r_val ?_
  generalize ei1 : (x2 + (1 : Int32)) = i1
  have qi1 : In 1 8 i1 := by rw [← ei1]; exact (In_w (In_add h_x2 (by decide : In 1 1 (1 : Int32)) (by decide) (by decide)) (by decide) (by decide) : In 1 8 (x2 + (1 : Int32)))
  exact hk4  x0 x1 i1  (In_w qi1 (by decide) (by decide))  (by rw [← ei1, toInt_add1 h_x2 (by decide) (by decide)]; omega)
theorem t_Flow_leastLevel_C4 {T : Nat → Nat} {S : AS} (hT : TI T S) {x0 : Int32} {x1 : Int32} {x2 : Int32} {k4 : AS → Int32 → Int32 → Int32 → Option (Int32 × AS)} {n4 : Nat} (hk4 : ∀ (z0 : Int32) (z1 : Int32) (z2 : Int32), In 0 8 z2 → (8 + 1 : Int) ≤ z2.toInt + (n4 : Int) → Ho (k4 S z0 z1 z2) (fun q => q.2 = S ∧ True)) (hm4 : (8 + 1 : Int) ≤ x2.toInt + ((n4 + 1 : Nat) : Int)) (h_x2 : In 0 8 x2) : Ho (f_Flow_leastLevel_C4 k4 S x0 x1 x2) (fun q => q.2 = S ∧ True) := by
  unfold f_Flow_leastLevel_C4
  refine r_if (fun c1 => ?_) (fun c1 => ?_)
  · have q2 : In 8 8 x2 := In_w (In_le2 c1 (by decide : In 8 8 (8 : Int32)) h_x2) (by decide) (by decide)
    exact r_some ⟨rfl, trivial⟩
  · have q3 : In 0 7 x2 := In_w (In_lt1 (Int32.not_le.mp c1) h_x2 (by decide : In 8 8 (8 : Int32))) (by decide) (by decide)
    refine r_P (P := fun v => In 0 1 v) (t_K_isIn hT ) (fun v3 h4 => ?_)
    refine r_if (fun c5 => ?_) (fun c5 => ?_)
    · have q6 : In 0 0 v3 := In_w (In_eq c5 (by decide : In 0 0 (0 : Int32))) (by decide) (by decide)
      exact t_Flow_leastLevel_B27 hT hk4 hm4 (In_w q3 (by decide) (by decide)) 
    · have q7 : In 1 1 v3 := In_w (In_neL c5 h4 (by decide)) (by decide) (by decide)
      refine r_P (P := fun v => True) (t_Shown_levelOfSet hT ) (fun v5 h8 => ?_)
      refine r_P (P := fun v => True) (t_Flow_weaker hT ) (fun v7 h9 => ?_)
      exact t_Flow_leastLevel_B27 hT hk4 hm4 (In_w q3 (by decide) (by decide)) 
theorem t_Flow_leastLevel_L4 {T : Nat → Nat} {S : AS} (hT : TI T S) : ∀ (n : Nat) (x0 : Int32) (x1 : Int32) (x2 : Int32), In 0 8 x2 → (8 + 1 : Int) ≤ x2.toInt + (n : Int) → Ho (f_Flow_leastLevel_L4  n S x0 x1 x2) (fun q => q.2 = S ∧ True) := by
  intro n
  induction n with
  | zero =>
    intro x0 x1 x2 h_x2 hm
    exact absurd hm (by have := h_x2.2; omega)
  | succ n ih =>
    intro x0 x1 x2 h_x2 hm
    exact t_Flow_leastLevel_C4 hT  (fun z0 z1 z2 a_h_x2 am => ih z0 z1 z2 a_h_x2 am) hm h_x2 
theorem t_Flow_leastLevel {T : Nat → Nat} {S : AS} (hT : TI T S) {a0 : Int32} : Ho (f_Flow_leastLevel  S a0) (fun q => q.2 = S ∧ True) := by
  unfold f_Flow_leastLevel
  exact t_Flow_leastLevel_L4 hT   kr_FU  a0 (-1 : Int32) (0 : Int32)  (In_w (by decide : In 0 0 (0 : Int32)) (by decide) (by decide))  (by decide)
theorem t_Flow_weakestLevel_B60 {T0 T : Nat → Nat} {S0 S : AS} (g : Rl T0 kw_K14 S0 1 12 T S) {x0 : Option Nat} {x1 : Option Nat} {x2 : Int32} {x3 : Int32} {k13 : AS → Option Nat → Option Nat → Int32 → Int32 → Option (Int32 × AS)} {n13 : Nat} (hk13 : ∀ (S' : AS) (z0 : Option Nat) (z1 : Option Nat) (z2 : Int32) (z3 : Int32), Rl T0 kw_K14 S0 1 12 T S' → Tx T 40 z0 → Tx T 51 z1 → In 0 1 z2 → In 0 96 z3 → (96 + 1 : Int) ≤ z3.toInt + (n13 : Int) → Ho (k13 S' z0 z1 z2 z3) (fun q => ∃ T', Rl T0 kw_K14 S0 1 12 T' q.2 ∧ True)) (hm13 : (96 + 1 : Int) ≤ x3.toInt + ((n13 + 1 : Nat) : Int)) (h_x0 : Tx T 40 x0) (h_x1 : Tx T 51 x1) (h_x2 : In 0 1 x2) (h_x3 : In 0 95 x3) : Ho (f_Flow_weakestLevel_B60 k13 S x0 x1 x2 x3) (fun q => ∃ T', Rl T0 kw_K14 S0 1 12 T' q.2 ∧ True) := by
  unfold f_Flow_weakestLevel_B60
  refine r_val ?_
  generalize ei1 : (x3 + (1 : Int32)) = i1
  have qi1 : In 1 96 i1 := by rw [← ei1]; exact (In_w (In_add h_x3 (by decide : In 1 1 (1 : Int32)) (by decide) (by decide)) (by decide) (by decide) : In 1 96 (x3 + (1 : Int32)))
  exact hk13 S x0 x1 x2 i1 (Rlweak g (by decide +kernel) (by decide) (by decide)) h_x0 h_x1 (In_w h_x2 (by decide) (by decide)) (In_w qi1 (by decide) (by decide))  (by rw [← ei1, toInt_add1 h_x3 (by decide) (by decide)]; omega)
theorem t_Flow_weakestLevel_C28 {T0 T : Nat → Nat} {S0 S : AS} (g : Rl T0 kw_K14 S0 1 12 T S) {x0 : Option Nat} {x1 : Option Nat} {x2 : Int32} {x3 : Int32} {x4 : Int32} {k13 : AS → Option Nat → Option Nat → Int32 → Int32 → Option (Int32 × AS)} {n13 : Nat} (hk13 : ∀ (S' : AS) (z0 : Option Nat) (z1 : Option Nat) (z2 : Int32) (z3 : Int32), Rl T0 kw_K14 S0 1 12 T S' → Tx T 40 z0 → Tx T 51 z1 → In 0 1 z2 → In 0 96 z3 → (96 + 1 : Int) ≤ z3.toInt + (n13 : Int) → Ho (k13 S' z0 z1 z2 z3) (fun q => ∃ T', Rl T0 kw_K14 S0 1 12 T' q.2 ∧ True)) (hm13 : (96 + 1 : Int) ≤ x3.toInt + ((n13 + 1 : Nat) : Int)) {k28 : AS → Option Nat → Option Nat → Int32 → Int32 → Int32 → Option (Int32 × AS)} {n28 : Nat} (hk28 : ∀ (S' : AS) (z0 : Option Nat) (z1 : Option Nat) (z2 : Int32) (z3 : Int32) (z4 : Int32), Rl T0 kw_K14 S0 1 12 T S' → Tx T 40 z0 → Tx T 51 z1 → In 0 1 z2 → In 0 95 z3 → In 0 12 z4 → (96 + 1 : Int) ≤ z3.toInt + ((n13 + 1 : Nat) : Int) → (12 + 1 : Int) ≤ z4.toInt + (n28 : Int) → Ho (k28 S' z0 z1 z2 z3 z4) (fun q => ∃ T', Rl T0 kw_K14 S0 1 12 T' q.2 ∧ True)) (hm28 : (12 + 1 : Int) ≤ x4.toInt + ((n28 + 1 : Nat) : Int)) (h_x0 : Tx T 40 x0) (h_x1 : Tx T 51 x1) (h_x2 : In 0 1 x2) (h_x3 : In 0 95 x3) (h_x4 : In 0 12 x4) : Ho (f_Flow_weakestLevel_C28 k13 k28 S x0 x1 x2 x3 x4) (fun q => ∃ T', Rl T0 kw_K14 S0 1 12 T' q.2 ∧ True) := by
  unfold f_Flow_weakestLevel_C28
  refine r_gIe g.1 h_x0 rfl (fun v2 b1 e2 => ?_)
  have q3 : In 0 12 v2 := b1 _ _ rfl
  refine r_if (fun c4 => ?_) (fun c4 => ?_)
  · exact t_Flow_weakestLevel_B60 (Rlweak g (by decide +kernel) (by decide) (by decide)) hk13 hm13 h_x0 h_x1 (In_w h_x2 (by decide) (by decide)) (In_w h_x3 (by decide) (by decide))
  · have q5 : In 0 11 x4 := In_w (In_lt1 (Int32.not_le.mp c4) h_x4 q3) (by decide) (by decide)
    have q6 : In 1 12 v2 := In_w (In_lt2 (Int32.not_le.mp c4) h_x4 q3) (by decide) (by decide)
    refine r_if (fun c7 => ?_) (fun c7 => ?_)
    · have q8 : In 12 11 x4 := In_w (In_le2 c7 (by decide : In 12 12 (12 : Int32)) q5) (by decide) (by decide)
      exact absurd q8.1 (by have := q8.2; omega)
    · refine r_rv g.1 h_x0 rfl ?_
      refine r_b2 (t_Flow_spread g.1 h_x0 (In_w q5 (by decide) (by decide)) h_x1) (fun v5 s10 h9 => ?_)
      obtain ⟨g11, h9r⟩ := h9
      have g12 : Rl T0 kw_K14 S0 1 12 T s10 := Rltrans g g11 (by decide +kernel)
      refine r_val ?_
      generalize ei6 : (x2 ||| v5) = i6
      have qi6 : In 0 1 i6 := by rw [← ei6]; exact (In_w (In_or1 (In_w h_x2 (by decide) (by decide)) (In_w h9r (by decide) (by decide))) (by decide) (by decide) : In 0 1 (x2 ||| v5))
      refine r_val ?_
      generalize ei7 : (x4 + (1 : Int32)) = i7
      have qi7 : In 1 12 i7 := by rw [← ei7]; exact (In_w (In_add q5 (by decide : In 1 1 (1 : Int32)) (by decide) (by decide)) (by decide) (by decide) : In 1 12 (x4 + (1 : Int32)))
      exact hk28 s10 x0 x1 i6 x3 i7 (Rlweak g12 (by decide +kernel) (by decide) (by decide)) h_x0 h_x1 (In_w qi6 (by decide) (by decide)) (In_w h_x3 (by decide) (by decide)) (In_w qi7 (by decide) (by decide)) hm13 (by rw [← ei7, toInt_add1 q5 (by decide) (by decide)]; omega)
theorem t_Flow_weakestLevel_L28 {T0 T : Nat → Nat} {S0 : AS} {k13 : AS → Option Nat → Option Nat → Int32 → Int32 → Option (Int32 × AS)} {n13 : Nat} (hk13 : ∀ (S' : AS) (z0 : Option Nat) (z1 : Option Nat) (z2 : Int32) (z3 : Int32), Rl T0 kw_K14 S0 1 12 T S' → Tx T 40 z0 → Tx T 51 z1 → In 0 1 z2 → In 0 96 z3 → (96 + 1 : Int) ≤ z3.toInt + (n13 : Int) → Ho (k13 S' z0 z1 z2 z3) (fun q => ∃ T', Rl T0 kw_K14 S0 1 12 T' q.2 ∧ True)) : ∀ (n : Nat) (S : AS) (x0 : Option Nat) (x1 : Option Nat) (x2 : Int32) (x3 : Int32) (x4 : Int32), Rl T0 kw_K14 S0 1 12 T S → Tx T 40 x0 → Tx T 51 x1 → In 0 1 x2 → In 0 95 x3 → In 0 12 x4 → (96 + 1 : Int) ≤ x3.toInt + ((n13 + 1 : Nat) : Int) → (12 + 1 : Int) ≤ x4.toInt + (n : Int) → Ho (f_Flow_weakestLevel_L28 k13 n S x0 x1 x2 x3 x4) (fun q => ∃ T', Rl T0 kw_K14 S0 1 12 T' q.2 ∧ True) := by
  intro n
  induction n with
  | zero =>
    intro S x0 x1 x2 x3 x4 g h_x0 h_x1 h_x2 h_x3 h_x4 hm13 hm
    exact absurd hm (by have := h_x4.2; omega)
  | succ n ih =>
    intro S x0 x1 x2 x3 x4 g h_x0 h_x1 h_x2 h_x3 h_x4 hm13 hm
    exact t_Flow_weakestLevel_C28 g hk13 hm13 (fun S' z0 z1 z2 z3 z4 g' a_h_x0 a_h_x1 a_h_x2 a_h_x3 a_h_x4 a_hm13 am => ih S' z0 z1 z2 z3 z4 g' a_h_x0 a_h_x1 a_h_x2 a_h_x3 a_h_x4 a_hm13 am) hm h_x0 h_x1 h_x2 h_x3 h_x4 
theorem t_Flow_weakestLevel_B109 {T0 T : Nat → Nat} {S0 S : AS} (g : Rl T0 kw_K14 S0 1 12 T S) {x0 : Option Nat} {x1 : Option Nat} {x3 : Int32} {x4 : Int32} {k71 : AS → Option Nat → Option Nat → Int32 → Int32 → Option (Int32 × AS)} {n71 : Nat} (hk71 : ∀ (S' : AS) (z0 : Option Nat) (z1 : Option Nat) (z2 : Int32) (z3 : Int32), Rl T0 kw_K14 S0 1 12 T S' → Tx T 40 z0 → Tx T 51 z1 → In 0 12 z3 → (12 + 1 : Int) ≤ z3.toInt + (n71 : Int) → Ho (k71 S' z0 z1 z2 z3) (fun q => ∃ T', Rl T0 kw_K14 S0 1 12 T' q.2 ∧ True)) (hm71 : (12 + 1 : Int) ≤ x4.toInt + ((n71 + 1 : Nat) : Int)) (h_x0 : Tx T 40 x0) (h_x1 : Tx T 51 x1) (h_x4 : In 0 11 x4) : Ho (f_Flow_weakestLevel_B109 k71 S x0 x1 x3 x4) (fun q => ∃ T', Rl T0 kw_K14 S0 1 12 T' q.2 ∧ True) := by
  unfold f_Flow_weakestLevel_B109
  refine r_val ?_
  generalize ei8 : (x4 + (1 : Int32)) = i8
  have qi8 : In 1 12 i8 := by rw [← ei8]; exact (In_w (In_add h_x4 (by decide : In 1 1 (1 : Int32)) (by decide) (by decide)) (by decide) (by decide) : In 1 12 (x4 + (1 : Int32)))
  exact hk71 S x0 x1 x3 i8 (Rlweak g (by decide +kernel) (by decide) (by decide)) h_x0 h_x1 (In_w qi8 (by decide) (by decide))  (by rw [← ei8, toInt_add1 h_x4 (by decide) (by decide)]; omega)
theorem t_Flow_weakestLevel_C71 {T0 T : Nat → Nat} {S0 S : AS} (g : Rl T0 kw_K14 S0 1 12 T S) {x0 : Option Nat} {x1 : Option Nat} {x3 : Int32} {x4 : Int32} {k71 : AS → Option Nat → Option Nat → Int32 → Int32 → Option (Int32 × AS)} {n71 : Nat} (hk71 : ∀ (S' : AS) (z0 : Option Nat) (z1 : Option Nat) (z2 : Int32) (z3 : Int32), Rl T0 kw_K14 S0 1 12 T S' → Tx T 40 z0 → Tx T 51 z1 → In 0 12 z3 → (12 + 1 : Int) ≤ z3.toInt + (n71 : Int) → Ho (k71 S' z0 z1 z2 z3) (fun q => ∃ T', Rl T0 kw_K14 S0 1 12 T' q.2 ∧ True)) (hm71 : (12 + 1 : Int) ≤ x4.toInt + ((n71 + 1 : Nat) : Int)) (h_x0 : Tx T 40 x0) (h_x1 : Tx T 51 x1) (h_x4 : In 0 12 x4) : Ho (f_Flow_weakestLevel_C71 k71 S x0 x1 x3 x4) (fun q => ∃ T', Rl T0 kw_K14 S0 1 12 T' q.2 ∧ True) := by
  unfold f_Flow_weakestLevel_C71
  refine r_gIe g.1 h_x0 rfl (fun v9 b1 e2 => ?_)
  have q3 : In 0 12 v9 := b1 _ _ rfl
  refine r_if (fun c4 => ?_) (fun c4 => ?_)
  · exact r_some ⟨_, (Rlweak g (by decide +kernel) (by decide) (by decide)), trivial⟩
  · have q5 : In 0 11 x4 := In_w (In_lt1 (Int32.not_le.mp c4) h_x4 q3) (by decide) (by decide)
    have q6 : In 1 12 v9 := In_w (In_lt2 (Int32.not_le.mp c4) h_x4 q3) (by decide) (by decide)
    refine r_if (fun c7 => ?_) (fun c7 => ?_)
    · have q8 : In 12 11 x4 := In_w (In_le2 c7 (by decide : In 12 12 (12 : Int32)) q5) (by decide) (by decide)
      exact absurd q8.1 (by have := q8.2; omega)
    · refine r_rv g.1 h_x0 rfl ?_
      refine r_P (P := fun v => True) (t_Flow_kindOf g.1 h_x0) (fun v12 h9 => ?_)
      refine r_if (fun c10 => ?_) (fun c10 => ?_)
      · have q11 : In 5 5 v12 := In_w (In_eq c10 (by decide : In 5 5 (5 : Int32))) (by decide) (by decide)
        refine r_aI g.1 h_x1 rfl rfl (In_w q5 (by decide) (by decide) : In 0 11 x4) (by decide) (fun v13 b12 => ?_)
        refine r_P (P := fun v => True) (t_Flow_leastLevel g.1 ) (fun v15 h13 => ?_)
        refine r_P (P := fun v => True) (t_Flow_weaker g.1 ) (fun v17 h14 => ?_)
        exact t_Flow_weakestLevel_B109 (Rlweak g (by decide +kernel) (by decide) (by decide)) hk71 hm71 h_x0 h_x1 (In_w q5 (by decide) (by decide)) 
      · exact t_Flow_weakestLevel_B109 (Rlweak g (by decide +kernel) (by decide) (by decide)) hk71 hm71 h_x0 h_x1 (In_w q5 (by decide) (by decide))
theorem t_Flow_weakestLevel_L71 {T0 T : Nat → Nat} {S0 : AS} : ∀ (n : Nat) (S : AS) (x0 : Option Nat) (x1 : Option Nat) (x3 : Int32) (x4 : Int32), Rl T0 kw_K14 S0 1 12 T S → Tx T 40 x0 → Tx T 51 x1 → In 0 12 x4 → (12 + 1 : Int) ≤ x4.toInt + (n : Int) → Ho (f_Flow_weakestLevel_L71  n S x0 x1 x3 x4) (fun q => ∃ T', Rl T0 kw_K14 S0 1 12 T' q.2 ∧ True) := by
  intro n
  induction n with
  | zero =>
    intro S x0 x1 x3 x4 g h_x0 h_x1 h_x4 hm
    exact absurd hm (by have := h_x4.2; omega)
  | succ n ih =>
    intro S x0 x1 x3 x4 g h_x0 h_x1 h_x4 hm
    exact t_Flow_weakestLevel_C71 g  (fun S' z0 z1 z2 z3 g' a_h_x0 a_h_x1 a_h_x4 am => ih S' z0 z1 z2 z3 g' a_h_x0 a_h_x1 a_h_x4 am) hm h_x0 h_x1 h_x4 
theorem t_Flow_weakestLevel_B66 {T0 T : Nat → Nat} {S0 S : AS} (g : Rl T0 kw_K14 S0 1 12 T S) {x0 : Option Nat} {x1 : Option Nat} (h_x0 : Tx T 40 x0) (h_x1 : Tx T 51 x1) : Ho (f_Flow_weakestLevel_B66  S x0 x1) (fun q => ∃ T', Rl T0 kw_K14 S0 1 12 T' q.2 ∧ True) := by
  unfold f_Flow_weakestLevel_B66
  exact t_Flow_weakestLevel_L71   kr_FU S x0 x1 (-1 : Int32) (0 : Int32) (Rlweak g (by decide +kernel) (by decide) (by decide)) h_x0 h_x1 (In_w (by decide : In 0 0 (0 : Int32)) (by decide) (by decide))  (by decide)
theorem t_Flow_weakestLevel_C13 {T0 T : Nat → Nat} {S0 S : AS} (g : Rl T0 kw_K14 S0 1 12 T S) {x0 : Option Nat} {x1 : Option Nat} {x2 : Int32} {x3 : Int32} {k13 : AS → Option Nat → Option Nat → Int32 → Int32 → Option (Int32 × AS)} {n13 : Nat} (hk13 : ∀ (S' : AS) (z0 : Option Nat) (z1 : Option Nat) (z2 : Int32) (z3 : Int32), Rl T0 kw_K14 S0 1 12 T S' → Tx T 40 z0 → Tx T 51 z1 → In 0 1 z2 → In 0 96 z3 → (96 + 1 : Int) ≤ z3.toInt + (n13 : Int) → Ho (k13 S' z0 z1 z2 z3) (fun q => ∃ T', Rl T0 kw_K14 S0 1 12 T' q.2 ∧ True)) (hm13 : (96 + 1 : Int) ≤ x3.toInt + ((n13 + 1 : Nat) : Int)) (h_x0 : Tx T 40 x0) (h_x1 : Tx T 51 x1) (h_x2 : In 0 1 x2) (h_x3 : In 0 96 x3) : Ho (f_Flow_weakestLevel_C13 k13 S x0 x1 x2 x3) (fun q => ∃ T', Rl T0 kw_K14 S0 1 12 T' q.2 ∧ True) := by
  unfold f_Flow_weakestLevel_C13
  refine r_if (fun c1 => ?_) (fun c1 => ?_)
  · have q2 : In 96 96 x3 := In_w (In_le2 c1 (by decide : In 96 96 (96 : Int32)) h_x3) (by decide) (by decide)
    exact t_Flow_weakestLevel_B66 (Rlweak g (by decide +kernel) (by decide) (by decide))  h_x0 h_x1 
  · have q3 : In 0 95 x3 := In_w (In_lt1 (Int32.not_le.mp c1) h_x3 (by decide : In 96 96 (96 : Int32))) (by decide) (by decide)
    refine r_if (fun c4 => ?_) (fun c4 => ?_)
    · have q5 : In 0 0 x2 := In_w (In_eq c4 (by decide : In 0 0 (0 : Int32))) (by decide) (by decide)
      exact t_Flow_weakestLevel_B66 (Rlweak g (by decide +kernel) (by decide) (by decide))  h_x0 h_x1 
    · have q6 : In 1 1 x2 := In_w (In_neL c4 h_x2 (by decide)) (by decide) (by decide)
      exact t_Flow_weakestLevel_L28 hk13  kr_FU S x0 x1 (0 : Int32) x3 (0 : Int32) (Rlweak g (by decide +kernel) (by decide) (by decide)) h_x0 h_x1 (In_w (by decide : In 0 0 (0 : Int32)) (by decide) (by decide)) (In_w q3 (by decide) (by decide)) (In_w (by decide : In 0 0 (0 : Int32)) (by decide) (by decide)) hm13 (by decide)
theorem t_Flow_weakestLevel_L13 {T0 T : Nat → Nat} {S0 : AS} : ∀ (n : Nat) (S : AS) (x0 : Option Nat) (x1 : Option Nat) (x2 : Int32) (x3 : Int32), Rl T0 kw_K14 S0 1 12 T S → Tx T 40 x0 → Tx T 51 x1 → In 0 1 x2 → In 0 96 x3 → (96 + 1 : Int) ≤ x3.toInt + (n : Int) → Ho (f_Flow_weakestLevel_L13  n S x0 x1 x2 x3) (fun q => ∃ T', Rl T0 kw_K14 S0 1 12 T' q.2 ∧ True) := by
  intro n
  induction n with
  | zero =>
    intro S x0 x1 x2 x3 g h_x0 h_x1 h_x2 h_x3 hm
    exact absurd hm (by have := h_x3.2; omega)
  | succ n ih =>
    intro S x0 x1 x2 x3 g h_x0 h_x1 h_x2 h_x3 hm
    exact t_Flow_weakestLevel_C13 g  (fun S' z0 z1 z2 z3 g' a_h_x0 a_h_x1 a_h_x2 a_h_x3 am => ih S' z0 z1 z2 z3 g' a_h_x0 a_h_x1 a_h_x2 a_h_x3 am) hm h_x0 h_x1 h_x2 h_x3 
theorem t_Flow_weakestLevel {T : Nat → Nat} {S : AS} (hT : TI T S) {a0 : Option Nat} (h_a0 : Tx T 40 a0) : Ho (f_Flow_weakestLevel  S a0) (fun q => ∃ T', Rl T kw_K14 S 1 12 T' q.2 ∧ True) := by
  have g0 := Rlrf hT
  unfold f_Flow_weakestLevel
  refine r_row51 g0 (fun T3 s1 g2 h5 e4 => ?_)
  have u6 := Tx.up h_a0 e4
  refine r_bI (w' := kw_K14) g2 (⟨_, rfl, h5, by decide⟩ : Tx T3 51 (some (sN S))) rfl rfl (In_w (by decide : In 0 0 (0 : Int32)) (by decide) (by decide) : In 0 0 (0 : Int32)) (by decide) (fun _ _ _ q => by cases q) (fun _ => rfl) (by decide) (by decide +kernel) (fun _ => by unfold phc; omega) (fun s7 g8 => ?_)
  exact t_Flow_weakestLevel_L13   kr_FU s7 a0 (some (sN S)) (1 : Int32) (0 : Int32) (Rlweak g8 (by decide +kernel) (by decide) (by decide)) u6 (⟨_, rfl, h5, by decide⟩ : Tx T3 51 (some (sN S))) (In_w (by decide : In 1 1 (1 : Int32)) (by decide) (by decide)) (In_w (by decide : In 0 0 (0 : Int32)) (by decide) (by decide))  (by decide)
theorem t_Person_wrongsSince_B32_2c0_3c0 {T : Nat → Nat} {S : AS} (hT : TI T S) {x0 : Option Nat} {x2 : Int32} (h_x0 : Tx T 13 x0) (h_x2 : In (-2147483647) 2147483647 x2) : Ho (f_Person_wrongsSince_B32  S x0 x2 (0 : Int32) (0 : Int32)) (fun q => q.2 = S ∧ In 0 3 q.1) := by
  unfold f_Person_wrongsSince_B32
  refine r_gIe hT h_x0 rfl (fun v1 b1 e2 => ?_)
  refine r_if (fun c3 => ?_) (fun c3 => ?_)
  · have q4 : In (-2147483648) 2147483646 v1 := In_w (In_lt1 c3 (In_top v1) h_x2) (by decide) (by decide)
    exact r_some ⟨rfl, (In_w (In_w (In_add (In_w (In_add (by decide : In 0 0 (0 : Int32)) (by decide : In 0 0 (0 : Int32)) (by decide) (by decide)) (by decide) (by decide) : In 0 0 ((0 : Int32) + (0 : Int32))) (by decide : In 0 0 (0 : Int32)) (by decide) (by decide)) (by decide) (by decide) : In 0 0 (((0 : Int32) + (0 : Int32)) + (0 : Int32))) (by decide) (by decide))⟩
  · have q5 : In (-2147483647) 2147483647 v1 := In_w (In_le2 (Int32.not_lt.mp c3) h_x2 (In_top v1)) (by decide) (by decide)
    exact r_some ⟨rfl, (In_w (In_w (In_add (In_w (In_add (by decide : In 0 0 (0 : Int32)) (by decide : In 0 0 (0 : Int32)) (by decide) (by decide)) (by decide) (by decide) : In 0 0 ((0 : Int32) + (0 : Int32))) (by decide : In 1 1 (1 : Int32)) (by decide) (by decide)) (by decide) (by decide) : In 1 1 (((0 : Int32) + (0 : Int32)) + (1 : Int32))) (by decide) (by decide))⟩
theorem t_Person_wrongsSince_B32_2c0_3c1 {T : Nat → Nat} {S : AS} (hT : TI T S) {x0 : Option Nat} {x2 : Int32} (h_x0 : Tx T 13 x0) (h_x2 : In (-2147483647) 2147483647 x2) : Ho (f_Person_wrongsSince_B32  S x0 x2 (0 : Int32) (1 : Int32)) (fun q => q.2 = S ∧ In 0 3 q.1) := by
  unfold f_Person_wrongsSince_B32
  refine r_gIe hT h_x0 rfl (fun v1 b1 e2 => ?_)
  refine r_if (fun c3 => ?_) (fun c3 => ?_)
  · have q4 : In (-2147483648) 2147483646 v1 := In_w (In_lt1 c3 (In_top v1) h_x2) (by decide) (by decide)
    exact r_some ⟨rfl, (In_w (In_w (In_add (In_w (In_add (by decide : In 0 0 (0 : Int32)) (by decide : In 1 1 (1 : Int32)) (by decide) (by decide)) (by decide) (by decide) : In 1 1 ((0 : Int32) + (1 : Int32))) (by decide : In 0 0 (0 : Int32)) (by decide) (by decide)) (by decide) (by decide) : In 1 1 (((0 : Int32) + (1 : Int32)) + (0 : Int32))) (by decide) (by decide))⟩
  · have q5 : In (-2147483647) 2147483647 v1 := In_w (In_le2 (Int32.not_lt.mp c3) h_x2 (In_top v1)) (by decide) (by decide)
    exact r_some ⟨rfl, (In_w (In_w (In_add (In_w (In_add (by decide : In 0 0 (0 : Int32)) (by decide : In 1 1 (1 : Int32)) (by decide) (by decide)) (by decide) (by decide) : In 1 1 ((0 : Int32) + (1 : Int32))) (by decide : In 1 1 (1 : Int32)) (by decide) (by decide)) (by decide) (by decide) : In 2 2 (((0 : Int32) + (1 : Int32)) + (1 : Int32))) (by decide) (by decide))⟩
theorem t_Person_wrongsSince_B32_2c1_3c0 {T : Nat → Nat} {S : AS} (hT : TI T S) {x0 : Option Nat} {x2 : Int32} (h_x0 : Tx T 13 x0) (h_x2 : In (-2147483647) 2147483647 x2) : Ho (f_Person_wrongsSince_B32  S x0 x2 (1 : Int32) (0 : Int32)) (fun q => q.2 = S ∧ In 0 3 q.1) := by
  unfold f_Person_wrongsSince_B32
  refine r_gIe hT h_x0 rfl (fun v1 b1 e2 => ?_)
  refine r_if (fun c3 => ?_) (fun c3 => ?_)
  · have q4 : In (-2147483648) 2147483646 v1 := In_w (In_lt1 c3 (In_top v1) h_x2) (by decide) (by decide)
    exact r_some ⟨rfl, (In_w (In_w (In_add (In_w (In_add (by decide : In 1 1 (1 : Int32)) (by decide : In 0 0 (0 : Int32)) (by decide) (by decide)) (by decide) (by decide) : In 1 1 ((1 : Int32) + (0 : Int32))) (by decide : In 0 0 (0 : Int32)) (by decide) (by decide)) (by decide) (by decide) : In 1 1 (((1 : Int32) + (0 : Int32)) + (0 : Int32))) (by decide) (by decide))⟩
  · have q5 : In (-2147483647) 2147483647 v1 := In_w (In_le2 (Int32.not_lt.mp c3) h_x2 (In_top v1)) (by decide) (by decide)
    exact r_some ⟨rfl, (In_w (In_w (In_add (In_w (In_add (by decide : In 1 1 (1 : Int32)) (by decide : In 0 0 (0 : Int32)) (by decide) (by decide)) (by decide) (by decide) : In 1 1 ((1 : Int32) + (0 : Int32))) (by decide : In 1 1 (1 : Int32)) (by decide) (by decide)) (by decide) (by decide) : In 2 2 (((1 : Int32) + (0 : Int32)) + (1 : Int32))) (by decide) (by decide))⟩
theorem t_Person_wrongsSince_B32_2c1_3c1 {T : Nat → Nat} {S : AS} (hT : TI T S) {x0 : Option Nat} {x2 : Int32} (h_x0 : Tx T 13 x0) : Ho (f_Person_wrongsSince_B32  S x0 x2 (1 : Int32) (1 : Int32)) (fun q => q.2 = S ∧ In 0 3 q.1) := by
  unfold f_Person_wrongsSince_B32
  refine r_gIe hT h_x0 rfl (fun v1 b1 e2 => ?_)
  refine r_if (fun c3 => ?_) (fun c3 => ?_)
  · have q4 : In (-2147483648) 2147483646 v1 := In_w (In_lt1 c3 (In_top v1) (In_top x2)) (by decide) (by decide)
    have q5 : In (-2147483647) 2147483647 x2 := In_w (In_lt2 c3 (In_top v1) (In_top x2)) (by decide) (by decide)
    exact r_some ⟨rfl, (In_w (In_w (In_add (In_w (In_add (by decide : In 1 1 (1 : Int32)) (by decide : In 1 1 (1 : Int32)) (by decide) (by decide)) (by decide) (by decide) : In 2 2 ((1 : Int32) + (1 : Int32))) (by decide : In 0 0 (0 : Int32)) (by decide) (by decide)) (by decide) (by decide) : In 2 2 (((1 : Int32) + (1 : Int32)) + (0 : Int32))) (by decide) (by decide))⟩
  · exact r_some ⟨rfl, (In_w (In_w (In_add (In_w (In_add (by decide : In 1 1 (1 : Int32)) (by decide : In 1 1 (1 : Int32)) (by decide) (by decide)) (by decide) (by decide) : In 2 2 ((1 : Int32) + (1 : Int32))) (by decide : In 1 1 (1 : Int32)) (by decide) (by decide)) (by decide) (by decide) : In 3 3 (((1 : Int32) + (1 : Int32)) + (1 : Int32))) (by decide) (by decide))⟩
theorem t_Person_wrongsSince_B19_2c0 {T : Nat → Nat} {S : AS} (hT : TI T S) {x0 : Option Nat} {x2 : Int32} (h_x0 : Tx T 13 x0) (h_x2 : In (-2147483647) 2147483647 x2) : Ho (f_Person_wrongsSince_B19  S x0 x2 (0 : Int32)) (fun q => q.2 = S ∧ In 0 3 q.1) := by
  unfold f_Person_wrongsSince_B19
  refine r_gIe hT h_x0 rfl (fun v2 b1 e2 => ?_)
  refine r_if (fun c3 => ?_) (fun c3 => ?_)
  · have q4 : In (-2147483648) 2147483646 v2 := In_w (In_lt1 c3 (In_top v2) h_x2) (by decide) (by decide)
    exact t_Person_wrongsSince_B32_2c0_3c0 hT  h_x0 (In_w h_x2 (by decide) (by decide)) 
  · have q5 : In (-2147483647) 2147483647 v2 := In_w (In_le2 (Int32.not_lt.mp c3) h_x2 (In_top v2)) (by decide) (by decide)
    exact t_Person_wrongsSince_B32_2c0_3c1 hT  h_x0 (In_w h_x2 (by decide) (by decide)) 
theorem t_Person_wrongsSince_B19_2c1 {T : Nat → Nat} {S : AS} (hT : TI T S) {x0 : Option Nat} {x2 : Int32} (h_x0 : Tx T 13 x0) : Ho (f_Person_wrongsSince_B19  S x0 x2 (1 : Int32)) (fun q => q.2 = S ∧ In 0 3 q.1) := by
  unfold f_Person_wrongsSince_B19
  refine r_gIe hT h_x0 rfl (fun v2 b1 e2 => ?_)
  refine r_if (fun c3 => ?_) (fun c3 => ?_)
  · have q4 : In (-2147483648) 2147483646 v2 := In_w (In_lt1 c3 (In_top v2) (In_top x2)) (by decide) (by decide)
    have q5 : In (-2147483647) 2147483647 x2 := In_w (In_lt2 c3 (In_top v2) (In_top x2)) (by decide) (by decide)
    exact t_Person_wrongsSince_B32_2c1_3c0 hT  h_x0 (In_w q5 (by decide) (by decide)) 
  · exact t_Person_wrongsSince_B32_2c1_3c1 hT  h_x0
theorem t_Person_wrongsSince {T : Nat → Nat} {S : AS} (hT : TI T S) {a0 : Option Nat} {a1 : Int32} (h_a0 : Tx T 13 a0) : Ho (f_Person_wrongsSince  S a0 a1) (fun q => q.2 = S ∧ In 0 3 q.1) := by
  unfold f_Person_wrongsSince
  refine r_val ?_
  generalize ei3 : (if (0 : Int32) < a1 then a1 else (0 : Int32)) = i3
  refine r_gIe hT h_a0 rfl (fun v4 b1 e2 => ?_)
  refine r_if (fun c3 => ?_) (fun c3 => ?_)
  · have q4 : In (-2147483648) 2147483646 v4 := In_w (In_lt1 c3 (In_top v4) (In_top i3)) (by decide) (by decide)
    have q5 : In (-2147483647) 2147483647 i3 := In_w (In_lt2 c3 (In_top v4) (In_top i3)) (by decide) (by decide)
    exact t_Person_wrongsSince_B19_2c0 hT  h_a0 (In_w q5 (by decide) (by decide)) 
  · exact t_Person_wrongsSince_B19_2c1 hT  h_a0
theorem t_Shown_levelSince_B36 {T : Nat → Nat} {S : AS} (hT : TI T S) {x0 : Option Nat} {x1 : Int32} {x2 : Int32} {x3 : Int32} {k4 : AS → Option Nat → Int32 → Int32 → Int32 → Option (Int32 × AS)} {n4 : Nat} (hk4 : ∀ (z0 : Option Nat) (z1 : Int32) (z2 : Int32) (z3 : Int32), Tx T 47 z0 → In 0 3 z3 → (3 + 1 : Int) ≤ z3.toInt + (n4 : Int) → Ho (k4 S z0 z1 z2 z3) (fun q => q.2 = S ∧ True)) (hm4 : (3 + 1 : Int) ≤ x3.toInt + ((n4 + 1 : Nat) : Int)) (h_x0 : Tx T 47 x0) (h_x3 : In 0 2 x3) : Ho (f_Shown_levelSince_B36 k4 S x0 x1 x2 x3) (fun q => q.2 = S ∧ True) := by
  unfold f_Shown_levelSince_B36
  refine r_val ?_
  generalize ei1 : (x3 + (1 : Int32)) = i1
  have qi1 : In 1 3 i1 := by rw [← ei1]; exact (In_w (In_add h_x3 (by decide : In 1 1 (1 : Int32)) (by decide) (by decide)) (by decide) (by decide) : In 1 3 (x3 + (1 : Int32)))
  exact hk4  x0 x1 x2 i1  h_x0 (In_w qi1 (by decide) (by decide))  (by rw [← ei1, toInt_add1 h_x3 (by decide) (by decide)]; omega)
theorem t_Shown_levelSince_C4 {T : Nat → Nat} {S : AS} (hT : TI T S) {x0 : Option Nat} {x1 : Int32} {x2 : Int32} {x3 : Int32} {k4 : AS → Option Nat → Int32 → Int32 → Int32 → Option (Int32 × AS)} {n4 : Nat} (hk4 : ∀ (z0 : Option Nat) (z1 : Int32) (z2 : Int32) (z3 : Int32), Tx T 47 z0 → In 0 3 z3 → (3 + 1 : Int) ≤ z3.toInt + (n4 : Int) → Ho (k4 S z0 z1 z2 z3) (fun q => q.2 = S ∧ True)) (hm4 : (3 + 1 : Int) ≤ x3.toInt + ((n4 + 1 : Nat) : Int)) (h_x0 : Tx T 47 x0) (h_x3 : In 0 3 x3) : Ho (f_Shown_levelSince_C4 k4 S x0 x1 x2 x3) (fun q => q.2 = S ∧ True) := by
  unfold f_Shown_levelSince_C4
  refine r_if (fun c1 => ?_) (fun c1 => ?_)
  · have q2 : In 3 3 x3 := In_w (In_le2 c1 (by decide : In 3 3 (3 : Int32)) h_x3) (by decide) (by decide)
    exact r_some ⟨rfl, trivial⟩
  · have q3 : In 0 2 x3 := In_w (In_lt1 (Int32.not_le.mp c1) h_x3 (by decide : In 3 3 (3 : Int32))) (by decide) (by decide)
    refine r_gR hT h_x0 rfl rfl (fun v2 h4 => ?_)
    refine r_aI hT h4 rfl rfl (In_w q3 (by decide) (by decide) : In 0 2 x3) (by decide) (fun v3 b5 => ?_)
    refine r_if (fun c6 => ?_) (fun c6 => ?_)
    · have q7 : In (-1) (-1) v3 := In_w (In_eq c6 (by decide : In (-1) (-1) (-1 : Int32))) (by decide) (by decide)
      exact t_Shown_levelSince_B36 hT hk4 hm4 h_x0 (In_w q3 (by decide) (by decide)) 
    · refine r_gR hT h_x0 rfl rfl (fun v4 h8 => ?_)
      refine r_aI hT h8 rfl rfl (In_w q3 (by decide) (by decide) : In 0 2 x3) (by decide) (fun v5 b9 => ?_)
      refine r_if (fun c10 => ?_) (fun c10 => ?_)
      · have q11 : In (-2147483648) 2147483646 v5 := In_w (In_lt1 c10 (In_top v5) (In_top x1)) (by decide) (by decide)
        have q12 : In (-2147483647) 2147483647 x1 := In_w (In_lt2 c10 (In_top v5) (In_top x1)) (by decide) (by decide)
        exact t_Shown_levelSince_B36 hT hk4 hm4 h_x0 (In_w q3 (by decide) (by decide)) 
      · refine r_P (P := fun _ => True) (hO_and (t_Shown_weightOf hT _)) (fun v7 _ => ?_)
        refine r_val ?_
        generalize ei8 : (x2 + v7) = i8
        exact t_Shown_levelSince_B36 hT hk4 hm4 h_x0 (In_w q3 (by decide) (by decide)) 
theorem t_Shown_levelSince_L4 {T : Nat → Nat} {S : AS} (hT : TI T S) : ∀ (n : Nat) (x0 : Option Nat) (x1 : Int32) (x2 : Int32) (x3 : Int32), Tx T 47 x0 → In 0 3 x3 → (3 + 1 : Int) ≤ x3.toInt + (n : Int) → Ho (f_Shown_levelSince_L4  n S x0 x1 x2 x3) (fun q => q.2 = S ∧ True) := by
  intro n
  induction n with
  | zero =>
    intro x0 x1 x2 x3 h_x0 h_x3 hm
    exact absurd hm (by have := h_x3.2; omega)
  | succ n ih =>
    intro x0 x1 x2 x3 h_x0 h_x3 hm
    exact t_Shown_levelSince_C4 hT  (fun z0 z1 z2 z3 a_h_x0 a_h_x3 am => ih z0 z1 z2 z3 a_h_x0 a_h_x3 am) hm h_x0 h_x3 
theorem t_Shown_levelSince {T : Nat → Nat} {S : AS} (hT : TI T S) {a0 : Option Nat} {a1 : Int32} (h_a0 : Tx T 47 a0) : Ho (f_Shown_levelSince  S a0 a1) (fun q => q.2 = S ∧ True) := by
  unfold f_Shown_levelSince
  exact t_Shown_levelSince_L4 hT   kr_FU  a0 a1 (0 : Int32) (0 : Int32)  h_a0 (In_w (by decide : In 0 0 (0 : Int32)) (by decide) (by decide))  (by decide)
theorem t_Attempt_waitAt {T : Nat → Nat} {S : AS} (hT : TI T S) {a0 : Option Nat} {a1 : Int32} (h_a0 : Tx T 42 a0) : Ho (f_Attempt_waitAt  S a0 a1) (fun q => Rl T kw_K16 S 0 0 T q) := by
  have g0 := Rlrf hT
  unfold f_Attempt_waitAt
  refine r_pI (w' := kw_K15) g0 h_a0 rfl (by decide) (fun _ _ q => by cases q) rfl (by decide) (by decide +kernel) (by unfold phc; decide) (fun s1 g2 => ?_)
  refine r_pI (w' := kw_K16) g2 h_a0 rfl (by decide) (fun _ _ q => by cases q) rfl (by decide) (by decide +kernel) (by unfold phc; decide) (fun s3 g4 => ?_)
  exact r_some (Rlweak g4 (by decide +kernel) (by decide) (by decide))
theorem t_Person_learn {T : Nat → Nat} {S : AS} (hT : TI T S) {a0 : Option Nat} {a1 : Int32} {a2 : Int32} (h_a0 : Tx T 13 a0) : Ho (f_Person_learn  S a0 a1 a2) (fun q => Rl T kw_K18 S 0 0 T q) := by
  have g0 := Rlrf hT
  unfold f_Person_learn
  refine r_gIe g0.1 h_a0 rfl (fun v1 b1 e2 => ?_)
  refine r_pI (w' := kw_K17) g0 h_a0 rfl (by decide) (fun _ _ q => by cases q) rfl (by decide) (by decide +kernel) (by unfold phc; decide) (fun s3 g4 => ?_)
  refine r_gIe g4.1 h_a0 rfl (fun v3 b5 e6 => ?_)
  refine r_pI (w' := kw_K18) g4 h_a0 rfl (by decide) (fun _ _ q => by cases q) rfl (by decide) (by decide +kernel) (by unfold phc; decide) (fun s7 g8 => ?_)
  exact r_some (Rlweak g8 (by decide +kernel) (by decide) (by decide))
theorem t_Person_takes_B74 {T : Nat → Nat} {S0 S : AS} (g : Rl T [] S0 0 0 T S) {x0 : Option Nat} {x1 : Int32} {x3 : Int32} (h_x0 : Tx T 13 x0) (h_x1 : In 0 2 x1) : Ho (f_Person_takes_B74  S x0 x1 x3) (fun q => Rl T kw_K11 S0 0 0 T q.2 ∧ In 0 1 q.1) := by
  unfold f_Person_takes_B74
  refine r_gR g.1 h_x0 rfl rfl (fun v1 h1 => ?_)
  refine r_bI (w' := kw_K19) g h1 rfl rfl (In_w h_x1 (by decide) (by decide) : In 0 2 x1) (by decide) (fun _ _ _ q => by cases q) (fun _ => rfl) (by decide) (by decide +kernel) (fun _ => by unfold phc; omega) (fun s2 g3 => ?_)
  refine r_if (fun c4 => ?_) (fun c4 => ?_)
  · have q5 : In 2 2 x1 := In_w (In_eq c4 (by decide : In 2 2 (2 : Int32))) (by decide) (by decide)
    refine r_pI (w' := kw_K20) g3 h_x0 rfl (by decide) (fun _ _ q => by cases q) rfl (by decide) (by decide +kernel) (by unfold phc; decide) (fun s6 g7 => ?_)
    exact r_some ⟨(Rlweak g7 (by decide +kernel) (by decide) (by decide)), (In_w (by decide : In 1 1 (1 : Int32)) (by decide) (by decide))⟩
  · have q8 : In 0 1 x1 := In_w (In_neR c4 h_x1 (by decide)) (by decide) (by decide)
    exact r_some ⟨(Rlweak g3 (by decide +kernel) (by decide) (by decide)), (In_w (by decide : In 1 1 (1 : Int32)) (by decide) (by decide))⟩
theorem t_Person_takes {T : Nat → Nat} {S : AS} (hT : TI T S) {a0 : Option Nat} {a1 : Int32} {a2 : Int32} {a3 : Int32} (h_a0 : Tx T 13 a0) : Ho (f_Person_takes  S a0 a1 a2 a3) (fun q => Rl T kw_K11 S 0 0 T q.2 ∧ In 0 1 q.1) := by
  have g0 := Rlrf hT
  unfold f_Person_takes
  refine r_Kf (fun q1 => ?_) ?_
  · have q2 : In 0 2 a1 := In_w q1 (by decide) (by decide)
    refine r_ifF (by decide) ?_
    refine r_gR g0.1 h_a0 rfl rfl (fun v6 h3 => ?_)
    refine r_aI g0.1 h3 rfl rfl (In_w q2 (by decide) (by decide) : In 0 2 a1) (by decide) (fun v7 b4 => ?_)
    refine r_if (fun c5 => ?_) (fun c5 => ?_)
    · have q6 : In 1 1 v7 := In_w (In_eq c5 (by decide : In 1 1 (1 : Int32))) (by decide) (by decide)
      refine r_if (fun c7 => ?_) (fun c7 => ?_)
      · have q8 : In 0 0 a2 := In_w (In_eq c7 (by decide : In 0 0 (0 : Int32))) (by decide) (by decide)
        refine r_gR g0.1 h_a0 rfl rfl (fun v8 h9 => ?_)
        refine r_aI g0.1 h9 rfl rfl (In_w q2 (by decide) (by decide) : In 0 2 a1) (by decide) (fun v9 b10 => ?_)
        refine r_bI (w' := kw_K19) g0 h9 rfl rfl (In_w q2 (by decide) (by decide) : In 0 2 a1) (by decide) (fun _ _ _ q => by cases q) (fun _ => rfl) (by decide) (by decide +kernel) (fun _ => by unfold phc; omega) (fun s11 g12 => ?_)
        refine r_gR g12.1 h_a0 rfl rfl (fun v11 h13 => ?_)
        refine r_aI g12.1 h13 rfl rfl (In_w q2 (by decide) (by decide) : In 0 2 a1) (by decide) (fun v12 b14 => ?_)
        refine r_if (fun c15 => ?_) (fun c15 => ?_)
        · have q16 : In (-2147483648) 4 v12 := In_w (In_lt1 c15 (In_top v12) (by decide : In 5 5 (5 : Int32))) (by decide) (by decide)
          exact r_some ⟨(Rlweak g12 (by decide +kernel) (by decide) (by decide)), (In_w (by decide : In 0 0 (0 : Int32)) (by decide) (by decide))⟩
        · have q17 : In 5 2147483647 v12 := In_w (In_le2 (Int32.not_lt.mp c15) (by decide : In 5 5 (5 : Int32)) (In_top v12)) (by decide) (by decide)
          refine r_gR g12.1 h_a0 rfl rfl (fun v13 h18 => ?_)
          refine r_bI (w' := kw_K10) g12 h18 rfl rfl (In_w q2 (by decide) (by decide) : In 0 2 a1) (by decide) (fun _ _ _ q => by cases q) (fun _ => rfl) (by decide) (by decide +kernel) (fun _ => by unfold phc; omega) (fun s19 g20 => ?_)
          exact r_some ⟨(Rlweak g20 (by decide +kernel) (by decide) (by decide)), (In_w (by decide : In 0 0 (0 : Int32)) (by decide) (by decide))⟩
      · refine r_if (fun c21 => ?_) (fun c21 => ?_)
        · have q22 : In 2 2 a1 := In_w (In_eq c21 (by decide : In 2 2 (2 : Int32))) (by decide) (by decide)
          refine r_gIe g0.1 h_a0 rfl (fun v15 b23 e24 => ?_)
          refine r_if (fun c25 => ?_) (fun c25 => ?_)
          · have q26 : In (-2147483648) 2147483646 v15 := In_w (In_lt1 c25 (In_top v15) (In_top a3)) (by decide) (by decide)
            have q27 : In (-2147483647) 2147483647 a3 := In_w (In_lt2 c25 (In_top v15) (In_top a3)) (by decide) (by decide)
            exact t_Person_takes_B74 (Rlweak g0 (by decide +kernel) (by decide) (by decide))  h_a0 (In_w q22 (by decide) (by decide)) 
          · refine r_gR g0.1 h_a0 rfl rfl (fun v16 h28 => ?_)
            refine r_bI (w' := kw_K9) g0 h28 rfl rfl (In_w q22 (by decide) (by decide) : In 0 2 a1) (by decide) (fun _ _ _ q => by cases q) (fun _ => rfl) (by decide) (by decide +kernel) (fun _ => by unfold phc; omega) (fun s29 g30 => ?_)
            exact r_some ⟨(Rlweak g30 (by decide +kernel) (by decide) (by decide)), (In_w (by decide : In 0 0 (0 : Int32)) (by decide) (by decide))⟩
        · have q31 : In 0 1 a1 := In_w (In_neR c21 q2 (by decide)) (by decide) (by decide)
          exact t_Person_takes_B74 (Rlweak g0 (by decide +kernel) (by decide) (by decide))  h_a0 (In_w q31 (by decide) (by decide)) 
    · exact r_some ⟨(Rlweak g0 (by decide +kernel) (by decide) (by decide)), (In_w (by decide : In 0 0 (0 : Int32)) (by decide) (by decide))⟩
  · refine r_ifT (by decide) ?_
    exact r_some ⟨(Rlweak g0 (by decide +kernel) (by decide) (by decide)), (In_w (by decide : In 0 0 (0 : Int32)) (by decide) (by decide))⟩
theorem t_Person_noteWrong {T : Nat → Nat} {S : AS} (hT : TI T S) {a0 : Option Nat} {a1 : Int32} (h_a0 : Tx T 13 a0) : Ho (f_Person_noteWrong  S a0 a1) (fun q => Rl T kw_K23 S 0 0 T q) := by
  have g0 := Rlrf hT
  unfold f_Person_noteWrong
  refine r_gIe g0.1 h_a0 rfl (fun v1 b1 e2 => ?_)
  refine r_pI (w' := kw_K21) g0 h_a0 rfl (by decide) (fun _ _ q => by cases q) rfl (by decide) (by decide +kernel) (by unfold phc; decide) (fun s3 g4 => ?_)
  refine r_gIe g4.1 h_a0 rfl (fun v3 b5 e6 => ?_)
  refine r_pI (w' := kw_K22) g4 h_a0 rfl (by decide) (fun _ _ q => by cases q) rfl (by decide) (by decide +kernel) (by unfold phc; decide) (fun s7 g8 => ?_)
  refine r_pI (w' := kw_K23) g8 h_a0 rfl (by decide) (fun _ _ q => by cases q) rfl (by decide) (by decide +kernel) (by unfold phc; decide) (fun s9 g10 => ?_)
  exact r_some (Rlweak g10 (by decide +kernel) (by decide) (by decide))
theorem t_Shown_show {T : Nat → Nat} {S : AS} (hT : TI T S) {a0 : Option Nat} {a1 : Int32} {a2 : Int32} (h_a0 : Tx T 47 a0) : Ho (f_Shown_show  S a0 a1 a2) (fun q => Rl T kw_K24 S 0 0 T q) := by
  have g0 := Rlrf hT
  unfold f_Shown_show
  refine r_Kf (fun q1 => ?_) ?_
  · have q2 : In 0 2 a1 := In_w q1 (by decide) (by decide)
    refine r_ifF (by decide) ?_
    refine r_gR g0.1 h_a0 rfl rfl (fun v3 h3 => ?_)
    refine r_bI (w' := kw_K24) g0 h3 rfl rfl (In_w q2 (by decide) (by decide) : In 0 2 a1) (by decide) (fun _ _ _ q => by cases q) (fun _ => rfl) (by decide) (by decide +kernel) (fun _ => by unfold phc; omega) (fun s4 g5 => ?_)
    exact r_some (Rlweak g5 (by decide +kernel) (by decide) (by decide))
  · refine r_ifT (by decide) ?_
    exact r_some (Rlweak g0 (by decide +kernel) (by decide) (by decide))
theorem t_Flow_secondOf {T : Nat → Nat} {S : AS} (hT : TI T S) {a0 : Option Nat} {a1 : Int32} (h_a0 : Tx T 40 a0) : Ho (f_Flow_secondOf  S a0 a1) (fun q => q.2 = S ∧ True) := by
  unfold f_Flow_secondOf
  refine r_rv hT h_a0 rfl ?_
  refine r_Ft hT h_a0 (fun q1 => ?_) ?_
  · have q2 : In 0 11 a1 := In_w q1 (by decide) (by decide)
    refine r_ifF (by decide) ?_
    refine r_gR hT h_a0 rfl rfl (fun v4 h3 => ?_)
    refine r_aI hT h3 rfl rfl (In_w q2 (by decide) (by decide) : In 0 11 a1) (by decide) (fun v5 b4 => ?_)
    exact r_some ⟨rfl, trivial⟩
  · refine r_ifT (by decide) ?_
    exact r_some ⟨rfl, trivial⟩
theorem t_Audit_entryAt {T : Nat → Nat} {S : AS} (hT : TI T S) {a0 : Option Nat} {a1 : Int32} (h_a0 : Tx T 2 a0) : Ho (f_Audit_entryAt  S a0 a1) (fun q => q.2 = S ∧ True) := by
  unfold f_Audit_entryAt
  refine r_if (fun c1 => ?_) (fun c1 => ?_)
  · have q2 : In (-2147483648) (-1) a1 := In_w (In_lt1 c1 (In_top a1) (by decide : In 0 0 (0 : Int32))) (by decide) (by decide)
    exact r_some ⟨rfl, trivial⟩
  · have q3 : In 0 2147483647 a1 := In_w (In_le2 (Int32.not_lt.mp c1) (by decide : In 0 0 (0 : Int32)) (In_top a1)) (by decide) (by decide)
    refine r_if (fun c4 => ?_) (fun c4 => ?_)
    · have q5 : In 1024 2147483647 a1 := In_w (In_le2 c4 (by decide : In 1024 1024 (1024 : Int32)) q3) (by decide) (by decide)
      exact r_some ⟨rfl, trivial⟩
    · have q6 : In 0 1023 a1 := In_w (In_lt1 (Int32.not_le.mp c4) q3 (by decide : In 1024 1024 (1024 : Int32))) (by decide) (by decide)
      refine r_gR hT h_a0 rfl rfl (fun v1 h7 => ?_)
      refine r_aI hT h7 rfl rfl (In_w q6 (by decide) (by decide) : In 0 1023 a1) (by decide) (fun v2 b8 => ?_)
      exact r_some ⟨rfl, trivial⟩
theorem t_Audit_has_C2 {T : Nat → Nat} {S : AS} (hT : TI T S) {x0 : Option Nat} {x1 : Int32} {x2 : Int32} {x3 : Int32} {k2 : AS → Option Nat → Int32 → Int32 → Int32 → Option (Int32 × AS)} {n2 : Nat} (hk2 : ∀ (z0 : Option Nat) (z1 : Int32) (z2 : Int32) (z3 : Int32), Tx T 2 z0 → In 0 1024 z3 → (1024 + 1 : Int) ≤ z3.toInt + (n2 : Int) → Ho (k2 S z0 z1 z2 z3) (fun q => q.2 = S ∧ In 0 1 q.1)) (hm2 : (1024 + 1 : Int) ≤ x3.toInt + ((n2 + 1 : Nat) : Int)) (h_x0 : Tx T 2 x0) (h_x3 : In 0 1024 x3) : Ho (f_Audit_has_C2 k2 S x0 x1 x2 x3) (fun q => q.2 = S ∧ In 0 1 q.1) := by
  unfold f_Audit_has_C2
  refine r_gIe hT h_x0 rfl (fun v1 b1 e2 => ?_)
  have q3 : In 0 1024 v1 := b1 _ _ rfl
  refine r_if (fun c4 => ?_) (fun c4 => ?_)
  · exact r_some ⟨rfl, (In_w (by decide : In 0 0 (0 : Int32)) (by decide) (by decide))⟩
  · have q5 : In 0 1023 x3 := In_w (In_lt1 (Int32.not_le.mp c4) h_x3 q3) (by decide) (by decide)
    have q6 : In 1 1024 v1 := In_w (In_lt2 (Int32.not_le.mp c4) h_x3 q3) (by decide) (by decide)
    refine r_rv hT h_x0 rfl ?_
    refine r_P (P := fun v => True) (t_Audit_entryAt hT h_x0) (fun v4 h7 => ?_)
    refine r_if (fun c8 => ?_) (fun c8 => ?_)
    · exact r_some ⟨rfl, (In_w (by decide : In 1 1 (1 : Int32)) (by decide) (by decide))⟩
    · refine r_val ?_
      generalize ei5 : (x3 + (1 : Int32)) = i5
      have qi5 : In 1 1024 i5 := by rw [← ei5]; exact (In_w (In_add q5 (by decide : In 1 1 (1 : Int32)) (by decide) (by decide)) (by decide) (by decide) : In 1 1024 (x3 + (1 : Int32)))
      exact hk2  x0 x1 x2 i5  h_x0 (In_w qi5 (by decide) (by decide))  (by rw [← ei5, toInt_add1 q5 (by decide) (by decide)]; omega)
theorem t_Audit_has_L2 {T : Nat → Nat} {S : AS} (hT : TI T S) : ∀ (n : Nat) (x0 : Option Nat) (x1 : Int32) (x2 : Int32) (x3 : Int32), Tx T 2 x0 → In 0 1024 x3 → (1024 + 1 : Int) ≤ x3.toInt + (n : Int) → Ho (f_Audit_has_L2  n S x0 x1 x2 x3) (fun q => q.2 = S ∧ In 0 1 q.1) := by
  intro n
  induction n with
  | zero =>
    intro x0 x1 x2 x3 h_x0 h_x3 hm
    exact absurd hm (by have := h_x3.2; omega)
  | succ n ih =>
    intro x0 x1 x2 x3 h_x0 h_x3 hm
    exact t_Audit_has_C2 hT  (fun z0 z1 z2 z3 a_h_x0 a_h_x3 am => ih z0 z1 z2 z3 a_h_x0 a_h_x3 am) hm h_x0 h_x3 
theorem t_Audit_has {T : Nat → Nat} {S : AS} (hT : TI T S) {a0 : Option Nat} {a1 : Int32} {a2 : Int32} (h_a0 : Tx T 2 a0) : Ho (f_Audit_has  S a0 a1 a2) (fun q => q.2 = S ∧ In 0 1 q.1) := by
  unfold f_Audit_has
  exact t_Audit_has_L2 hT   kr_FU  a0 a1 a2 (0 : Int32)  h_a0 (In_w (by decide : In 0 0 (0 : Int32)) (by decide) (by decide))  (by decide)
theorem t_Session_levelAt {T : Nat → Nat} {S : AS} (hT : TI T S) {a0 : Option Nat} {a1 : Int32} (h_a0 : Tx T 43 a0) : Ho (f_Session_levelAt  S a0 a1) (fun q => q.2 = S ∧ True) := by
  unfold f_Session_levelAt
  refine r_gR hT h_a0 rfl rfl (fun v1 h1 => ?_)
  refine r_rv hT h1 rfl ?_
  refine r_P (P := fun v => True) (t_Shown_levelSince hT h1) (fun v4 h2 => ?_)
  exact r_some ⟨rfl, trivial⟩
theorem t_Keyring_publishNext {T : Nat → Nat} {S : AS} (hT : TI T S) {a0 : Option Nat} (h_a0 : Tx T 10 a0) : Ho (f_Keyring_publishNext  S a0) (fun q => Rl T kw_K25 S 0 0 T q.2 ∧ True) := by
  have g0 := Rlrf hT
  unfold f_Keyring_publishNext
  refine r_gIe g0.1 h_a0 rfl (fun v1 b1 e2 => ?_)
  refine r_gIe g0.1 h_a0 rfl (fun v2 b3 e4 => ?_)
  refine r_pI (w' := kw_K7) g0 h_a0 rfl (by decide) (fun _ _ q => by cases q) rfl (by decide) (by decide +kernel) (by unfold phc; decide) (fun s5 g6 => ?_)
  refine r_gIe g6.1 h_a0 rfl (fun v4 b7 e8 => ?_)
  refine r_pI (w' := kw_K25) g6 h_a0 rfl (by decide) (fun _ _ q => by cases q) rfl (by decide) (by decide +kernel) (by unfold phc; decide) (fun s9 g10 => ?_)
  refine r_gIe g10.1 h_a0 rfl (fun v6 b11 e12 => ?_)
  exact r_some ⟨(Rlweak g10 (by decide +kernel) (by decide) (by decide)), trivial⟩
theorem t_Keyring_publishWaiting {T : Nat → Nat} {S : AS} (hT : TI T S) {a0 : Option Nat} {a1 : Int32} (h_a0 : Tx T 10 a0) : Ho (f_Keyring_publishWaiting  S a0 a1) (fun q => Rl T kw_K27 S 0 0 T q.2 ∧ True) := by
  have g0 := Rlrf hT
  unfold f_Keyring_publishWaiting
  refine r_rv g0.1 h_a0 rfl ?_
  refine r_b2 (t_Keyring_publishNext g0.1 h_a0) (fun v3 s2 h1 => ?_)
  obtain ⟨g3, h1r⟩ := h1
  have g4 : Rl T kw_K25 S 0 0 T s2 := Rltrans g0 g3 (by decide +kernel)
  refine r_pI (w' := kw_K26) g4 h_a0 rfl (by decide) (fun _ _ q => by cases q) rfl (by decide) (by decide +kernel) (by unfold phc; decide) (fun s5 g6 => ?_)
  refine r_pI (w' := kw_K27) g6 h_a0 rfl (by decide) (fun _ _ q => by cases q) rfl (by decide) (by decide +kernel) (by unfold phc; decide) (fun s7 g8 => ?_)
  refine r_gIe g8.1 h_a0 rfl (fun v6 b9 e10 => ?_)
  exact r_some ⟨(Rlweak g8 (by decide +kernel) (by decide) (by decide)), trivial⟩
theorem t_Keyring_replaceSigner_B37_1t10 {T : Nat → Nat} {S0 S : AS} (g : Rl T kw_K25 S0 0 0 T S) {x0 : Option Nat} {y0 : Option Nat} {y1 : Int32} (h_x0 : Tx T 10 x0) (h_y0 : Tx T 10 y0) : Ho (f_Keyring_replaceSigner_B37  S x0 y0 y1) (fun q => Rl T kw_K29 S0 0 0 T q) := by
  unfold f_Keyring_replaceSigner_B37
  refine r_pI (w' := kw_K28) g h_y0 rfl (by decide) (fun _ _ q => by cases q) rfl (by decide) (by decide +kernel) (by unfold phc; decide) (fun s1 g2 => ?_)
  refine r_pI (w' := kw_K29) g2 h_x0 rfl (by decide) (fun _ _ q => by cases q) rfl (by decide) (by decide +kernel) (by unfold phc; decide) (fun s3 g4 => ?_)
  exact r_some (Rlweak g4 (by decide +kernel) (by decide) (by decide))
theorem t_Keyring_replaceSigner {T : Nat → Nat} {S : AS} (hT : TI T S) {a0 : Option Nat} (h_a0 : Tx T 10 a0) : Ho (f_Keyring_replaceSigner  S a0) (fun q => Rl T kw_K29 S 0 0 T q) := by
  have g0 := Rlrf hT
  unfold f_Keyring_replaceSigner
  refine r_gIe g0.1 h_a0 rfl (fun v3 b1 e2 => ?_)
  refine r_gIe g0.1 h_a0 rfl (fun v4 b3 e4 => ?_)
  refine r_pI (w' := kw_K7) g0 h_a0 rfl (by decide) (fun _ _ q => by cases q) rfl (by decide) (by decide +kernel) (by unfold phc; decide) (fun s5 g6 => ?_)
  refine r_gIe g6.1 h_a0 rfl (fun v6 b7 e8 => ?_)
  refine r_if (fun c9 => ?_) (fun c9 => ?_)
  · have q10 : In (-1) (-1) v6 := In_w (In_eq c9 (by decide : In (-1) (-1) (-1 : Int32))) (by decide) (by decide)
    refine r_rv g6.1 h_a0 rfl ?_
    refine r_b2 (t_Keyring_publishNext g6.1 h_a0) (fun v9 s12 h11 => ?_)
    obtain ⟨g13, h11r⟩ := h11
    have g14 : Rl T kw_K25 S 0 0 T s12 := Rltrans g6 g13 (by decide +kernel)
    exact t_Keyring_replaceSigner_B37_1t10 (Rlweak g14 (by decide +kernel) (by decide) (by decide))  h_a0 h_a0 
  · refine r_gIe g6.1 h_a0 rfl (fun v10 b15 e16 => ?_)
    exact t_Keyring_replaceSigner_B37_1t10 (Rlweak g6 (by decide +kernel) (by decide) (by decide))  h_a0 h_a0 
theorem t_IN_bitCount {T : Nat → Nat} {S : AS} (hT : TI T S) {a0 : Int32} : Ho (f_IN_bitCount  S a0) (fun q => q.2 = S ∧ True) := by
  unfold f_IN_bitCount
  refine r_val ?_
  generalize ei1 : (a0 - (((a0.toUInt32 >>> ((1 : Int32).toUInt32 &&& Int32.toUInt32 31)).toInt32) &&& (1431655765 : Int32))) = i1
  refine r_val ?_
  generalize ei2 : ((i1 &&& (858993459 : Int32)) + (((i1.toUInt32 >>> ((2 : Int32).toUInt32 &&& Int32.toUInt32 31)).toInt32) &&& (858993459 : Int32))) = i2
  refine r_val ?_
  generalize ei3 : ((i2 + ((i2.toUInt32 >>> ((4 : Int32).toUInt32 &&& Int32.toUInt32 31)).toInt32)) &&& (252645135 : Int32)) = i3
  refine r_val ?_
  generalize ei4 : (i3 + ((i3.toUInt32 >>> ((8 : Int32).toUInt32 &&& Int32.toUInt32 31)).toInt32)) = i4
  refine r_val ?_
  generalize ei5 : (i4 + ((i4.toUInt32 >>> ((16 : Int32).toUInt32 &&& Int32.toUInt32 31)).toInt32)) = i5
  exact r_some ⟨rfl, trivial⟩
theorem t_Recovery_countVouchers {T : Nat → Nat} {S : AS} (hT : TI T S) {a0 : Option Nat} (h_a0 : Tx T 46 a0) : Ho (f_Recovery_countVouchers  S a0) (fun q => q.2 = S ∧ True) := by
  unfold f_Recovery_countVouchers
  refine r_gIe hT h_a0 rfl (fun v1 b1 e2 => ?_)
  refine r_P (P := fun v => True) (t_IN_bitCount hT ) (fun v3 h3 => ?_)
  exact r_some ⟨rfl, trivial⟩
theorem t_Person_levelOfEnrolled_B25 {T : Nat → Nat} {S : AS} (hT : TI T S) {x0 : Option Nat} {x1 : Int32} {x2 : Int32} {k4 : AS → Option Nat → Int32 → Int32 → Option (Int32 × AS)} {n4 : Nat} (hk4 : ∀ (z0 : Option Nat) (z1 : Int32) (z2 : Int32), Tx T 13 z0 → In 0 3 z2 → (3 + 1 : Int) ≤ z2.toInt + (n4 : Int) → Ho (k4 S z0 z1 z2) (fun q => q.2 = S ∧ True)) (hm4 : (3 + 1 : Int) ≤ x2.toInt + ((n4 + 1 : Nat) : Int)) (h_x0 : Tx T 13 x0) (h_x2 : In 0 2 x2) : Ho (f_Person_levelOfEnrolled_B25 k4 S x0 x1 x2) (fun q => q.2 = S ∧ True) := by
  unfold f_Person_levelOfEnrolled_B25
  refine r_val ?_
  generalize ei1 : (x2 + (1 : Int32)) = i1
  have qi1 : In 1 3 i1 := by rw [← ei1]; exact (In_w (In_add h_x2 (by decide : In 1 1 (1 : Int32)) (by decide) (by decide)) (by decide) (by decide) : In 1 3 (x2 + (1 : Int32)))
  exact hk4  x0 x1 i1  h_x0 (In_w qi1 (by decide) (by decide))  (by rw [← ei1, toInt_add1 h_x2 (by decide) (by decide)]; omega)
theorem t_Person_levelOfEnrolled_C4 {T : Nat → Nat} {S : AS} (hT : TI T S) {x0 : Option Nat} {x1 : Int32} {x2 : Int32} {k4 : AS → Option Nat → Int32 → Int32 → Option (Int32 × AS)} {n4 : Nat} (hk4 : ∀ (z0 : Option Nat) (z1 : Int32) (z2 : Int32), Tx T 13 z0 → In 0 3 z2 → (3 + 1 : Int) ≤ z2.toInt + (n4 : Int) → Ho (k4 S z0 z1 z2) (fun q => q.2 = S ∧ True)) (hm4 : (3 + 1 : Int) ≤ x2.toInt + ((n4 + 1 : Nat) : Int)) (h_x0 : Tx T 13 x0) (h_x2 : In 0 3 x2) : Ho (f_Person_levelOfEnrolled_C4 k4 S x0 x1 x2) (fun q => q.2 = S ∧ True) := by
  unfold f_Person_levelOfEnrolled_C4
  refine r_if (fun c1 => ?_) (fun c1 => ?_)
  · have q2 : In 3 3 x2 := In_w (In_le2 c1 (by decide : In 3 3 (3 : Int32)) h_x2) (by decide) (by decide)
    exact r_some ⟨rfl, trivial⟩
  · have q3 : In 0 2 x2 := In_w (In_lt1 (Int32.not_le.mp c1) h_x2 (by decide : In 3 3 (3 : Int32))) (by decide) (by decide)
    refine r_gR hT h_x0 rfl rfl (fun v2 h4 => ?_)
    refine r_aI hT h4 rfl rfl (In_w q3 (by decide) (by decide) : In 0 2 x2) (by decide) (fun v3 b5 => ?_)
    refine r_if (fun c6 => ?_) (fun c6 => ?_)
    · have q7 : In 0 0 v3 := In_w (In_eq c6 (by decide : In 0 0 (0 : Int32))) (by decide) (by decide)
      exact t_Person_levelOfEnrolled_B25 hT hk4 hm4 h_x0 (In_w q3 (by decide) (by decide)) 
    · refine r_P (P := fun _ => True) (hO_and (t_Shown_weightOf hT _)) (fun v5 _ => ?_)
      refine r_val ?_
      generalize ei6 : (x1 + v5) = i6
      exact t_Person_levelOfEnrolled_B25 hT hk4 hm4 h_x0 (In_w q3 (by decide) (by decide)) 
theorem t_Person_levelOfEnrolled_L4 {T : Nat → Nat} {S : AS} (hT : TI T S) : ∀ (n : Nat) (x0 : Option Nat) (x1 : Int32) (x2 : Int32), Tx T 13 x0 → In 0 3 x2 → (3 + 1 : Int) ≤ x2.toInt + (n : Int) → Ho (f_Person_levelOfEnrolled_L4  n S x0 x1 x2) (fun q => q.2 = S ∧ True) := by
  intro n
  induction n with
  | zero =>
    intro x0 x1 x2 h_x0 h_x2 hm
    exact absurd hm (by have := h_x2.2; omega)
  | succ n ih =>
    intro x0 x1 x2 h_x0 h_x2 hm
    exact t_Person_levelOfEnrolled_C4 hT  (fun z0 z1 z2 a_h_x0 a_h_x2 am => ih z0 z1 z2 a_h_x0 a_h_x2 am) hm h_x0 h_x2 
theorem t_Person_levelOfEnrolled {T : Nat → Nat} {S : AS} (hT : TI T S) {a0 : Option Nat} (h_a0 : Tx T 13 a0) : Ho (f_Person_levelOfEnrolled  S a0) (fun q => q.2 = S ∧ True) := by
  unfold f_Person_levelOfEnrolled
  exact t_Person_levelOfEnrolled_L4 hT   kr_FU  a0 (0 : Int32) (0 : Int32)  h_a0 (In_w (by decide : In 0 0 (0 : Int32)) (by decide) (by decide))  (by decide)
theorem t_Person_loseFactors_C2 {T : Nat → Nat} {S0 S : AS} (g : Rl T kw_K9 S0 0 0 T S) {x0 : Option Nat} {x1 : Int32} {k2 : AS → Option Nat → Int32 → Option AS} {n2 : Nat} (hk2 : ∀ (S' : AS) (z0 : Option Nat) (z1 : Int32), Rl T kw_K9 S0 0 0 T S' → Tx T 13 z0 → In 0 3 z1 → (3 + 1 : Int) ≤ z1.toInt + (n2 : Int) → Ho (k2 S' z0 z1) (fun q => Rl T kw_K9 S0 0 0 T q)) (hm2 : (3 + 1 : Int) ≤ x1.toInt + ((n2 + 1 : Nat) : Int)) (h_x0 : Tx T 13 x0) (h_x1 : In 0 3 x1) : Ho (f_Person_loseFactors_C2 k2 S x0 x1) (fun q => Rl T kw_K9 S0 0 0 T q) := by
  unfold f_Person_loseFactors_C2
  refine r_if (fun c1 => ?_) (fun c1 => ?_)
  · have q2 : In 3 3 x1 := In_w (In_le2 c1 (by decide : In 3 3 (3 : Int32)) h_x1) (by decide) (by decide)
    exact r_some (Rlweak g (by decide +kernel) (by decide) (by decide))
  · have q3 : In 0 2 x1 := In_w (In_lt1 (Int32.not_le.mp c1) h_x1 (by decide : In 3 3 (3 : Int32))) (by decide) (by decide)
    refine r_gR g.1 h_x0 rfl rfl (fun v1 h4 => ?_)
    refine r_bI (w' := kw_K9) g h4 rfl rfl (In_w q3 (by decide) (by decide) : In 0 2 x1) (by decide) (fun _ _ _ q => by cases q) (fun _ => rfl) (by decide) (by decide +kernel) (fun _ => by unfold phc; omega) (fun s5 g6 => ?_)
    refine r_val ?_
    generalize ei3 : (x1 + (1 : Int32)) = i3
    have qi3 : In 1 3 i3 := by rw [← ei3]; exact (In_w (In_add q3 (by decide : In 1 1 (1 : Int32)) (by decide) (by decide)) (by decide) (by decide) : In 1 3 (x1 + (1 : Int32)))
    exact hk2 s5 x0 i3 (Rlweak g6 (by decide +kernel) (by decide) (by decide)) h_x0 (In_w qi3 (by decide) (by decide))  (by rw [← ei3, toInt_add1 q3 (by decide) (by decide)]; omega)
theorem t_Person_loseFactors_L2 {T : Nat → Nat} {S0 : AS} : ∀ (n : Nat) (S : AS) (x0 : Option Nat) (x1 : Int32), Rl T kw_K9 S0 0 0 T S → Tx T 13 x0 → In 0 3 x1 → (3 + 1 : Int) ≤ x1.toInt + (n : Int) → Ho (f_Person_loseFactors_L2  n S x0 x1) (fun q => Rl T kw_K9 S0 0 0 T q) := by
  intro n
  induction n with
  | zero =>
    intro S x0 x1 g h_x0 h_x1 hm
    exact absurd hm (by have := h_x1.2; omega)
  | succ n ih =>
    intro S x0 x1 g h_x0 h_x1 hm
    exact t_Person_loseFactors_C2 g  (fun S' z0 z1 g' a_h_x0 a_h_x1 am => ih S' z0 z1 g' a_h_x0 a_h_x1 am) hm h_x0 h_x1 
theorem t_Person_loseFactors {T : Nat → Nat} {S : AS} (hT : TI T S) {a0 : Option Nat} (h_a0 : Tx T 13 a0) : Ho (f_Person_loseFactors  S a0) (fun q => Rl T kw_K9 S 0 0 T q) := by
  have g0 := Rlrf hT
  unfold f_Person_loseFactors
  exact t_Person_loseFactors_L2   kr_FU S a0 (0 : Int32) (Rlweak g0 (by decide +kernel) (by decide) (by decide)) h_a0 (In_w (by decide : In 0 0 (0 : Int32)) (by decide) (by decide))  (by decide)
theorem t_Audit_totalOfFirst_C5 {T : Nat → Nat} {S : AS} (hT : TI T S) {x0 : Option Nat} {x1 : Int32} {x2 : Int32} {x3 : Int32} {k5 : AS → Option Nat → Int32 → Int32 → Int32 → Option (Int32 × AS)} {n5 : Nat} (hk5 : ∀ (z0 : Option Nat) (z1 : Int32) (z2 : Int32) (z3 : Int32), Tx T 2 z0 → In 0 1024 z1 → In 0 1024 z3 → (1024 + 1 : Int) ≤ z3.toInt + (n5 : Int) → Ho (k5 S z0 z1 z2 z3) (fun q => q.2 = S ∧ True)) (hm5 : (1024 + 1 : Int) ≤ x3.toInt + ((n5 + 1 : Nat) : Int)) (h_x0 : Tx T 2 x0) (h_x1 : In 0 1024 x1) (h_x3 : In 0 1024 x3) : Ho (f_Audit_totalOfFirst_C5 k5 S x0 x1 x2 x3) (fun q => q.2 = S ∧ True) := by
  unfold f_Audit_totalOfFirst_C5
  refine r_if (fun c1 => ?_) (fun c1 => ?_)
  · exact r_some ⟨rfl, trivial⟩
  · have q2 : In 0 1023 x3 := In_w (In_lt1 (Int32.not_le.mp c1) h_x3 h_x1) (by decide) (by decide)
    have q3 : In 1 1024 x1 := In_w (In_lt2 (Int32.not_le.mp c1) h_x3 h_x1) (by decide) (by decide)
    refine r_rv hT h_x0 rfl ?_
    refine r_P (P := fun v => True) (t_Audit_totalWith hT h_x0) (fun v3 h4 => ?_)
    refine r_val ?_
    generalize ei4 : (x3 + (1 : Int32)) = i4
    have qi4 : In 1 1024 i4 := by rw [← ei4]; exact (In_w (In_add q2 (by decide : In 1 1 (1 : Int32)) (by decide) (by decide)) (by decide) (by decide) : In 1 1024 (x3 + (1 : Int32)))
    exact hk5  x0 x1 v3 i4  h_x0 (In_w q3 (by decide) (by decide)) (In_w qi4 (by decide) (by decide))  (by rw [← ei4, toInt_add1 q2 (by decide) (by decide)]; omega)
theorem t_Audit_totalOfFirst_L5 {T : Nat → Nat} {S : AS} (hT : TI T S) : ∀ (n : Nat) (x0 : Option Nat) (x1 : Int32) (x2 : Int32) (x3 : Int32), Tx T 2 x0 → In 0 1024 x1 → In 0 1024 x3 → (1024 + 1 : Int) ≤ x3.toInt + (n : Int) → Ho (f_Audit_totalOfFirst_L5  n S x0 x1 x2 x3) (fun q => q.2 = S ∧ True) := by
  intro n
  induction n with
  | zero =>
    intro x0 x1 x2 x3 h_x0 h_x1 h_x3 hm
    exact absurd hm (by have := h_x3.2; omega)
  | succ n ih =>
    intro x0 x1 x2 x3 h_x0 h_x1 h_x3 hm
    exact t_Audit_totalOfFirst_C5 hT  (fun z0 z1 z2 z3 a_h_x0 a_h_x1 a_h_x3 am => ih z0 z1 z2 z3 a_h_x0 a_h_x1 a_h_x3 am) hm h_x0 h_x1 h_x3 
theorem t_Audit_totalOfFirst {T : Nat → Nat} {S : AS} (hT : TI T S) {a0 : Option Nat} {a1 : Int32} (h_a0 : Tx T 2 a0) (h_a1 : In 0 1024 a1) : Ho (f_Audit_totalOfFirst  S a0 a1) (fun q => q.2 = S ∧ True) := by
  unfold f_Audit_totalOfFirst
  exact t_Audit_totalOfFirst_L5 hT   kr_FU  a0 a1 (7 : Int32) (0 : Int32)  h_a0 (In_w h_a1 (by decide) (by decide)) (In_w (by decide : In 0 0 (0 : Int32)) (by decide) (by decide))  (by decide)
theorem t_K_turnKeys_B44 {T : Nat → Nat} {S0 S : AS} (g : Rl T kw_K30 S0 0 0 T S) {x0 : Option Nat} (h_x0 : Tx T 1 x0) : Ho (f_K_turnKeys_B44  S x0) (fun q => Rl T kw_K31 S0 0 0 T q) := by
  unfold f_K_turnKeys_B44
  refine r_gR g.1 h_x0 rfl rfl (fun v1 h1 => ?_)
  refine r_gIe g.1 h_x0 rfl (fun v2 b2 e3 => ?_)
  refine r_rv g.1 h1 rfl ?_
  refine r_bind (t_Keyring_retire g.1 h1) (fun s4 h5 => ?_)
  have g6 : Rl T kw_K31 S0 0 0 T s4 := Rltrans g h5 (by decide +kernel)
  exact r_some (Rlweak g6 (by decide +kernel) (by decide) (by decide))
theorem t_K_turnKeys {T : Nat → Nat} {S : AS} (hT : TI T S) {a0 : Option Nat} (h_a0 : Tx T 1 a0) : Ho (f_K_turnKeys  S a0) (fun q => Rl T kw_K31 S 0 0 T q) := by
  have g0 := Rlrf hT
  unfold f_K_turnKeys
  refine r_gR g0.1 h_a0 rfl rfl (fun v5 h1 => ?_)
  refine r_gIe g0.1 h_a0 rfl (fun v6 b2 e3 => ?_)
  refine r_rv g0.1 h1 rfl ?_
  refine r_P (P := fun v => In 0 1 v) (t_Keyring_isDueToSign g0.1 h1) (fun v9 h4 => ?_)
  refine r_if (fun c5 => ?_) (fun c5 => ?_)
  · have q6 : In 0 0 v9 := In_w (In_eq c5 (by decide : In 0 0 (0 : Int32))) (by decide) (by decide)
    exact t_K_turnKeys_B44 (Rlweak g0 (by decide +kernel) (by decide) (by decide))  h_a0 
  · have q7 : In 1 1 v9 := In_w (In_neL c5 h4 (by decide)) (by decide) (by decide)
    refine r_gR g0.1 h_a0 rfl rfl (fun v10 h8 => ?_)
    refine r_gIe g0.1 h_a0 rfl (fun v11 b9 e10 => ?_)
    refine r_rv g0.1 h8 rfl ?_
    refine r_bind (t_Keyring_putWaitingToSign g0.1 h8) (fun s11 h12 => ?_)
    have g13 : Rl T kw_K2 S 0 0 T s11 := Rltrans g0 h12 (by decide +kernel)
    refine r_gR g13.1 h_a0 rfl rfl (fun v14 h14 => ?_)
    refine r_gR g13.1 h_a0 rfl rfl (fun v15 h15 => ?_)
    refine r_gIe g13.1 h15 rfl (fun v16 b16 e17 => ?_)
    refine r_gIe g13.1 h_a0 rfl (fun v17 b18 e19 => ?_)
    refine r_rv g13.1 h14 rfl ?_
    refine r_bind (t_Audit_write g13.1 h14) (fun s20 h21 => ?_)
    have g22 : Rl T kw_K30 S 0 0 T s20 := Rltrans g13 h21 (by decide +kernel)
    exact t_K_turnKeys_B44 (Rlweak g22 (by decide +kernel) (by decide) (by decide))  h_a0 
theorem t_K_markEnded {T : Nat → Nat} {S : AS} (hT : TI T S) {a0 : Option Nat} {a1 : Option Nat} (h_a0 : Tx T 1 a0) (h_a1 : Tx T 43 a1) : Ho (f_K_markEnded  S a0 a1) (fun q => Rl T kw_K34 S 0 0 T q) := by
  have g0 := Rlrf hT
  unfold f_K_markEnded
  refine r_pZ (w' := kw_K32) g0 h_a1 rfl (by decide) (In_w (by decide : In 0 0 (0 : Int32)) (by decide) (by decide)) (fun _ _ q => by cases q; exact (In_w (by decide : In 0 0 (0 : Int32)) (by decide) (by decide))) rfl (by decide) (by decide +kernel) (by unfold phc; decide) (fun s1 g2 => ?_)
  refine r_gIe g2.1 h_a0 rfl (fun v2 b3 e4 => ?_)
  refine r_pI (w' := kw_K33) g2 h_a0 rfl (by decide) (fun _ _ q => by cases q) rfl (by decide) (by decide +kernel) (by unfold phc; decide) (fun s5 g6 => ?_)
  refine r_gR g6.1 h_a0 rfl rfl (fun v4 h7 => ?_)
  refine r_gIe g6.1 h_a1 rfl (fun v5 b8 e9 => ?_)
  refine r_gIe g6.1 h_a0 rfl (fun v6 b10 e11 => ?_)
  refine r_rv g6.1 h7 rfl ?_
  refine r_bind (t_Audit_write g6.1 h7) (fun s12 h13 => ?_)
  have g14 : Rl T kw_K34 S 0 0 T s12 := Rltrans g6 h13 (by decide +kernel)
  exact r_some (Rlweak g14 (by decide +kernel) (by decide) (by decide))
theorem t_K_findService_B23_0t17 {T : Nat → Nat} {S : AS} (hT : TI T S) {y0 : Option Nat} (h_y0 : Tx T 17 y0) : Ho (f_K_findService_B23  S y0) (PT S ["java/lang/IndexOutOfBoundsException"] (fun v => Tx T 17 v)) := by
  unfold f_K_findService_B23
  refine r_ifF (Tx.ne h_y0) ?_
  exact r_some (Or.inl ⟨_, rfl, rfl, h_y0⟩)
theorem t_K_findService_B23_n0 {T : Nat → Nat} {S : AS} (hT : TI T S) : Ho (f_K_findService_B23  S none) (PT S ["java/lang/IndexOutOfBoundsException"] (fun v => Tx T 17 v)) := by
  unfold f_K_findService_B23
  refine r_ifT rfl ?_
  exact r_some (Or.inr ⟨_, rfl, rfl, by decide +kernel⟩)
theorem t_K_findService_B22 {T : Nat → Nat} {S : AS} (hT : TI T S) : Ho (f_K_findService_B22  S ) (PT S ["java/lang/IndexOutOfBoundsException"] (fun v => Tx T 17 v)) := by
  unfold f_K_findService_B22
  exact t_K_findService_B23_n0 hT   
theorem t_K_findService {T : Nat → Nat} {S : AS} (hT : TI T S) {a0 : Option Nat} {a1 : Int32} (h_a0 : Tx T 1 a0) : Ho (f_K_findService  S a0 a1) (PT S ["java/lang/IndexOutOfBoundsException"] (fun v => Tx T 17 v)) := by
  unfold f_K_findService
  refine r_if (fun c1 => ?_) (fun c1 => ?_)
  · have q2 : In (-2147483648) (-1) a1 := In_w (In_lt1 c1 (In_top a1) (by decide : In 0 0 (0 : Int32))) (by decide) (by decide)
    exact t_K_findService_B22 hT   
  · have q3 : In 0 2147483647 a1 := In_w (In_le2 (Int32.not_lt.mp c1) (by decide : In 0 0 (0 : Int32)) (In_top a1)) (by decide) (by decide)
    refine r_gR hT h_a0 rfl rfl (fun v1 h4 => ?_)
    refine r_aN hT h4 (by decide) rfl (by decide) (fun v2 q5 => ?_)
    have q5n : In 4 4 v2 := q5
    refine r_if (fun c6 => ?_) (fun c6 => ?_)
    · have q7 : In 4 2147483647 a1 := In_w (In_le2 c6 q5n q3) (by decide) (by decide)
      exact t_K_findService_B22 hT   
    · have q8 : In 0 3 a1 := In_w (In_lt1 (Int32.not_le.mp c6) q3 q5n) (by decide) (by decide)
      refine r_gR hT h_a0 rfl rfl (fun v3 h9 => ?_)
      refine r_aR (τ' := 17) hT h9 rfl rfl (In_w q8 (by decide) (by decide) : In 0 3 a1) (by decide) (by decide) (fun v4 b10 => ?_)
      exact t_K_findService_B23_0t17 hT  b10 
theorem t_K_endFamily_B53 {T : Nat → Nat} {S0 S : AS} (g : Rl T kw_K37 S0 0 0 T S) {x0 : Option Nat} {x1 : Option Nat} {x2 : Int32} {k31 : AS → Option Nat → Option Nat → Int32 → Option ((Unit ⊕ String) × AS)} {n31 : Nat} (hk31 : ∀ (S' : AS) (z0 : Option Nat) (z1 : Option Nat) (z2 : Int32), Rl T kw_K37 S0 0 0 T S' → Tx T 1 z0 → Tx T 44 z1 → In 0 4 z2 → (4 + 1 : Int) ≤ z2.toInt + (n31 : Int) → Ho (k31 S' z0 z1 z2) (PX T kw_K37 S0 0 0 [] (fun v => True))) (hm31 : (4 + 1 : Int) ≤ x2.toInt + ((n31 + 1 : Nat) : Int)) (h_x0 : Tx T 1 x0) (h_x1 : Tx T 44 x1) (h_x2 : In 0 3 x2) : Ho (f_K_endFamily_B53 k31 S x0 x1 x2) (PX T kw_K37 S0 0 0 [] (fun v => True)) := by
  unfold f_K_endFamily_B53
  refine r_val ?_
  generalize ei1 : (x2 + (1 : Int32)) = i1
  have qi1 : In 1 4 i1 := by rw [← ei1]; exact (In_w (In_add h_x2 (by decide : In 1 1 (1 : Int32)) (by decide) (by decide)) (by decide) (by decide) : In 1 4 (x2 + (1 : Int32)))
  exact hk31 S x0 x1 i1 (Rlweak g (by decide +kernel) (by decide) (by decide)) h_x0 h_x1 (In_w qi1 (by decide) (by decide))  (by rw [← ei1, toInt_add1 h_x2 (by decide) (by decide)]; omega)
theorem t_K_endFamily_C31 {T : Nat → Nat} {S0 S : AS} (g : Rl T kw_K37 S0 0 0 T S) {x0 : Option Nat} {x1 : Option Nat} {x2 : Int32} {k31 : AS → Option Nat → Option Nat → Int32 → Option ((Unit ⊕ String) × AS)} {n31 : Nat} (hk31 : ∀ (S' : AS) (z0 : Option Nat) (z1 : Option Nat) (z2 : Int32), Rl T kw_K37 S0 0 0 T S' → Tx T 1 z0 → Tx T 44 z1 → In 0 4 z2 → (4 + 1 : Int) ≤ z2.toInt + (n31 : Int) → Ho (k31 S' z0 z1 z2) (PX T kw_K37 S0 0 0 [] (fun v => True))) (hm31 : (4 + 1 : Int) ≤ x2.toInt + ((n31 + 1 : Nat) : Int)) (h_x0 : Tx T 1 x0) (h_x1 : Tx T 44 x1) (h_x2 : In 0 4 x2) : Ho (f_K_endFamily_C31 k31 S x0 x1 x2) (PX T kw_K37 S0 0 0 [] (fun v => True)) := by
  unfold f_K_endFamily_C31
  refine r_if (fun c1 => ?_) (fun c1 => ?_)
  · have q2 : In 4 4 x2 := In_w (In_le2 c1 (by decide : In 4 4 (4 : Int32)) h_x2) (by decide) (by decide)
    exact r_some ⟨(Rlweak g (by decide +kernel) (by decide) (by decide)), Or.inl ⟨_, rfl, trivial⟩⟩
  · have q3 : In 0 3 x2 := In_w (In_lt1 (Int32.not_le.mp c1) h_x2 (by decide : In 4 4 (4 : Int32))) (by decide) (by decide)
    refine r_rv g.1 h_x0 rfl ?_
    refine r_fS g.1 h_x0 (In_w q3 (by decide) (by decide)) (fun v4 h4 => ?_)
    refine r_gIe g.1 h4 rfl (fun v5 b5 e6 => ?_)
    have q7 : In 0 1 v5 := b5 _ _ rfl
    refine r_if (fun c8 => ?_) (fun c8 => ?_)
    · have q9 : In 0 0 v5 := In_w (In_eq c8 (by decide : In 0 0 (0 : Int32))) (by decide) (by decide)
      exact t_K_endFamily_B53 (Rlweak g (by decide +kernel) (by decide) (by decide)) hk31 hm31 h_x0 h_x1 (In_w q3 (by decide) (by decide)) 
    · have q10 : In 1 1 v5 := In_w (In_neL c8 q7 (by decide)) (by decide) (by decide)
      refine r_rv g.1 h_x1 rfl ?_
      refine r_b2 (t_Grant_tell g.1 h_x1) (fun v8 s12 h11 => ?_)
      obtain ⟨g13, h11r⟩ := h11
      have g14 : Rl T kw_K37 S0 0 0 T s12 := Rltrans g g13 (by decide +kernel)
      exact t_K_endFamily_B53 (Rlweak g14 (by decide +kernel) (by decide) (by decide)) hk31 hm31 h_x0 h_x1 (In_w q3 (by decide) (by decide)) 
theorem t_K_endFamily_L31 {T : Nat → Nat} {S0 : AS} : ∀ (n : Nat) (S : AS) (x0 : Option Nat) (x1 : Option Nat) (x2 : Int32), Rl T kw_K37 S0 0 0 T S → Tx T 1 x0 → Tx T 44 x1 → In 0 4 x2 → (4 + 1 : Int) ≤ x2.toInt + (n : Int) → Ho (f_K_endFamily_L31  n S x0 x1 x2) (PX T kw_K37 S0 0 0 [] (fun v => True)) := by
  intro n
  induction n with
  | zero =>
    intro S x0 x1 x2 g h_x0 h_x1 h_x2 hm
    exact absurd hm (by have := h_x2.2; omega)
  | succ n ih =>
    intro S x0 x1 x2 g h_x0 h_x1 h_x2 hm
    exact t_K_endFamily_C31 g  (fun S' z0 z1 z2 g' a_h_x0 a_h_x1 a_h_x2 am => ih S' z0 z1 z2 g' a_h_x0 a_h_x1 a_h_x2 am) hm h_x0 h_x1 h_x2 
theorem t_K_endFamily {T : Nat → Nat} {S : AS} (hT : TI T S) {a0 : Option Nat} {a1 : Option Nat} (h_a0 : Tx T 1 a0) (h_a1 : Tx T 44 a1) : Ho (f_K_endFamily  S a0 a1) (PX T kw_K37 S 0 0 [] (fun v => True)) := by
  have g0 := Rlrf hT
  unfold f_K_endFamily
  refine r_gIe g0.1 h_a1 rfl (fun v9 b1 e2 => ?_)
  have q3 : In 0 1 v9 := b1 _ _ rfl
  refine r_if (fun c4 => ?_) (fun c4 => ?_)
  · have q5 : In 0 0 v9 := In_w (In_eq c4 (by decide : In 0 0 (0 : Int32))) (by decide) (by decide)
    exact r_some ⟨(Rlweak g0 (by decide +kernel) (by decide) (by decide)), Or.inl ⟨_, rfl, trivial⟩⟩
  · have q6 : In 1 1 v9 := In_w (In_neL c4 q3 (by decide)) (by decide) (by decide)
    refine r_pZ (w' := kw_K35) g0 h_a1 rfl (by decide) (In_w (by decide : In 0 0 (0 : Int32)) (by decide) (by decide)) (fun _ _ q => by cases q; exact (In_w (by decide : In 0 0 (0 : Int32)) (by decide) (by decide))) rfl (by decide) (by decide +kernel) (by unfold phc; decide) (fun s7 g8 => ?_)
    refine r_gR g8.1 h_a0 rfl rfl (fun v11 h9 => ?_)
    refine r_gIe g8.1 h_a1 rfl (fun v12 b10 e11 => ?_)
    refine r_gIe g8.1 h_a0 rfl (fun v13 b12 e13 => ?_)
    refine r_rv g8.1 h9 rfl ?_
    refine r_bind (t_Audit_write g8.1 h9) (fun s14 h15 => ?_)
    have g16 : Rl T kw_K36 S 0 0 T s14 := Rltrans g8 h15 (by decide +kernel)
    exact t_K_endFamily_L31   kr_FU s14 a0 a1 (0 : Int32) (Rlweak g16 (by decide +kernel) (by decide) (by decide)) h_a0 h_a1 (In_w (by decide : In 0 0 (0 : Int32)) (by decide) (by decide))  (by decide)
theorem t_K_endFamiliesOf_B38 {T : Nat → Nat} {S0 S : AS} (g : Rl T kw_K37 S0 0 0 T S) {x0 : Option Nat} {x1 : Option Nat} {x2 : Int32} {k2 : AS → Option Nat → Option Nat → Int32 → Option ((Unit ⊕ String) × AS)} {n2 : Nat} (hk2 : ∀ (S' : AS) (z0 : Option Nat) (z1 : Option Nat) (z2 : Int32), Rl T kw_K37 S0 0 0 T S' → Tx T 1 z0 → Tx T 43 z1 → In 0 200 z2 → (200 + 1 : Int) ≤ z2.toInt + (n2 : Int) → Ho (k2 S' z0 z1 z2) (PX T kw_K37 S0 0 0 [] (fun v => True))) (hm2 : (200 + 1 : Int) ≤ x2.toInt + ((n2 + 1 : Nat) : Int)) (h_x0 : Tx T 1 x0) (h_x1 : Tx T 43 x1) (h_x2 : In 0 199 x2) : Ho (f_K_endFamiliesOf_B38 k2 S x0 x1 x2) (PX T kw_K37 S0 0 0 [] (fun v => True)) := by
  unfold f_K_endFamiliesOf_B38
  refine r_val ?_
  generalize ei1 : (x2 + (1 : Int32)) = i1
  have qi1 : In 1 200 i1 := by rw [← ei1]; exact (In_w (In_add h_x2 (by decide : In 1 1 (1 : Int32)) (by decide) (by decide)) (by decide) (by decide) : In 1 200 (x2 + (1 : Int32)))
  exact hk2 S x0 x1 i1 (Rlweak g (by decide +kernel) (by decide) (by decide)) h_x0 h_x1 (In_w qi1 (by decide) (by decide))  (by rw [← ei1, toInt_add1 h_x2 (by decide) (by decide)]; omega)
theorem t_K_endFamiliesOf_C2 {T : Nat → Nat} {S0 S : AS} (g : Rl T kw_K37 S0 0 0 T S) {x0 : Option Nat} {x1 : Option Nat} {x2 : Int32} {k2 : AS → Option Nat → Option Nat → Int32 → Option ((Unit ⊕ String) × AS)} {n2 : Nat} (hk2 : ∀ (S' : AS) (z0 : Option Nat) (z1 : Option Nat) (z2 : Int32), Rl T kw_K37 S0 0 0 T S' → Tx T 1 z0 → Tx T 43 z1 → In 0 200 z2 → (200 + 1 : Int) ≤ z2.toInt + (n2 : Int) → Ho (k2 S' z0 z1 z2) (PX T kw_K37 S0 0 0 [] (fun v => True))) (hm2 : (200 + 1 : Int) ≤ x2.toInt + ((n2 + 1 : Nat) : Int)) (h_x0 : Tx T 1 x0) (h_x1 : Tx T 43 x1) (h_x2 : In 0 200 x2) : Ho (f_K_endFamiliesOf_C2 k2 S x0 x1 x2) (PX T kw_K37 S0 0 0 [] (fun v => True)) := by
  unfold f_K_endFamiliesOf_C2
  refine r_gR g.1 h_x0 rfl rfl (fun v2 h1 => ?_)
  refine r_rv g.1 h1 rfl ?_
  refine r_size 4 g.1 h1 (by decide) (fun v5 e2 => ?_)
  have q3 : In 0 200 v5 := by rw [e2]; exact sizeIn (q := 4) g.1 (by decide) rfl
  refine r_if (fun c4 => ?_) (fun c4 => ?_)
  · exact r_some ⟨(Rlweak g (by decide +kernel) (by decide) (by decide)), Or.inl ⟨_, rfl, trivial⟩⟩
  · have q5 : In 0 199 x2 := In_w (In_lt1 (Int32.not_le.mp c4) h_x2 q3) (by decide) (by decide)
    have q6 : In 1 200 v5 := In_w (In_lt2 (Int32.not_le.mp c4) h_x2 q3) (by decide) (by decide)
    refine r_gR g.1 h_x0 rfl rfl (fun v6 h7 => ?_)
    refine r_rv g.1 h7 rfl ?_
    refine r_P (ho_get 4 g.1 h7 (by decide) (In_w q5 (by decide) (Int.le_refl _) : In 0 199 x2).1 (sz_lt c4 e2)) (fun v9 (h8 : Tx T 44 v9) => ?_)
    refine r_cc g.1 h8 rfl ?_
    refine r_gR g.1 h8 rfl rfl (fun v11 h9 => ?_)
    refine r_ac g.1 h9 (by decide) ?_
    refine r_ac g.1 h_x1 (by decide) ?_
    refine r_if (fun c10 => ?_) (fun c10 => ?_)
    · refine r_rv g.1 h_x0 rfl ?_
      refine r_X (t_K_endFamily g.1 h_x0 h8) (fun z16 s12 g13 h11 => ?_) (fun e _ gg he => ⟨(Rlweak (Rltrans g gg (w' := kw_K37) (by decide +kernel)) (by decide +kernel) (by decide) (by decide)), Or.inr ⟨e, rfl, ((by decide +kernel : ∀ x ∈ ([] : List String), x ∈ ([] : List String)) e he)⟩⟩)
      have g14 : Rl T kw_K37 S0 0 0 T s12 := Rltrans g g13 (by decide +kernel)
      exact t_K_endFamiliesOf_B38 (Rlweak g14 (by decide +kernel) (by decide) (by decide)) hk2 hm2 h_x0 h_x1 (In_w q5 (by decide) (by decide)) 
    · exact t_K_endFamiliesOf_B38 (Rlweak g (by decide +kernel) (by decide) (by decide)) hk2 hm2 h_x0 h_x1 (In_w q5 (by decide) (by decide))
theorem t_K_endFamiliesOf_L2 {T : Nat → Nat} {S0 : AS} : ∀ (n : Nat) (S : AS) (x0 : Option Nat) (x1 : Option Nat) (x2 : Int32), Rl T kw_K37 S0 0 0 T S → Tx T 1 x0 → Tx T 43 x1 → In 0 200 x2 → (200 + 1 : Int) ≤ x2.toInt + (n : Int) → Ho (f_K_endFamiliesOf_L2  n S x0 x1 x2) (PX T kw_K37 S0 0 0 [] (fun v => True)) := by
  intro n
  induction n with
  | zero =>
    intro S x0 x1 x2 g h_x0 h_x1 h_x2 hm
    exact absurd hm (by have := h_x2.2; omega)
  | succ n ih =>
    intro S x0 x1 x2 g h_x0 h_x1 h_x2 hm
    exact t_K_endFamiliesOf_C2 g  (fun S' z0 z1 z2 g' a_h_x0 a_h_x1 a_h_x2 am => ih S' z0 z1 z2 g' a_h_x0 a_h_x1 a_h_x2 am) hm h_x0 h_x1 h_x2 
theorem t_K_endFamiliesOf {T : Nat → Nat} {S : AS} (hT : TI T S) {a0 : Option Nat} {a1 : Option Nat} (h_a0 : Tx T 1 a0) (h_a1 : Tx T 43 a1) : Ho (f_K_endFamiliesOf  S a0 a1) (PX T kw_K37 S 0 0 [] (fun v => True)) := by
  have g0 := Rlrf hT
  unfold f_K_endFamiliesOf
  exact t_K_endFamiliesOf_L2   kr_FU S a0 a1 (0 : Int32) (Rlweak g0 (by decide +kernel) (by decide) (by decide)) h_a0 h_a1 (In_w (by decide : In 0 0 (0 : Int32)) (by decide) (by decide))  (by decide)
theorem t_K_endSession_B55 {T : Nat → Nat} {S0 S : AS} (g : Rl T kw_K38 S0 0 0 T S) {x0 : Option Nat} {x1 : Option Nat} {x2 : Int32} {k7 : AS → Option Nat → Option Nat → Int32 → Option ((Unit ⊕ String) × AS)} {n7 : Nat} (hk7 : ∀ (S' : AS) (z0 : Option Nat) (z1 : Option Nat) (z2 : Int32), Rl T kw_K38 S0 0 0 T S' → Tx T 1 z0 → Tx T 43 z1 → In 0 60 z2 → (60 + 1 : Int) ≤ z2.toInt + (n7 : Int) → Ho (k7 S' z0 z1 z2) (PX T kw_K38 S0 0 0 [] (fun v => True))) (hm7 : (60 + 1 : Int) ≤ x2.toInt + ((n7 + 1 : Nat) : Int)) (h_x0 : Tx T 1 x0) (h_x1 : Tx T 43 x1) (h_x2 : In 0 59 x2) : Ho (f_K_endSession_B55 k7 S x0 x1 x2) (PX T kw_K38 S0 0 0 [] (fun v => True)) := by
  unfold f_K_endSession_B55
  refine r_val ?_
  generalize ei1 : (x2 + (1 : Int32)) = i1
  have qi1 : In 1 60 i1 := by rw [← ei1]; exact (In_w (In_add h_x2 (by decide : In 1 1 (1 : Int32)) (by decide) (by decide)) (by decide) (by decide) : In 1 60 (x2 + (1 : Int32)))
  exact hk7 S x0 x1 i1 (Rlweak g (by decide +kernel) (by decide) (by decide)) h_x0 h_x1 (In_w qi1 (by decide) (by decide))  (by rw [← ei1, toInt_add1 h_x2 (by decide) (by decide)]; omega)
theorem t_K_endSession_C7 {T : Nat → Nat} {S0 S : AS} (g : Rl T kw_K38 S0 0 0 T S) {x0 : Option Nat} {x1 : Option Nat} {x2 : Int32} {k7 : AS → Option Nat → Option Nat → Int32 → Option ((Unit ⊕ String) × AS)} {n7 : Nat} (hk7 : ∀ (S' : AS) (z0 : Option Nat) (z1 : Option Nat) (z2 : Int32), Rl T kw_K38 S0 0 0 T S' → Tx T 1 z0 → Tx T 43 z1 → In 0 60 z2 → (60 + 1 : Int) ≤ z2.toInt + (n7 : Int) → Ho (k7 S' z0 z1 z2) (PX T kw_K38 S0 0 0 [] (fun v => True))) (hm7 : (60 + 1 : Int) ≤ x2.toInt + ((n7 + 1 : Nat) : Int)) (h_x0 : Tx T 1 x0) (h_x1 : Tx T 43 x1) (h_x2 : In 0 60 x2) : Ho (f_K_endSession_C7 k7 S x0 x1 x2) (PX T kw_K38 S0 0 0 [] (fun v => True)) := by
  unfold f_K_endSession_C7
  refine r_gR g.1 h_x0 rfl rfl (fun v2 h1 => ?_)
  refine r_rv g.1 h1 rfl ?_
  refine r_size 2 g.1 h1 (by decide) (fun v5 e2 => ?_)
  have q3 : In 0 60 v5 := by rw [e2]; exact sizeIn (q := 2) g.1 (by decide) rfl
  refine r_if (fun c4 => ?_) (fun c4 => ?_)
  · refine r_rv g.1 h_x0 rfl ?_
    refine r_X (t_K_endFamiliesOf g.1 h_x0 h_x1) (fun z8 s6 g7 h5 => ?_) (fun e _ gg he => ⟨(Rlweak (Rltrans g gg (w' := kw_K38) (by decide +kernel)) (by decide +kernel) (by decide) (by decide)), Or.inr ⟨e, rfl, ((by decide +kernel : ∀ x ∈ ([] : List String), x ∈ ([] : List String)) e he)⟩⟩)
    have g8 : Rl T kw_K38 S0 0 0 T s6 := Rltrans g g7 (by decide +kernel)
    exact r_some ⟨(Rlweak g8 (by decide +kernel) (by decide) (by decide)), Or.inl ⟨_, rfl, trivial⟩⟩
  · have q9 : In 0 59 x2 := In_w (In_lt1 (Int32.not_le.mp c4) h_x2 q3) (by decide) (by decide)
    have q10 : In 1 60 v5 := In_w (In_lt2 (Int32.not_le.mp c4) h_x2 q3) (by decide) (by decide)
    refine r_gR g.1 h_x0 rfl rfl (fun v9 h11 => ?_)
    refine r_rv g.1 h11 rfl ?_
    refine r_P (ho_get 2 g.1 h11 (by decide) (In_w q9 (by decide) (Int.le_refl _) : In 0 59 x2).1 (sz_lt c4 e2)) (fun v12 (h12 : Tx T 43 v12) => ?_)
    refine r_cc g.1 h12 rfl ?_
    refine r_gRn g.1 h12 rfl rfl ?_ (fun v14 h13 => ?_)
    · refine r_acN ?_
      refine r_ac g.1 h_x1 (by decide) ?_
      refine r_if (fun c14 => ?_) (fun c14 => ?_)
      · refine r_gIe g.1 h12 rfl (fun v17 b15 e16 => ?_)
        have q17 : In 0 1 v17 := b15 _ _ rfl
        refine r_if (fun c18 => ?_) (fun c18 => ?_)
        · have q19 : In 0 0 v17 := In_w (In_eq c18 (by decide : In 0 0 (0 : Int32))) (by decide) (by decide)
          exact t_K_endSession_B55 (Rlweak g (by decide +kernel) (by decide) (by decide)) hk7 hm7 h_x0 h_x1 (In_w q9 (by decide) (by decide)) 
        · have q20 : In 1 1 v17 := In_w (In_neL c18 q17 (by decide)) (by decide) (by decide)
          refine r_rv g.1 h_x0 rfl ?_
          refine r_bind (t_K_markEnded g.1 h_x0 h12) (fun s21 h22 => ?_)
          have g23 : Rl T kw_K38 S0 0 0 T s21 := Rltrans g h22 (by decide +kernel)
          refine r_rv g23.1 h_x0 rfl ?_
          refine r_X (t_K_endFamiliesOf g23.1 h_x0 h12) (fun z22 s25 g26 h24 => ?_) (fun e _ gg he => ⟨(Rlweak (Rltrans g23 gg (w' := kw_K38) (by decide +kernel)) (by decide +kernel) (by decide) (by decide)), Or.inr ⟨e, rfl, ((by decide +kernel : ∀ x ∈ ([] : List String), x ∈ ([] : List String)) e he)⟩⟩)
          have g27 : Rl T kw_K38 S0 0 0 T s25 := Rltrans g23 g26 (by decide +kernel)
          exact t_K_endSession_B55 (Rlweak g27 (by decide +kernel) (by decide) (by decide)) hk7 hm7 h_x0 h_x1 (In_w q9 (by decide) (by decide)) 
      · exact t_K_endSession_B55 (Rlweak g (by decide +kernel) (by decide) (by decide)) hk7 hm7 h_x0 h_x1 (In_w q9 (by decide) (by decide))
    · refine r_ac g.1 h13 (by decide) ?_
      refine r_ac g.1 h_x1 (by decide) ?_
      refine r_if (fun c28 => ?_) (fun c28 => ?_)
      · refine r_gIe g.1 h12 rfl (fun v17 b29 e30 => ?_)
        have q31 : In 0 1 v17 := b29 _ _ rfl
        refine r_if (fun c32 => ?_) (fun c32 => ?_)
        · have q33 : In 0 0 v17 := In_w (In_eq c32 (by decide : In 0 0 (0 : Int32))) (by decide) (by decide)
          exact t_K_endSession_B55 (Rlweak g (by decide +kernel) (by decide) (by decide)) hk7 hm7 h_x0 h_x1 (In_w q9 (by decide) (by decide)) 
        · have q34 : In 1 1 v17 := In_w (In_neL c32 q31 (by decide)) (by decide) (by decide)
          refine r_rv g.1 h_x0 rfl ?_
          refine r_bind (t_K_markEnded g.1 h_x0 h12) (fun s35 h36 => ?_)
          have g37 : Rl T kw_K38 S0 0 0 T s35 := Rltrans g h36 (by decide +kernel)
          refine r_rv g37.1 h_x0 rfl ?_
          refine r_X (t_K_endFamiliesOf g37.1 h_x0 h12) (fun z22 s39 g40 h38 => ?_) (fun e _ gg he => ⟨(Rlweak (Rltrans g37 gg (w' := kw_K38) (by decide +kernel)) (by decide +kernel) (by decide) (by decide)), Or.inr ⟨e, rfl, ((by decide +kernel : ∀ x ∈ ([] : List String), x ∈ ([] : List String)) e he)⟩⟩)
          have g41 : Rl T kw_K38 S0 0 0 T s39 := Rltrans g37 g40 (by decide +kernel)
          exact t_K_endSession_B55 (Rlweak g41 (by decide +kernel) (by decide) (by decide)) hk7 hm7 h_x0 h_x1 (In_w q9 (by decide) (by decide)) 
      · exact t_K_endSession_B55 (Rlweak g (by decide +kernel) (by decide) (by decide)) hk7 hm7 h_x0 h_x1 (In_w q9 (by decide) (by decide))
theorem t_K_endSession_L7 {T : Nat → Nat} {S0 : AS} : ∀ (n : Nat) (S : AS) (x0 : Option Nat) (x1 : Option Nat) (x2 : Int32), Rl T kw_K38 S0 0 0 T S → Tx T 1 x0 → Tx T 43 x1 → In 0 60 x2 → (60 + 1 : Int) ≤ x2.toInt + (n : Int) → Ho (f_K_endSession_L7  n S x0 x1 x2) (PX T kw_K38 S0 0 0 [] (fun v => True)) := by
  intro n
  induction n with
  | zero =>
    intro S x0 x1 x2 g h_x0 h_x1 h_x2 hm
    exact absurd hm (by have := h_x2.2; omega)
  | succ n ih =>
    intro S x0 x1 x2 g h_x0 h_x1 h_x2 hm
    exact t_K_endSession_C7 g  (fun S' z0 z1 z2 g' a_h_x0 a_h_x1 a_h_x2 am => ih S' z0 z1 z2 g' a_h_x0 a_h_x1 a_h_x2 am) hm h_x0 h_x1 h_x2 
theorem t_K_endSession {T : Nat → Nat} {S : AS} (hT : TI T S) {a0 : Option Nat} {a1 : Option Nat} (h_a0 : Tx T 1 a0) (h_a1 : Tx T 43 a1) : Ho (f_K_endSession  S a0 a1) (PX T kw_K38 S 0 0 [] (fun v => True)) := by
  have g0 := Rlrf hT
  unfold f_K_endSession
  refine r_rv g0.1 h_a0 rfl ?_
  refine r_bind (t_K_markEnded g0.1 h_a0 h_a1) (fun s1 h2 => ?_)
  have g3 : Rl T kw_K34 S 0 0 T s1 := Rltrans g0 h2 (by decide +kernel)
  exact t_K_endSession_L7   kr_FU s1 a0 a1 (0 : Int32) (Rlweak g3 (by decide +kernel) (by decide) (by decide)) h_a0 h_a1 (In_w (by decide : In 0 0 (0 : Int32)) (by decide) (by decide))  (by decide)
theorem t_K_endOldSessions_B56 {T : Nat → Nat} {S0 S : AS} (g : Rl T kw_K38 S0 0 0 T S) {x0 : Option Nat} {x1 : Int32} {k10 : AS → Option Nat → Int32 → Option ((Unit ⊕ String) × AS)} {n10 : Nat} (hk10 : ∀ (S' : AS) (z0 : Option Nat) (z1 : Int32), Rl T kw_K38 S0 0 0 T S' → Tx T 1 z0 → In 0 60 z1 → (60 + 1 : Int) ≤ z1.toInt + (n10 : Int) → Ho (k10 S' z0 z1) (PX T kw_K38 S0 0 0 [] (fun v => True))) (hm10 : (60 + 1 : Int) ≤ x1.toInt + ((n10 + 1 : Nat) : Int)) (h_x0 : Tx T 1 x0) (h_x1 : In 0 59 x1) : Ho (f_K_endOldSessions_B56 k10 S x0 x1) (PX T kw_K38 S0 0 0 [] (fun v => True)) := by
  unfold f_K_endOldSessions_B56
  refine r_val ?_
  generalize ei1 : (x1 + (1 : Int32)) = i1
  have qi1 : In 1 60 i1 := by rw [← ei1]; exact (In_w (In_add h_x1 (by decide : In 1 1 (1 : Int32)) (by decide) (by decide)) (by decide) (by decide) : In 1 60 (x1 + (1 : Int32)))
  exact hk10 S x0 i1 (Rlweak g (by decide +kernel) (by decide) (by decide)) h_x0 (In_w qi1 (by decide) (by decide))  (by rw [← ei1, toInt_add1 h_x1 (by decide) (by decide)]; omega)
theorem t_K_endOldSessions_C10 {T : Nat → Nat} {S0 S : AS} (g : Rl T kw_K38 S0 0 0 T S) {x0 : Option Nat} {x1 : Int32} {k10 : AS → Option Nat → Int32 → Option ((Unit ⊕ String) × AS)} {n10 : Nat} (hk10 : ∀ (S' : AS) (z0 : Option Nat) (z1 : Int32), Rl T kw_K38 S0 0 0 T S' → Tx T 1 z0 → In 0 60 z1 → (60 + 1 : Int) ≤ z1.toInt + (n10 : Int) → Ho (k10 S' z0 z1) (PX T kw_K38 S0 0 0 [] (fun v => True))) (hm10 : (60 + 1 : Int) ≤ x1.toInt + ((n10 + 1 : Nat) : Int)) (h_x0 : Tx T 1 x0) (h_x1 : In 0 60 x1) : Ho (f_K_endOldSessions_C10 k10 S x0 x1) (PX T kw_K38 S0 0 0 [] (fun v => True)) := by
  unfold f_K_endOldSessions_C10
  refine r_gR g.1 h_x0 rfl rfl (fun v2 h1 => ?_)
  refine r_rv g.1 h1 rfl ?_
  refine r_size 2 g.1 h1 (by decide) (fun v5 e2 => ?_)
  have q3 : In 0 60 v5 := by rw [e2]; exact sizeIn (q := 2) g.1 (by decide) rfl
  refine r_if (fun c4 => ?_) (fun c4 => ?_)
  · exact r_some ⟨(Rlweak g (by decide +kernel) (by decide) (by decide)), Or.inl ⟨_, rfl, trivial⟩⟩
  · have q5 : In 0 59 x1 := In_w (In_lt1 (Int32.not_le.mp c4) h_x1 q3) (by decide) (by decide)
    have q6 : In 1 60 v5 := In_w (In_lt2 (Int32.not_le.mp c4) h_x1 q3) (by decide) (by decide)
    refine r_gR g.1 h_x0 rfl rfl (fun v6 h7 => ?_)
    refine r_rv g.1 h7 rfl ?_
    refine r_P (ho_get 2 g.1 h7 (by decide) (In_w q5 (by decide) (Int.le_refl _) : In 0 59 x1).1 (sz_lt c4 e2)) (fun v9 (h8 : Tx T 43 v9) => ?_)
    refine r_cc g.1 h8 rfl ?_
    refine r_gIe g.1 h8 rfl (fun v11 b9 e10 => ?_)
    have q11 : In 0 1 v11 := b9 _ _ rfl
    refine r_if (fun c12 => ?_) (fun c12 => ?_)
    · have q13 : In 0 0 v11 := In_w (In_eq c12 (by decide : In 0 0 (0 : Int32))) (by decide) (by decide)
      exact t_K_endOldSessions_B56 (Rlweak g (by decide +kernel) (by decide) (by decide)) hk10 hm10 h_x0 (In_w q5 (by decide) (by decide)) 
    · have q14 : In 1 1 v11 := In_w (In_neL c12 q11 (by decide)) (by decide) (by decide)
      refine r_gIe g.1 h_x0 rfl (fun v12 b15 e16 => ?_)
      refine r_rv g.1 h8 rfl ?_
      refine r_P (P := fun v => In 0 1 v) (t_Session_isOldAt g.1 h8) (fun v15 h17 => ?_)
      refine r_if (fun c18 => ?_) (fun c18 => ?_)
      · have q19 : In 0 0 v15 := In_w (In_eq c18 (by decide : In 0 0 (0 : Int32))) (by decide) (by decide)
        exact t_K_endOldSessions_B56 (Rlweak g (by decide +kernel) (by decide) (by decide)) hk10 hm10 h_x0 (In_w q5 (by decide) (by decide)) 
      · have q20 : In 1 1 v15 := In_w (In_neL c18 h17 (by decide)) (by decide) (by decide)
        refine r_rv g.1 h_x0 rfl ?_
        refine r_X (t_K_endSession g.1 h_x0 h8) (fun z18 s22 g23 h21 => ?_) (fun e _ gg he => ⟨(Rlweak (Rltrans g gg (w' := kw_K38) (by decide +kernel)) (by decide +kernel) (by decide) (by decide)), Or.inr ⟨e, rfl, ((by decide +kernel : ∀ x ∈ ([] : List String), x ∈ ([] : List String)) e he)⟩⟩)
        have g24 : Rl T kw_K38 S0 0 0 T s22 := Rltrans g g23 (by decide +kernel)
        exact t_K_endOldSessions_B56 (Rlweak g24 (by decide +kernel) (by decide) (by decide)) hk10 hm10 h_x0 (In_w q5 (by decide) (by decide)) 
theorem t_K_endOldSessions_L10 {T : Nat → Nat} {S0 : AS} : ∀ (n : Nat) (S : AS) (x0 : Option Nat) (x1 : Int32), Rl T kw_K38 S0 0 0 T S → Tx T 1 x0 → In 0 60 x1 → (60 + 1 : Int) ≤ x1.toInt + (n : Int) → Ho (f_K_endOldSessions_L10  n S x0 x1) (PX T kw_K38 S0 0 0 [] (fun v => True)) := by
  intro n
  induction n with
  | zero =>
    intro S x0 x1 g h_x0 h_x1 hm
    exact absurd hm (by have := h_x1.2; omega)
  | succ n ih =>
    intro S x0 x1 g h_x0 h_x1 hm
    exact t_K_endOldSessions_C10 g  (fun S' z0 z1 g' a_h_x0 a_h_x1 am => ih S' z0 z1 g' a_h_x0 a_h_x1 am) hm h_x0 h_x1 
theorem t_K_endOldSessions {T : Nat → Nat} {S : AS} (hT : TI T S) {a0 : Option Nat} (h_a0 : Tx T 1 a0) : Ho (f_K_endOldSessions  S a0) (PX T kw_K38 S 0 0 [] (fun v => True)) := by
  have g0 := Rlrf hT
  unfold f_K_endOldSessions
  refine r_gIe g0.1 h_a0 rfl (fun v19 b1 e2 => ?_)
  refine r_if (fun c3 => ?_) (fun c3 => ?_)
  · have q4 : In 0 0 v19 := In_w (In_eq c3 (by decide : In 0 0 (0 : Int32))) (by decide) (by decide)
    exact r_some ⟨(Rlweak g0 (by decide +kernel) (by decide) (by decide)), Or.inl ⟨_, rfl, trivial⟩⟩
  · exact t_K_endOldSessions_L10   kr_FU S a0 (0 : Int32) (Rlweak g0 (by decide +kernel) (by decide) (by decide)) h_a0 (In_w (by decide : In 0 0 (0 : Int32)) (by decide) (by decide))  (by decide)
theorem t_K_pass_C38 {T : Nat → Nat} {S0 S : AS} (g : Rl T kw_K41 S0 0 0 T S) {x0 : Option Nat} {x1 : Int32} {x2 : Int32} {x3 : Int32} {k38 : AS → Option Nat → Int32 → Int32 → Int32 → Option ((Int32 ⊕ String) × AS)} {n38 : Nat} (hk38 : ∀ (S' : AS) (z0 : Option Nat) (z1 : Int32) (z2 : Int32) (z3 : Int32), Rl T kw_K41 S0 0 0 T S' → Tx T 1 z0 → In 1 600 z1 → In 0 600 z3 → (600 + 1 : Int) ≤ z3.toInt + (n38 : Int) → Ho (k38 S' z0 z1 z2 z3) (PX T kw_K41 S0 1 6 ["java/lang/IllegalArgumentException", "java/lang/IllegalStateException"] (fun v => True))) (hm38 : (600 + 1 : Int) ≤ x3.toInt + ((n38 + 1 : Nat) : Int)) (h_x0 : Tx T 1 x0) (h_x1 : In 1 600 x1) (h_x3 : In 0 600 x3) : Ho (f_K_pass_C38 k38 S x0 x1 x2 x3) (PX T kw_K41 S0 1 6 ["java/lang/IllegalArgumentException", "java/lang/IllegalStateException"] (fun v => True)) := by
  unfold f_K_pass_C38
  refine r_if (fun c1 => ?_) (fun c1 => ?_)
  · have q2 : In 1 600 x3 := In_w (In_le2 c1 h_x1 h_x3) (by decide) (by decide)
    refine r_gIe g.1 h_x0 rfl (fun v1 b3 e4 => ?_)
    exact r_some ⟨(Rlweak g (by decide +kernel) (by decide) (by decide)), Or.inl ⟨_, rfl, trivial⟩⟩
  · have q5 : In 0 599 x3 := In_w (In_lt1 (Int32.not_le.mp c1) h_x3 h_x1) (by decide) (by decide)
    refine r_gIe g.1 h_x0 rfl (fun v2 b6 e7 => ?_)
    refine r_pI (w' := kw_K41) g h_x0 rfl (by decide) (fun _ _ q => by cases q) rfl (by decide) (by decide +kernel) (by unfold phc; decide) (fun s8 g9 => ?_)
    refine r_rv g9.1 h_x0 rfl ?_
    refine r_bind (t_K_turnKeys g9.1 h_x0) (fun s10 h11 => ?_)
    have g12 : Rl T kw_K41 S0 0 0 T s10 := Rltrans g9 h11 (by decide +kernel)
    refine r_rv g12.1 h_x0 rfl ?_
    refine r_X (t_K_endOldSessions g12.1 h_x0) (fun z8 s14 g15 h13 => ?_) (fun e _ gg he => ⟨(Rlweak (Rltrans g12 gg (w' := kw_K41) (by decide +kernel)) (by decide +kernel) (by decide) (by decide)), Or.inr ⟨e, rfl, ((by decide +kernel : ∀ x ∈ ([] : List String), x ∈ (["java/lang/IllegalArgumentException", "java/lang/IllegalStateException"] : List String)) e he)⟩⟩)
    have g16 : Rl T kw_K41 S0 0 0 T s14 := Rltrans g12 g15 (by decide +kernel)
    refine r_val ?_
    generalize ei9 : (x3 + (1 : Int32)) = i9
    have qi9 : In 1 600 i9 := by rw [← ei9]; exact (In_w (In_add q5 (by decide : In 1 1 (1 : Int32)) (by decide) (by decide)) (by decide) (by decide) : In 1 600 (x3 + (1 : Int32)))
    exact hk38 s14 x0 x1 x2 i9 (Rlweak g16 (by decide +kernel) (by decide) (by decide)) h_x0 (In_w h_x1 (by decide) (by decide)) (In_w qi9 (by decide) (by decide))  (by rw [← ei9, toInt_add1 q5 (by decide) (by decide)]; omega)
theorem t_K_pass_L38 {T : Nat → Nat} {S0 : AS} : ∀ (n : Nat) (S : AS) (x0 : Option Nat) (x1 : Int32) (x2 : Int32) (x3 : Int32), Rl T kw_K41 S0 0 0 T S → Tx T 1 x0 → In 1 600 x1 → In 0 600 x3 → (600 + 1 : Int) ≤ x3.toInt + (n : Int) → Ho (f_K_pass_L38  n S x0 x1 x2 x3) (PX T kw_K41 S0 1 6 ["java/lang/IllegalArgumentException", "java/lang/IllegalStateException"] (fun v => True)) := by
  intro n
  induction n with
  | zero =>
    intro S x0 x1 x2 x3 g h_x0 h_x1 h_x3 hm
    exact absurd hm (by have := h_x3.2; omega)
  | succ n ih =>
    intro S x0 x1 x2 x3 g h_x0 h_x1 h_x3 hm
    exact t_K_pass_C38 g  (fun S' z0 z1 z2 z3 g' a_h_x0 a_h_x1 a_h_x3 am => ih S' z0 z1 z2 z3 g' a_h_x0 a_h_x1 a_h_x3 am) hm h_x0 h_x1 h_x3 
theorem t_K_pass_B28_2c0 {T : Nat → Nat} {S0 S : AS} (g : Rl T [] S0 0 0 T S) {x0 : Option Nat} {x1 : Int32} (h_x0 : Tx T 1 x0) (h_x1 : In 1 600 x1) : Ho (f_K_pass_B28  S x0 x1 (0 : Int32)) (PX T kw_K41 S0 1 6 ["java/lang/IllegalArgumentException", "java/lang/IllegalStateException"] (fun v => True)) := by
  unfold f_K_pass_B28
  refine r_rS (fun c1 => absurd rfl c1) ⟨(Rlweak (RlwX g) (by decide +kernel) (by decide) (by decide)), Or.inr ⟨_, rfl, by decide +kernel⟩⟩
theorem t_K_pass_B28_2c1 {T : Nat → Nat} {S0 S : AS} (g : Rl T [] S0 0 0 T S) {x0 : Option Nat} {x1 : Int32} (h_x0 : Tx T 1 x0) (h_x1 : In 1 600 x1) : Ho (f_K_pass_B28  S x0 x1 (1 : Int32)) (PX T kw_K41 S0 1 6 ["java/lang/IllegalArgumentException", "java/lang/IllegalStateException"] (fun v => True)) := by
  unfold f_K_pass_B28
  refine r_rS (fun c1 => ?_) ⟨(Rlweak (RlwX g) (by decide +kernel) (by decide) (by decide)), Or.inr ⟨_, rfl, by decide +kernel⟩⟩
  refine r_gIe g.1 h_x0 rfl (fun v12 b2 e3 => ?_)
  exact t_K_pass_L38   kr_FU S x0 x1 v12 (0 : Int32) (Rlweak g (by decide +kernel) (by decide) (by decide)) h_x0 (In_w h_x1 (by decide) (by decide)) (In_w (by decide : In 0 0 (0 : Int32)) (by decide) (by decide))  (by decide)
theorem t_K_pass {T : Nat → Nat} {S : AS} (hT : TI T S) {a0 : Option Nat} {a1 : Int32} (h_a0 : Tx T 1 a0) : Ho (f_K_pass  S a0 a1) (PX T kw_K41 S 1 6 ["java/lang/IllegalArgumentException", "java/lang/IllegalStateException"] (fun v => True)) := by
  have g0 := Rlrf hT
  unfold f_K_pass
  refine r_Kw (fun p1 p1b => ?_) ?_
  · have q2 : In 1 2147483647 a1 := In_w (In_le2 p1 (by decide : In 1 1 (1 : Int32)) (In_top a1)) (by decide) (by decide)
    have q3 : In 1 600 a1 := In_w (In_le1 p1b q2 (by decide : In 600 600 (600 : Int32))) (by decide) (by decide)
    refine r_rA (fun c4 => ?_) ⟨(Rlweak (RlwX g0) (by decide +kernel) (by decide) (by decide)), Or.inr ⟨_, rfl, by decide +kernel⟩⟩
    refine r_gIe g0.1 h_a0 rfl (fun v17 b5 e6 => ?_)
    refine r_if (fun c7 => ?_) (fun c7 => ?_)
    · exact t_K_pass_B28_2c0 (Rlweak g0 (by decide +kernel) (by decide) (by decide))  h_a0 (In_w q3 (by decide) (by decide))
    · exact t_K_pass_B28_2c1 (Rlweak g0 (by decide +kernel) (by decide) (by decide))  h_a0 (In_w q3 (by decide) (by decide))
  · refine r_rA (fun c8 => absurd rfl c8) ⟨(Rlweak (RlwX g0) (by decide +kernel) (by decide) (by decide)), Or.inr ⟨_, rfl, by decide +kernel⟩⟩
theorem t_K_findPerson_B23_0t13 {T : Nat → Nat} {S : AS} (hT : TI T S) {y0 : Option Nat} (h_y0 : Tx T 13 y0) : Ho (f_K_findPerson_B23  S y0) (PT S ["java/lang/IndexOutOfBoundsException"] (fun v => Tx T 13 v)) := by
  unfold f_K_findPerson_B23
  refine r_ifF (Tx.ne h_y0) ?_
  exact r_some (Or.inl ⟨_, rfl, rfl, h_y0⟩)
theorem t_K_findPerson_B23_n0 {T : Nat → Nat} {S : AS} (hT : TI T S) : Ho (f_K_findPerson_B23  S none) (PT S ["java/lang/IndexOutOfBoundsException"] (fun v => Tx T 13 v)) := by
  unfold f_K_findPerson_B23
  refine r_ifT rfl ?_
  exact r_some (Or.inr ⟨_, rfl, rfl, by decide +kernel⟩)
theorem t_K_findPerson_B22 {T : Nat → Nat} {S : AS} (hT : TI T S) : Ho (f_K_findPerson_B22  S ) (PT S ["java/lang/IndexOutOfBoundsException"] (fun v => Tx T 13 v)) := by
  unfold f_K_findPerson_B22
  exact t_K_findPerson_B23_n0 hT   
theorem t_K_findPerson {T : Nat → Nat} {S : AS} (hT : TI T S) {a0 : Option Nat} {a1 : Int32} (h_a0 : Tx T 1 a0) : Ho (f_K_findPerson  S a0 a1) (PT S ["java/lang/IndexOutOfBoundsException"] (fun v => Tx T 13 v)) := by
  unfold f_K_findPerson
  refine r_if (fun c1 => ?_) (fun c1 => ?_)
  · have q2 : In (-2147483648) (-1) a1 := In_w (In_lt1 c1 (In_top a1) (by decide : In 0 0 (0 : Int32))) (by decide) (by decide)
    exact t_K_findPerson_B22 hT   
  · have q3 : In 0 2147483647 a1 := In_w (In_le2 (Int32.not_lt.mp c1) (by decide : In 0 0 (0 : Int32)) (In_top a1)) (by decide) (by decide)
    refine r_gR hT h_a0 rfl rfl (fun v1 h4 => ?_)
    refine r_aN hT h4 (by decide) rfl (by decide) (fun v2 q5 => ?_)
    have q5n : In 6 6 v2 := q5
    refine r_if (fun c6 => ?_) (fun c6 => ?_)
    · have q7 : In 6 2147483647 a1 := In_w (In_le2 c6 q5n q3) (by decide) (by decide)
      exact t_K_findPerson_B22 hT   
    · have q8 : In 0 5 a1 := In_w (In_lt1 (Int32.not_le.mp c6) q3 q5n) (by decide) (by decide)
      refine r_gR hT h_a0 rfl rfl (fun v3 h9 => ?_)
      refine r_aR (τ' := 13) hT h9 rfl rfl (In_w q8 (by decide) (by decide) : In 0 5 a1) (by decide) (by decide) (fun v4 b10 => ?_)
      exact t_K_findPerson_B23_0t13 hT  b10 
theorem t_K_enroll {T : Nat → Nat} {S : AS} (hT : TI T S) {a0 : Option Nat} {a1 : Int32} {a2 : Int32} (h_a0 : Tx T 1 a0) : Ho (f_K_enroll  S a0 a1 a2) (PX T kw_K11 S 1 6 ["java/lang/IllegalArgumentException", "java/lang/IndexOutOfBoundsException"] (fun v => True)) := by
  have g0 := Rlrf hT
  unfold f_K_enroll
  refine r_rv g0.1 h_a0 rfl ?_
  refine r_T (t_K_findPerson g0.1 h_a0) (fun v3 h1 => ?_) (fun e he => ⟨(Rlweak (RlwX g0) (by decide +kernel) (by decide) (by decide)), Or.inr ⟨e, rfl, ((by decide +kernel : ∀ x ∈ (["java/lang/IndexOutOfBoundsException"] : List String), x ∈ (["java/lang/IllegalArgumentException", "java/lang/IndexOutOfBoundsException"] : List String)) e he)⟩⟩)
  refine r_Kf (fun q2 => ?_) ?_
  · have q3 : In 0 2 a2 := In_w q2 (by decide) (by decide)
    refine r_rA (fun c4 => ?_) ⟨(Rlweak (RlwX g0) (by decide +kernel) (by decide) (by decide)), Or.inr ⟨_, rfl, by decide +kernel⟩⟩
    refine r_rv g0.1 h1 rfl ?_
    refine r_P (P := fun v => True) (t_Person_stateOf g0.1 h1) (fun v10 h5 => ?_)
    refine r_rv g0.1 h1 rfl ?_
    refine r_bind (t_Person_makeReady g0.1 h1) (fun s6 h7 => ?_)
    have g8 : Rl T kw_K11 S 0 0 T s6 := Rltrans g0 h7 (by decide +kernel)
    exact r_some ⟨(Rlweak g8 (by decide +kernel) (by decide) (by decide)), Or.inl ⟨_, rfl, trivial⟩⟩
  · refine r_rA (fun c9 => absurd rfl c9) ⟨(Rlweak (RlwX g0) (by decide +kernel) (by decide) (by decide)), Or.inr ⟨_, rfl, by decide +kernel⟩⟩
theorem t_K_factor {T : Nat → Nat} {S : AS} (hT : TI T S) {a0 : Option Nat} {a1 : Int32} {a2 : Int32} (h_a0 : Tx T 1 a0) : Ho (f_K_factor  S a0 a1 a2) (PT S ["java/lang/IllegalArgumentException", "java/lang/IndexOutOfBoundsException"] (fun v => True)) := by
  unfold f_K_factor
  refine r_rv hT h_a0 rfl ?_
  refine r_T (t_K_findPerson hT h_a0) (fun v3 h1 => ?_) (fun e he => Or.inr ⟨e, rfl, rfl, ((by decide +kernel : ∀ x ∈ (["java/lang/IndexOutOfBoundsException"] : List String), x ∈ (["java/lang/IllegalArgumentException", "java/lang/IndexOutOfBoundsException"] : List String)) e he)⟩)
  refine r_Kf (fun q2 => ?_) ?_
  · have q3 : In 0 2 a2 := In_w q2 (by decide) (by decide)
    refine r_rA (fun c4 => ?_) (Or.inr ⟨_, rfl, rfl, by decide +kernel⟩)
    refine r_rv hT h1 rfl ?_
    refine r_P (P := fun v => True) (t_Person_stateOf hT h1) (fun v10 h5 => ?_)
    exact r_some (Or.inl ⟨_, rfl, rfl, trivial⟩)
  · refine r_rA (fun c6 => absurd rfl c6) (Or.inr ⟨_, rfl, rfl, by decide +kernel⟩)
theorem t_K_mostFirst {T : Nat → Nat} {S : AS} (hT : TI T S) {a0 : Int32} : Ho (f_K_mostFirst  S a0) (fun q => q.2 = S ∧ In 0 20 q.1) := by
  unfold f_K_mostFirst
  refine r_if (fun c1 => ?_) (fun c1 => ?_)
  · have q2 : In 0 0 a0 := In_w (In_eq c1 (by decide : In 0 0 (0 : Int32))) (by decide) (by decide)
    exact r_some ⟨rfl, (In_w (by decide : In 2 2 (2 : Int32)) (by decide) (by decide))⟩
  · refine r_if (fun c3 => ?_) (fun c3 => ?_)
    · have q4 : In 1 1 a0 := In_w (In_eq c3 (by decide : In 1 1 (1 : Int32))) (by decide) (by decide)
      exact r_some ⟨rfl, (In_w (by decide : In 0 0 (0 : Int32)) (by decide) (by decide))⟩
    · refine r_if (fun c5 => ?_) (fun c5 => ?_)
      · have q6 : In 2 2 a0 := In_w (In_eq c5 (by decide : In 2 2 (2 : Int32))) (by decide) (by decide)
        exact r_some ⟨rfl, (In_w (by decide : In 20 20 (20 : Int32)) (by decide) (by decide))⟩
      · refine r_if (fun c7 => ?_) (fun c7 => ?_)
        · have q8 : In 3 3 a0 := In_w (In_eq c7 (by decide : In 3 3 (3 : Int32))) (by decide) (by decide)
          exact r_some ⟨rfl, (In_w (by decide : In 2 2 (2 : Int32)) (by decide) (by decide))⟩
        · refine r_if (fun c9 => ?_) (fun c9 => ?_)
          · have q10 : In 4 4 a0 := In_w (In_eq c9 (by decide : In 4 4 (4 : Int32))) (by decide) (by decide)
            exact r_some ⟨rfl, (In_w (by decide : In 6 6 (6 : Int32)) (by decide) (by decide))⟩
          · exact r_some ⟨rfl, (In_w (by decide : In 0 0 (0 : Int32)) (by decide) (by decide))⟩
theorem t_K_isNext {T : Nat → Nat} {S : AS} (hT : TI T S) {a0 : Int32} : Ho (f_K_isNext  S a0) (fun q => q.2 = S ∧ In 0 1 q.1) := by
  unfold f_K_isNext
  refine r_Kw (fun p1 p1b => ?_) ?_
  · have q2 : In (-1) 2147483647 a0 := In_w (In_le2 p1 (by decide : In (-1) (-1) (-1 : Int32)) (In_top a0)) (by decide) (by decide)
    have q3 : In (-1) 11 a0 := In_w (In_le1 p1b q2 (by decide : In 11 11 (11 : Int32))) (by decide) (by decide)
    refine r_z (In_w (by decide : In 1 1 (1 : Int32)) (by decide) (by decide)) ?_
    exact r_some ⟨rfl, (In_w (by decide : In 1 1 (1 : Int32)) (by decide) (by decide))⟩
  · refine r_z (In_w (by decide : In 0 0 (0 : Int32)) (by decide) (by decide)) ?_
    exact r_some ⟨rfl, (In_w (by decide : In 0 0 (0 : Int32)) (by decide) (by decide))⟩
theorem t_K_isStep_B71 {T : Nat → Nat} {S : AS} (hT : TI T S) : Ho (f_K_isStep_B71  S ) (fun q => q.2 = S ∧ In 0 1 q.1) := by
  unfold f_K_isStep_B71
  exact r_some ⟨rfl, (In_w (by decide : In 1 1 (1 : Int32)) (by decide) (by decide))⟩
theorem t_K_isStep_B43_4c1_5c3 {T : Nat → Nat} {S : AS} (hT : TI T S) {x0 : Int32} {x3 : Int32} {x4 : Int32} {y0 : Int32} (h_x0 : In 0 0 x0) : Ho (f_K_isStep_B43  S x0 x3 x4 y0 (1 : Int32) (3 : Int32)) (fun q => q.2 = S ∧ In 0 1 q.1) := by
  unfold f_K_isStep_B43
  refine r_Kw (fun p1 p1b => ?_) ?_
  · have q2 : In 1 2147483647 y0 := In_w (In_le2 p1 (by decide : In 1 1 (1 : Int32)) (In_top y0)) (by decide) (by decide)
    have q3 : In 1 3 y0 := In_w (In_le1 p1b q2 (by decide : In 3 3 (3 : Int32))) (by decide) (by decide)
    refine r_ifF (by decide) ?_
    refine r_if (fun c4 => ?_) (fun c4 => ?_)
    · have q5 : In 5 0 x0 := In_w (In_le2 c4 (by decide : In 5 5 (5 : Int32)) h_x0) (by decide) (by decide)
      exact absurd q5.1 (by have := q5.2; omega)
    · refine r_P (P := fun v => In 0 1 v) (t_K_isNext hT ) (fun v4 h6 => ?_)
      refine r_if (fun c7 => ?_) (fun c7 => ?_)
      · have q8 : In 0 0 v4 := In_w (In_eq c7 (by decide : In 0 0 (0 : Int32))) (by decide) (by decide)
        exact r_some ⟨rfl, (In_w (by decide : In 0 0 (0 : Int32)) (by decide) (by decide))⟩
      · have q9 : In 1 1 v4 := In_w (In_neL c7 h6 (by decide)) (by decide) (by decide)
        refine r_P (P := fun v => In 0 1 v) (t_K_isNext hT ) (fun v6 h10 => ?_)
        refine r_if (fun c11 => ?_) (fun c11 => ?_)
        · have q12 : In 0 0 v6 := In_w (In_eq c11 (by decide : In 0 0 (0 : Int32))) (by decide) (by decide)
          exact r_some ⟨rfl, (In_w (by decide : In 0 0 (0 : Int32)) (by decide) (by decide))⟩
        · have q13 : In 1 1 v6 := In_w (In_neL c11 h10 (by decide)) (by decide) (by decide)
          exact t_K_isStep_B71 hT   
  · refine r_ifT (by decide) ?_
    exact r_some ⟨rfl, (In_w (by decide : In 0 0 (0 : Int32)) (by decide) (by decide))⟩
theorem t_K_isStep_B43_4c0_5c0 {T : Nat → Nat} {S : AS} (hT : TI T S) {x0 : Int32} {x3 : Int32} {x4 : Int32} {y0 : Int32} (h_x0 : In 1 6 x0) : Ho (f_K_isStep_B43  S x0 x3 x4 y0 (0 : Int32) (0 : Int32)) (fun q => q.2 = S ∧ In 0 1 q.1) := by
  unfold f_K_isStep_B43
  refine r_Kw (fun p1 p1b => ?_) ?_
  · have q2 : In 0 2147483647 y0 := In_w (In_le2 p1 (by decide : In 0 0 (0 : Int32)) (In_top y0)) (by decide) (by decide)
    have q3 : In 0 0 y0 := In_w (In_le1 p1b q2 (by decide : In 0 0 (0 : Int32))) (by decide) (by decide)
    refine r_ifF (by decide) ?_
    refine r_if (fun c4 => ?_) (fun c4 => ?_)
    · have q5 : In 5 6 x0 := In_w (In_le2 c4 (by decide : In 5 5 (5 : Int32)) h_x0) (by decide) (by decide)
      exact t_K_isStep_B71 hT   
    · have q6 : In 1 4 x0 := In_w (In_lt1 (Int32.not_le.mp c4) h_x0 (by decide : In 5 5 (5 : Int32))) (by decide) (by decide)
      refine r_P (P := fun v => In 0 1 v) (t_K_isNext hT ) (fun v4 h7 => ?_)
      refine r_if (fun c8 => ?_) (fun c8 => ?_)
      · have q9 : In 0 0 v4 := In_w (In_eq c8 (by decide : In 0 0 (0 : Int32))) (by decide) (by decide)
        exact r_some ⟨rfl, (In_w (by decide : In 0 0 (0 : Int32)) (by decide) (by decide))⟩
      · have q10 : In 1 1 v4 := In_w (In_neL c8 h7 (by decide)) (by decide) (by decide)
        refine r_P (P := fun v => In 0 1 v) (t_K_isNext hT ) (fun v6 h11 => ?_)
        refine r_if (fun c12 => ?_) (fun c12 => ?_)
        · have q13 : In 0 0 v6 := In_w (In_eq c12 (by decide : In 0 0 (0 : Int32))) (by decide) (by decide)
          exact r_some ⟨rfl, (In_w (by decide : In 0 0 (0 : Int32)) (by decide) (by decide))⟩
        · have q14 : In 1 1 v6 := In_w (In_neL c12 h11 (by decide)) (by decide) (by decide)
          exact t_K_isStep_B71 hT   
  · refine r_ifT (by decide) ?_
    exact r_some ⟨rfl, (In_w (by decide : In 0 0 (0 : Int32)) (by decide) (by decide))⟩
theorem t_K_isStep_B34_4c1 {T : Nat → Nat} {S : AS} (hT : TI T S) {x0 : Int32} {x3 : Int32} {x4 : Int32} {y0 : Int32} (h_x0 : In 0 0 x0) : Ho (f_K_isStep_B34  S x0 x3 x4 y0 (1 : Int32)) (fun q => q.2 = S ∧ In 0 1 q.1) := by
  unfold f_K_isStep_B34
  refine r_if (fun c1 => ?_) (fun c1 => ?_)
  · exact t_K_isStep_B43_4c1_5c3 hT  (In_w h_x0 (by decide) (by decide))
  · have q2 : In 1 0 x0 := In_w (In_neL c1 h_x0 (by decide)) (by decide) (by decide)
    exact absurd q2.1 (by have := q2.2; omega)
theorem t_K_isStep_B34_4c0 {T : Nat → Nat} {S : AS} (hT : TI T S) {x0 : Int32} {x3 : Int32} {x4 : Int32} {y0 : Int32} (h_x0 : In 1 6 x0) : Ho (f_K_isStep_B34  S x0 x3 x4 y0 (0 : Int32)) (fun q => q.2 = S ∧ In 0 1 q.1) := by
  unfold f_K_isStep_B34
  refine r_if (fun c1 => ?_) (fun c1 => ?_)
  · have q2 : In 1 0 x0 := In_w (In_glb h_x0 (In_eq c1 (by decide : In 0 0 (0 : Int32)))) (by decide) (by decide)
    exact absurd q2.1 (by have := q2.2; omega)
  · exact t_K_isStep_B43_4c0_5c0 hT  (In_w h_x0 (by decide) (by decide))
theorem t_K_isStep {T : Nat → Nat} {S : AS} (hT : TI T S) {a0 : Int32} {a1 : Int32} {a2 : Int32} {a3 : Int32} {a4 : Int32} : Ho (f_K_isStep  S a0 a1 a2 a3 a4) (fun q => q.2 = S ∧ In 0 1 q.1) := by
  unfold f_K_isStep
  refine r_Kw (fun p1 p1b => ?_) ?_
  · have q2 : In 0 2147483647 a0 := In_w (In_le2 p1 (by decide : In 0 0 (0 : Int32)) (In_top a0)) (by decide) (by decide)
    have q3 : In 0 6 a0 := In_w (In_le1 p1b q2 (by decide : In 6 6 (6 : Int32))) (by decide) (by decide)
    refine r_ifF (by decide) ?_
    refine r_P (P := fun v => In 0 20 v) (t_K_mostFirst hT ) (fun v10 h4 => ?_)
    refine r_Kw (fun p5 p5b => ?_) ?_
    · have q6 : In 0 2147483647 a1 := In_w (In_le2 p5 (by decide : In 0 0 (0 : Int32)) (In_top a1)) (by decide) (by decide)
      have q7 : In 0 20 a1 := In_w (In_le1 p5b q6 h4) (by decide) (by decide)
      refine r_ifF (by decide) ?_
      refine r_if (fun c8 => ?_) (fun c8 => ?_)
      · have q9 : In 0 0 a0 := In_w (In_eq c8 (by decide : In 0 0 (0 : Int32))) (by decide) (by decide)
        exact t_K_isStep_B34_4c1 hT  (In_w q9 (by decide) (by decide)) 
      · have q10 : In 1 6 a0 := In_w (In_neL c8 q3 (by decide)) (by decide) (by decide)
        exact t_K_isStep_B34_4c0 hT  (In_w q10 (by decide) (by decide)) 
    · refine r_ifT (by decide) ?_
      exact r_some ⟨rfl, (In_w (by decide : In 0 0 (0 : Int32)) (by decide) (by decide))⟩
  · refine r_ifT (by decide) ?_
    exact r_some ⟨rfl, (In_w (by decide : In 0 0 (0 : Int32)) (by decide) (by decide))⟩
theorem t_K_step_B30_6c0 {T : Nat → Nat} {S0 S : AS} (g : Rl T [] S0 0 0 T S) {x0 : Option Nat} {x1 : Int32} {x2 : Int32} {x3 : Int32} {x4 : Int32} {x5 : Int32} (h_x0 : Tx T 1 x0) : Ho (f_K_step_B30  S x0 x1 x2 x3 x4 x5 (0 : Int32)) (PX T kw_K13 S0 1 6 ["java/lang/IllegalArgumentException", "java/lang/IllegalStateException"] (fun v => In (-1) 11 v)) := by
  unfold f_K_step_B30
  refine r_rS (fun c1 => absurd rfl c1) ⟨(Rlweak (RlwX g) (by decide +kernel) (by decide) (by decide)), Or.inr ⟨_, rfl, by decide +kernel⟩⟩
theorem t_K_step_B30_6c1 {T : Nat → Nat} {S0 S : AS} (g : Rl T [] S0 0 0 T S) {x0 : Option Nat} {x1 : Int32} {x2 : Int32} {x3 : Int32} {x4 : Int32} {x5 : Int32} (h_x0 : Tx T 1 x0) : Ho (f_K_step_B30  S x0 x1 x2 x3 x4 x5 (1 : Int32)) (PX T kw_K13 S0 1 6 ["java/lang/IllegalArgumentException", "java/lang/IllegalStateException"] (fun v => In (-1) 11 v)) := by
  unfold f_K_step_B30
  refine r_rS (fun c1 => ?_) ⟨(Rlweak (RlwX g) (by decide +kernel) (by decide) (by decide)), Or.inr ⟨_, rfl, by decide +kernel⟩⟩
  refine r_gR g.1 h_x0 rfl rfl (fun v3 h2 => ?_)
  refine r_rv g.1 h2 rfl ?_
  refine r_b2 (t_Flow_add g.1 h2) (fun v6 s4 h3 => ?_)
  obtain ⟨g5, h3r⟩ := h3
  have g6 : Rl T kw_K13 S0 0 0 T s4 := Rltrans g g5 (by decide +kernel)
  exact r_some ⟨(Rlweak g6 (by decide +kernel) (by decide) (by decide)), Or.inl ⟨_, rfl, (In_w h3r (by decide) (by decide))⟩⟩
theorem t_K_step {T : Nat → Nat} {S : AS} (hT : TI T S) {a0 : Option Nat} {a1 : Int32} {a2 : Int32} {a3 : Int32} {a4 : Int32} {a5 : Int32} (h_a0 : Tx T 1 a0) : Ho (f_K_step  S a0 a1 a2 a3 a4 a5) (PX T kw_K13 S 1 6 ["java/lang/IllegalArgumentException", "java/lang/IllegalStateException"] (fun v => In (-1) 11 v)) := by
  have g0 := Rlrf hT
  unfold f_K_step
  refine r_P (P := fun v => In 0 1 v) (t_K_isStep g0.1 ) (fun v8 h1 => ?_)
  refine r_rA (fun c2 => ?_) ⟨(Rlweak (RlwX g0) (by decide +kernel) (by decide) (by decide)), Or.inr ⟨_, rfl, by decide +kernel⟩⟩
  refine r_gR g0.1 h_a0 rfl rfl (fun v11 h3 => ?_)
  refine r_gIe g0.1 h3 rfl (fun v12 b4 e5 => ?_)
  have q6 : In 0 12 v12 := b4 _ _ rfl
  refine r_if (fun c7 => ?_) (fun c7 => ?_)
  · have q8 : In 12 12 v12 := In_w (In_le2 c7 (by decide : In 12 12 (12 : Int32)) q6) (by decide) (by decide)
    exact t_K_step_B30_6c0 (Rlweak g0 (by decide +kernel) (by decide) (by decide))  h_a0 
  · have q9 : In 0 11 v12 := In_w (In_lt1 (Int32.not_le.mp c7) q6 (by decide : In 12 12 (12 : Int32))) (by decide) (by decide)
    exact t_K_step_B30_6c1 (Rlweak g0 (by decide +kernel) (by decide) (by decide))  h_a0 
theorem t_K_clear {T : Nat → Nat} {S : AS} (hT : TI T S) {a0 : Option Nat} (h_a0 : Tx T 1 a0) : Ho (f_K_clear  S a0) (fun q => Rl T kw_K42 S 0 0 T q.2 ∧ In 0 12 q.1) := by
  have g0 := Rlrf hT
  unfold f_K_clear
  refine r_gR g0.1 h_a0 rfl rfl (fun v1 h1 => ?_)
  refine r_gIe g0.1 h1 rfl (fun v2 b2 e3 => ?_)
  have q4 : In 0 12 v2 := b2 _ _ rfl
  refine r_gR g0.1 h_a0 rfl rfl (fun v3 h5 => ?_)
  refine r_pI (w' := kw_K42) g0 h5 rfl (by decide) (fun _ _ q => by cases q; exact (In_w (by decide : In 0 0 (0 : Int32)) (by decide) (by decide))) rfl (by decide) (by decide +kernel) (by unfold phc; decide) (fun s6 g7 => ?_)
  exact r_some ⟨(Rlweak g7 (by decide +kernel) (by decide) (by decide)), (In_w q4 (by decide) (by decide))⟩
theorem t_K_publish_B55_1c1 {T0 T : Nat → Nat} {S0 S : AS} (g : Rl T0 [] S0 0 0 T S) {x0 : Option Nat} (h_x0 : Tx T 1 x0) (hfszlt0 : (sI S0 (lp 0) 2).toInt < 8) : Ho (f_K_publish_B55  S x0 (1 : Int32)) (PY T0 kw_K44 S0 7 380 ["java/lang/IllegalStateException"] (fun v T' => In (-1) 7 v)) := by
  unfold f_K_publish_B55
  refine r_rS (fun c1 => ?_) ⟨_, (Rlweak (RlwX g) (by decide +kernel) (by decide) (by decide)), Or.inr ⟨_, rfl, by decide +kernel⟩⟩
  refine r_gR g.1 h_x0 rfl rfl (fun v3 h2 => ?_)
  refine r_gR g.1 h_x0 rfl rfl (fun v4 h3 => ?_)
  refine r_rv g.1 h2 rfl ?_
  refine r_b2 (ho_add (w' := kw_K43) 0 g h2 (by decide) h3 rfl (Int.lt_of_lt_of_le (sz1 0 g (by decide) (by decide +kernel) hfszlt0) (by decide)) (by decide) (by decide +kernel)) (fun v7 s4 h8 => ?_)
  obtain ⟨T5, g6, e7, e7s⟩ := h8
  have g9 : Rl T0 kw_K43 S0 1 300 T5 s4 := g6
  have u10 := Tx.up h_x0 e7
  have u11 := Tx.up h2 e7
  have u12 := Tx.up h3 e7
  refine r_nO g9 (by decide) (fun s13 g14 r15 k16 => ?_)
  refine r_bind (ho_Flow g14 r15 ) (fun s17 h21 => ?_)
  obtain ⟨T19, g18, m20⟩ := h21
  have g22 : Rl T0 kw_K43 S0 7 380 T19 s17 := g18
  have u23 := Tx.up u10 m20.2.1
  have u24 := Tx.up u11 m20.2.1
  have u25 := Tx.up u12 m20.2.1
  refine r_pR (w' := kw_K44) g22 u23 rfl (⟨_, rfl, m20.1, by decide⟩ : Tx T19 40 (some (sN s4))) rfl rfl (by decide) (by decide) (by decide) (by decide +kernel) (fun s26 g27 => ?_)
  refine r_gR g27.1 u23 rfl rfl (fun v11 h28 => ?_)
  refine r_rv g27.1 h28 rfl ?_
  refine r_size 0 g27.1 h28 (by decide) (fun v14 e29 => ?_)
  have q30 : In 0 8 v14 := by rw [e29]; exact sizeIn (q := 0) g27.1 (by decide) rfl
  exact r_some ⟨_, (Rlweak g27 (by decide +kernel) (by decide) (by decide)), Or.inl ⟨_, rfl, (In_w (In_w (In_sub q30 (by decide : In 1 1 (1 : Int32)) (by decide) (by decide)) (by decide) (by decide) : In (-1) 7 (v14 - (1 : Int32))) (by decide) (by decide))⟩⟩
theorem t_K_publish_B55_1c0 {T0 T : Nat → Nat} {S0 S : AS} (g : Rl T0 [] S0 0 0 T S) {x0 : Option Nat} (h_x0 : Tx T 1 x0) (hfszlt0 : (sI S0 (lp 0) 2).toInt < 8) : Ho (f_K_publish_B55  S x0 (0 : Int32)) (PY T0 kw_K44 S0 7 380 ["java/lang/IllegalStateException"] (fun v T' => In (-1) 7 v)) := by
  unfold f_K_publish_B55
  refine r_rS (fun c1 => absurd rfl c1) ⟨_, (Rlweak (RlwX g) (by decide +kernel) (by decide) (by decide)), Or.inr ⟨_, rfl, by decide +kernel⟩⟩
theorem t_K_publish_B54 {T0 T : Nat → Nat} {S0 S : AS} (g : Rl T0 [] S0 0 0 T S) {x0 : Option Nat} (h_x0 : Tx T 1 x0) (hfszlt0 : (sI S0 (lp 0) 2).toInt < 8) : Ho (f_K_publish_B54  S x0) (PY T0 kw_K44 S0 7 380 ["java/lang/IllegalStateException"] (fun v T' => In (-1) 7 v)) := by
  unfold f_K_publish_B54
  exact t_K_publish_B55_1c0 (Rlweak g (by decide +kernel) (by decide) (by decide))  h_x0 (Int.lt_of_lt_of_le hfszlt0 (by decide))
theorem t_K_publish_B17_1c0 {T0 T : Nat → Nat} {S0 S : AS} (g : Rl T0 [] S0 0 0 T S) {x0 : Option Nat} (h_x0 : Tx T 1 x0) : Ho (f_K_publish_B17  S x0 (0 : Int32)) (PY T0 kw_K44 S0 7 380 ["java/lang/IllegalStateException"] (fun v T' => In (-1) 7 v)) := by
  unfold f_K_publish_B17
  refine r_rS (fun c1 => absurd rfl c1) ⟨_, (Rlweak (RlwX g) (by decide +kernel) (by decide) (by decide)), Or.inr ⟨_, rfl, by decide +kernel⟩⟩
theorem t_K_publish_B17_1c1 {T0 T : Nat → Nat} {S0 S : AS} (g : Rl T0 [] S0 0 0 T S) {x0 : Option Nat} (h_x0 : Tx T 1 x0) (hfszlt0 : (sI S0 (lp 0) 2).toInt < 8) : Ho (f_K_publish_B17  S x0 (1 : Int32)) (PY T0 kw_K44 S0 7 380 ["java/lang/IllegalStateException"] (fun v T' => In (-1) 7 v)) := by
  unfold f_K_publish_B17
  refine r_rS (fun c1 => ?_) ⟨_, (Rlweak (RlwX g) (by decide +kernel) (by decide) (by decide)), Or.inr ⟨_, rfl, by decide +kernel⟩⟩
  refine r_gR g.1 h_x0 rfl rfl (fun v17 h2 => ?_)
  refine r_gIe g.1 h2 rfl (fun v18 b3 e4 => ?_)
  have q5 : In 0 12 v18 := b3 _ _ rfl
  refine r_if (fun c6 => ?_) (fun c6 => ?_)
  · have q7 : In 0 0 v18 := In_w (In_le1 c6 q5 (by decide : In 0 0 (0 : Int32))) (by decide) (by decide)
    exact t_K_publish_B54 (Rlweak g (by decide +kernel) (by decide) (by decide))  h_x0 (Int.lt_of_lt_of_le hfszlt0 (by decide))
  · have q8 : In 1 12 v18 := In_w (In_lt2 (Int32.not_le.mp c6) (by decide : In 0 0 (0 : Int32)) q5) (by decide) (by decide)
    refine r_gR g.1 h_x0 rfl rfl (fun v19 h9 => ?_)
    refine r_rv g.1 h9 rfl ?_
    refine r_P (P := fun v => In 0 1 v) (t_Flow_hasAllNextSteps g.1 h9) (fun v22 h10 => ?_)
    refine r_if (fun c11 => ?_) (fun c11 => ?_)
    · have q12 : In 0 0 v22 := In_w (In_eq c11 (by decide : In 0 0 (0 : Int32))) (by decide) (by decide)
      exact t_K_publish_B54 (Rlweak g (by decide +kernel) (by decide) (by decide))  h_x0 (Int.lt_of_lt_of_le hfszlt0 (by decide))
    · have q13 : In 1 1 v22 := In_w (In_neL c11 h10 (by decide)) (by decide) (by decide)
      refine r_gR g.1 h_x0 rfl rfl (fun v23 h14 => ?_)
      refine r_rv g.1 h14 rfl ?_
      refine r_P (P := fun v => In 0 1 v) (t_Flow_hasLoopOfTests g.1 h14) (fun v26 h15 => ?_)
      refine r_if (fun c16 => ?_) (fun c16 => ?_)
      · have q17 : In 0 0 v26 := In_w (In_eq c16 (by decide : In 0 0 (0 : Int32))) (by decide) (by decide)
        exact t_K_publish_B55_1c1 (Rlweak g (by decide +kernel) (by decide) (by decide))  h_x0 (Int.lt_of_lt_of_le hfszlt0 (by decide))
      · have q18 : In 1 1 v26 := In_w (In_neL c16 h15 (by decide)) (by decide) (by decide)
        exact t_K_publish_B54 (Rlweak g (by decide +kernel) (by decide) (by decide))  h_x0 (Int.lt_of_lt_of_le hfszlt0 (by decide))
theorem t_K_publish {T : Nat → Nat} {S : AS} (hT : TI T S) {a0 : Option Nat} (h_a0 : Tx T 1 a0) : Ho (f_K_publish  S a0) (PY T kw_K44 S 7 380 ["java/lang/IllegalStateException"] (fun v T' => In (-1) 7 v)) := by
  have g0 := Rlrf hT
  unfold f_K_publish
  refine r_gR g0.1 h_a0 rfl rfl (fun v27 h1 => ?_)
  refine r_rv g0.1 h1 rfl ?_
  refine r_size 0 g0.1 h1 (by decide) (fun v30 e2 => ?_)
  have q3 : In 0 8 v30 := by rw [e2]; exact sizeIn (q := 0) g0.1 (by decide) rfl
  refine r_if (fun c4 => ?_) (fun c4 => ?_)
  · have q5 : In 8 8 v30 := In_w (In_le2 c4 (by decide : In 8 8 (8 : Int32)) q3) (by decide) (by decide)
    exact t_K_publish_B17_1c0 (Rlweak g0 (by decide +kernel) (by decide) (by decide))  h_a0 
  · have z6 : (sI S (lp 0) 2).toInt < (8 : Int32).toInt := sz0 0 g0 (by decide) (by decide +kernel) e2 c4
    have q7 : In 0 7 v30 := In_w (In_lt1 (Int32.not_le.mp c4) q3 (by decide : In 8 8 (8 : Int32))) (by decide) (by decide)
    exact t_K_publish_B17_1c1 (Rlweak g0 (by decide +kernel) (by decide) (by decide))  h_a0 (Int.lt_of_lt_of_le (show (sI S (lp 0) 2).toInt < 8 from z6) (by decide))
theorem t_K_weakest {T : Nat → Nat} {S : AS} (hT : TI T S) {a0 : Option Nat} {a1 : Int32} (h_a0 : Tx T 1 a0) : Ho (f_K_weakest  S a0 a1) (PY T kw_K14 S 1 12 ["java/lang/IndexOutOfBoundsException"] (fun v T' => True)) := by
  have g0 := Rlrf hT
  unfold f_K_weakest
  refine r_gR g0.1 h_a0 rfl rfl (fun v1 h1 => ?_)
  refine r_rv g0.1 h1 rfl ?_
  refine r_size 0 g0.1 h1 (by decide) (fun v4 e2 => ?_)
  have q3 : In 0 8 v4 := by rw [e2]; exact sizeIn (q := 0) g0.1 (by decide) rfl
  refine r_rI (fun p4 c5 => ?_) ⟨_, (Rlweak (RlwX g0) (by decide +kernel) (by decide) (by decide)), Or.inr ⟨_, rfl, by decide +kernel⟩⟩
  have q6 : In 0 2147483647 a1 := ⟨p4, (In_top a1).2⟩
  have q7 : In 0 7 a1 := In_w (In_lt1 c5 q6 q3) (by decide) (by decide)
  refine r_gR g0.1 h_a0 rfl rfl (fun v7 h8 => ?_)
  refine r_rv g0.1 h8 rfl ?_
  refine r_P (ho_get 0 g0.1 h8 (by decide) (In_w q7 (by decide) (Int.le_refl _) : In 0 7 a1).1 (sz_lt2 c5 e2)) (fun v10 (h9 : Tx T 40 v10) => ?_)
  refine r_cc g0.1 h9 rfl ?_
  refine r_rv g0.1 h9 rfl ?_
  refine r_b2 (t_Flow_weakestLevel g0.1 h9) (fun v14 s11 h10 => ?_)
  obtain ⟨T13, g12, h10r⟩ := h10
  have g14 : Rl T kw_K14 S 1 12 T13 s11 := Rltrans g0 g12 (by decide +kernel)
  have u15 := Tx.up h_a0 g12.ty
  have u16 := Tx.up h1 g12.ty
  have u17 := Tx.up h8 g12.ty
  have u18 := Tx.up h9 g12.ty
  exact r_some ⟨_, (Rlweak g14 (by decide +kernel) (by decide) (by decide)), Or.inl ⟨_, rfl, trivial⟩⟩
theorem t_K_points_B41_2t6 {T : Nat → Nat} {S0 S : AS} (g : Rl T [] S0 0 0 T S) {x1 : Int32} {x2 : Int32} {y0 : Option Nat} (h_x1 : In 0 2 x1) (h_y0 : Tx T 6 y0) : Ho (f_K_points_B41  S x1 x2 y0) (PX T kw_K47 S0 1 6 ["java/lang/IllegalArgumentException"] (fun v => True)) := by
  unfold f_K_points_B41
  refine r_aI g.1 h_y0 rfl rfl (In_w h_x1 (by decide) (by decide) : In 0 2 x1) (by decide) (fun v1 b1 => ?_)
  refine r_bI (w' := kw_K45) g h_y0 rfl rfl (In_w h_x1 (by decide) (by decide) : In 0 2 x1) (by decide) (fun _ _ _ q => by cases q) (fun _ => rfl) (by decide) (by decide +kernel) (fun _ => by unfold phc; omega) (fun s2 g3 => ?_)
  exact r_some ⟨(Rlweak g3 (by decide +kernel) (by decide) (by decide)), Or.inl ⟨_, rfl, trivial⟩⟩
theorem t_K_points_B41_2t7 {T : Nat → Nat} {S0 S : AS} (g : Rl T [] S0 0 0 T S) {x1 : Int32} {x2 : Int32} {y0 : Option Nat} (h_x1 : In 0 2 x1) (h_y0 : Tx T 7 y0) : Ho (f_K_points_B41  S x1 x2 y0) (PX T kw_K47 S0 1 6 ["java/lang/IllegalArgumentException"] (fun v => True)) := by
  unfold f_K_points_B41
  refine r_aI g.1 h_y0 rfl rfl (In_w h_x1 (by decide) (by decide) : In 0 2 x1) (by decide) (fun v1 b1 => ?_)
  refine r_bI (w' := kw_K46) g h_y0 rfl rfl (In_w h_x1 (by decide) (by decide) : In 0 2 x1) (by decide) (fun _ _ _ q => by cases q) (fun _ => rfl) (by decide) (by decide +kernel) (fun _ => by unfold phc; omega) (fun s2 g3 => ?_)
  exact r_some ⟨(Rlweak g3 (by decide +kernel) (by decide) (by decide)), Or.inl ⟨_, rfl, trivial⟩⟩
theorem t_K_points_B19_5c0 {T : Nat → Nat} {S0 S : AS} (g : Rl T [] S0 0 0 T S) {x0 : Option Nat} {x1 : Int32} {x2 : Int32} {x3 : Int32} {y0 : Int32} (h_x0 : Tx T 1 x0) (h_x1 : In 0 2 x1) (h_x3 : In 0 0 x3) : Ho (f_K_points_B19  S x0 x1 x2 x3 y0 (0 : Int32)) (PX T kw_K47 S0 1 6 ["java/lang/IllegalArgumentException"] (fun v => True)) := by
  unfold f_K_points_B19
  refine r_Kw (fun p1 p1b => ?_) ?_
  · have q2 : In 0 2147483647 y0 := In_w (In_le2 p1 (by decide : In 0 0 (0 : Int32)) (In_top y0)) (by decide) (by decide)
    have q3 : In 0 5 y0 := In_w (In_le1 p1b q2 (by decide : In 5 5 (5 : Int32))) (by decide) (by decide)
    refine r_rA (fun c4 => ?_) ⟨(Rlweak (RlwX g) (by decide +kernel) (by decide) (by decide)), Or.inr ⟨_, rfl, by decide +kernel⟩⟩
    refine r_if (fun c5 => ?_) (fun c5 => ?_)
    · refine r_gR g.1 h_x0 rfl rfl (fun v7 h6 => ?_)
      exact t_K_points_B41_2t6 (Rlweak g (by decide +kernel) (by decide) (by decide))  (In_w h_x1 (by decide) (by decide)) h6 
    · have q7 : In 1 0 x3 := In_w (In_neL c5 h_x3 (by decide)) (by decide) (by decide)
      exact absurd q7.1 (by have := q7.2; omega)
  · refine r_rA (fun c8 => absurd rfl c8) ⟨(Rlweak (RlwX g) (by decide +kernel) (by decide) (by decide)), Or.inr ⟨_, rfl, by decide +kernel⟩⟩
theorem t_K_points_B19_5cm1 {T : Nat → Nat} {S0 S : AS} (g : Rl T [] S0 0 0 T S) {x0 : Option Nat} {x1 : Int32} {x2 : Int32} {x3 : Int32} {y0 : Int32} (h_x0 : Tx T 1 x0) (h_x1 : In 0 2 x1) : Ho (f_K_points_B19  S x0 x1 x2 x3 y0 (-1 : Int32)) (PX T kw_K47 S0 1 6 ["java/lang/IllegalArgumentException"] (fun v => True)) := by
  unfold f_K_points_B19
  refine r_Kw (fun p1 p1b => ?_) ?_
  · have q2 : In (-1) 2147483647 y0 := In_w (In_le2 p1 (by decide : In (-1) (-1) (-1 : Int32)) (In_top y0)) (by decide) (by decide)
    have q3 : In (-1) 5 y0 := In_w (In_le1 p1b q2 (by decide : In 5 5 (5 : Int32))) (by decide) (by decide)
    refine r_rA (fun c4 => ?_) ⟨(Rlweak (RlwX g) (by decide +kernel) (by decide) (by decide)), Or.inr ⟨_, rfl, by decide +kernel⟩⟩
    refine r_if (fun c5 => ?_) (fun c5 => ?_)
    · have q6 : In 0 0 x3 := In_w (In_eq c5 (by decide : In 0 0 (0 : Int32))) (by decide) (by decide)
      refine r_gR g.1 h_x0 rfl rfl (fun v7 h7 => ?_)
      exact t_K_points_B41_2t6 (Rlweak g (by decide +kernel) (by decide) (by decide))  (In_w h_x1 (by decide) (by decide)) h7 
    · refine r_gR g.1 h_x0 rfl rfl (fun v8 h8 => ?_)
      exact t_K_points_B41_2t7 (Rlweak g (by decide +kernel) (by decide) (by decide))  (In_w h_x1 (by decide) (by decide)) h8 
  · refine r_rA (fun c9 => absurd rfl c9) ⟨(Rlweak (RlwX g) (by decide +kernel) (by decide) (by decide)), Or.inr ⟨_, rfl, by decide +kernel⟩⟩
theorem t_K_points {T : Nat → Nat} {S : AS} (hT : TI T S) {a0 : Option Nat} {a1 : Int32} {a2 : Int32} {a3 : Int32} (h_a0 : Tx T 1 a0) : Ho (f_K_points  S a0 a1 a2 a3) (PX T kw_K47 S 1 6 ["java/lang/IllegalArgumentException"] (fun v => True)) := by
  have g0 := Rlrf hT
  unfold f_K_points
  refine r_Kw (fun p1 p1b => ?_) ?_
  · have q2 : In 0 2147483647 a1 := In_w (In_le2 p1 (by decide : In 0 0 (0 : Int32)) (In_top a1)) (by decide) (by decide)
    have q3 : In 0 2 a1 := In_w (In_le1 p1b q2 (by decide : In 2 2 (2 : Int32))) (by decide) (by decide)
    refine r_rA (fun c4 => ?_) ⟨(Rlweak (RlwX g0) (by decide +kernel) (by decide) (by decide)), Or.inr ⟨_, rfl, by decide +kernel⟩⟩
    refine r_if (fun c5 => ?_) (fun c5 => ?_)
    · have q6 : In 0 0 a3 := In_w (In_eq c5 (by decide : In 0 0 (0 : Int32))) (by decide) (by decide)
      exact t_K_points_B19_5c0 (Rlweak g0 (by decide +kernel) (by decide) (by decide))  h_a0 (In_w q3 (by decide) (by decide)) (In_w q6 (by decide) (by decide)) 
    · exact t_K_points_B19_5cm1 (Rlweak g0 (by decide +kernel) (by decide) (by decide))  h_a0 (In_w q3 (by decide) (by decide))
  · refine r_rA (fun c7 => absurd rfl c7) ⟨(Rlweak (RlwX g0) (by decide +kernel) (by decide) (by decide)), Or.inr ⟨_, rfl, by decide +kernel⟩⟩
theorem t_K_pointsOf_B34 {T : Nat → Nat} {S : AS} (hT : TI T S) {x0 : Option Nat} {x1 : Int32} (h_x0 : Tx T 1 x0) (h_x1 : In 0 2 x1) : Ho (f_K_pointsOf_B34  S x0 x1) (fun q => q.2 = S ∧ True) := by
  unfold f_K_pointsOf_B34
  refine r_gR hT h_x0 rfl rfl (fun v1 h1 => ?_)
  refine r_aI hT h1 rfl rfl (In_w h_x1 (by decide) (by decide) : In 0 2 x1) (by decide) (fun v2 b2 => ?_)
  exact r_some ⟨rfl, trivial⟩
theorem t_K_pointsOf {T : Nat → Nat} {S : AS} (hT : TI T S) {a0 : Option Nat} {a1 : Int32} {a2 : Int32} (h_a0 : Tx T 1 a0) : Ho (f_K_pointsOf  S a0 a1 a2) (fun q => q.2 = S ∧ True) := by
  unfold f_K_pointsOf
  refine r_Kw (fun p1 p1b => ?_) ?_
  · have q2 : In 0 2147483647 a1 := In_w (In_le2 p1 (by decide : In 0 0 (0 : Int32)) (In_top a1)) (by decide) (by decide)
    have q3 : In 0 2 a1 := In_w (In_le1 p1b q2 (by decide : In 2 2 (2 : Int32))) (by decide) (by decide)
    refine r_ifF (by decide) ?_
    refine r_if (fun c4 => ?_) (fun c4 => ?_)
    · have q5 : In 0 0 a2 := In_w (In_eq c4 (by decide : In 0 0 (0 : Int32))) (by decide) (by decide)
      exact t_K_pointsOf_B34 hT  h_a0 (In_w q3 (by decide) (by decide)) 
    · refine r_gR hT h_a0 rfl rfl (fun v5 h6 => ?_)
      refine r_aI hT h6 rfl rfl (In_w q3 (by decide) (by decide) : In 0 2 a1) (by decide) (fun v6 b7 => ?_)
      refine r_if (fun c8 => ?_) (fun c8 => ?_)
      · have q9 : In (-1) (-1) v6 := In_w (In_eq c8 (by decide : In (-1) (-1) (-1 : Int32))) (by decide) (by decide)
        exact t_K_pointsOf_B34 hT  h_a0 (In_w q3 (by decide) (by decide)) 
      · refine r_gR hT h_a0 rfl rfl (fun v7 h10 => ?_)
        refine r_aI hT h10 rfl rfl (In_w q3 (by decide) (by decide) : In 0 2 a1) (by decide) (fun v8 b11 => ?_)
        exact r_some ⟨rfl, trivial⟩
  · refine r_ifT (by decide) ?_
    exact r_some ⟨rfl, trivial⟩
theorem t_K_riskOf_B52 {T : Nat → Nat} {S : AS} (hT : TI T S) {x0 : Option Nat} {x1 : Option Nat} {x2 : Int32} {x3 : Option Nat} {x4 : Int32} (h_x0 : Tx T 1 x0) (h_x1 : Tx T 42 x1) (h_x3 : Tx T 13 x3) : Ho (f_K_riskOf_B52  S x0 x1 x2 x3 x4) (fun q => q.2 = S ∧ True) := by
  unfold f_K_riskOf_B52
  refine r_gIe hT h_x1 rfl (fun v1 b1 e2 => ?_)
  refine r_gIe hT h_x3 rfl (fun v2 b3 e4 => ?_)
  refine r_P (P := fun v => In 0 1 v) (t_K_isIn hT ) (fun v4 h5 => ?_)
  refine r_if (fun c6 => ?_) (fun c6 => ?_)
  · have q7 : In 0 0 v4 := In_w (In_eq c6 (by decide : In 0 0 (0 : Int32))) (by decide) (by decide)
    refine r_rv hT h_x0 rfl ?_
    refine r_P (P := fun v => True) (t_K_pointsOf hT h_x0) (fun v7 h8 => ?_)
    refine r_val ?_
    generalize ei8 : (x4 + v7) = i8
    exact r_some ⟨rfl, trivial⟩
  · have q9 : In 1 1 v4 := In_w (In_neL c6 h5 (by decide)) (by decide) (by decide)
    exact r_some ⟨rfl, trivial⟩
theorem t_K_riskOf {T : Nat → Nat} {S : AS} (hT : TI T S) {a0 : Option Nat} {a1 : Option Nat} {a2 : Int32} (h_a0 : Tx T 1 a0) (h_a1 : Tx T 42 a1) : Ho (f_K_riskOf  S a0 a1 a2) (fun q => q.2 = S ∧ True) := by
  unfold f_K_riskOf
  refine r_gR hT h_a1 rfl rfl (fun v9 h1 => ?_)
  refine r_rv hT h_a0 rfl ?_
  refine r_P (P := fun v => True) (t_K_pointsOf hT h_a0) (fun v12 h2 => ?_)
  refine r_gIe hT h_a0 rfl (fun v13 b3 e4 => ?_)
  refine r_rv hT h1 rfl ?_
  refine r_P (P := fun v => In 0 3 v) (t_Person_wrongsSince hT h1) (fun v16 h5 => ?_)
  refine r_val ?_
  generalize ei17 : (v12 * v16) = i17
  refine r_gIe hT h_a1 rfl (fun v18 b6 e7 => ?_)
  refine r_gIe hT h1 rfl (fun v19 b8 e9 => ?_)
  refine r_P (P := fun v => In 0 1 v) (t_K_isIn hT ) (fun v21 h10 => ?_)
  refine r_if (fun c11 => ?_) (fun c11 => ?_)
  · have q12 : In 0 0 v21 := In_w (In_eq c11 (by decide : In 0 0 (0 : Int32))) (by decide) (by decide)
    refine r_rv hT h_a0 rfl ?_
    refine r_P (P := fun v => True) (t_K_pointsOf hT h_a0) (fun v24 h13 => ?_)
    refine r_val ?_
    generalize ei25 : (i17 + v24) = i25
    exact t_K_riskOf_B52 hT  h_a0 h_a1 h1 
  · have q14 : In 1 1 v21 := In_w (In_neL c11 h10 (by decide)) (by decide) (by decide)
    exact t_K_riskOf_B52 hT  h_a0 h_a1 h1 
theorem t_K_holds {T : Nat → Nat} {S : AS} (hT : TI T S) {a0 : Option Nat} {a1 : Option Nat} {a2 : Int32} (h_a0 : Tx T 1 a0) (h_a1 : Tx T 42 a1) : Ho (f_K_holds  S a0 a1 a2) (fun q => q.2 = S ∧ In 0 1 q.1) := by
  unfold f_K_holds
  refine r_gR hT h_a1 rfl rfl (fun v1 h1 => ?_)
  refine r_rv hT h1 rfl ?_
  refine r_P (P := fun v => True) (t_Flow_firstOf hT h1) (fun v4 h2 => ?_)
  refine r_gR hT h_a1 rfl rfl (fun v5 h3 => ?_)
  refine r_rv hT h3 rfl ?_
  refine r_P (P := fun v => True) (t_Flow_kindOf hT h3) (fun v8 h4 => ?_)
  refine r_if (fun c5 => ?_) (fun c5 => ?_)
  · have q6 : In 1 1 v8 := In_w (In_eq c5 (by decide : In 1 1 (1 : Int32))) (by decide) (by decide)
    refine r_gIe hT h_a1 rfl (fun v9 b7 e8 => ?_)
    refine r_gR hT h_a1 rfl rfl (fun v10 h9 => ?_)
    refine r_gIe hT h9 rfl (fun v11 b10 e11 => ?_)
    refine r_P (P := fun v => In 0 1 v) (t_K_isIn hT ) (fun v13 h12 => ?_)
    refine r_z (In_w h12 (by decide) (by decide)) ?_
    exact r_some ⟨rfl, (In_w h12 (by decide) (by decide))⟩
  · refine r_if (fun c13 => ?_) (fun c13 => ?_)
    · have q14 : In 2 2 v8 := In_w (In_eq c13 (by decide : In 2 2 (2 : Int32))) (by decide) (by decide)
      refine r_rv hT h_a0 rfl ?_
      refine r_P (P := fun v => True) (t_K_riskOf hT h_a0 h_a1) (fun v17 h15 => ?_)
      refine r_if (fun c16 => ?_) (fun c16 => ?_)
      · have q17 : In (-2147483648) 2147483646 v17 := In_w (In_lt1 c16 (In_top v17) (In_top v4)) (by decide) (by decide)
        have q18 : In (-2147483647) 2147483647 v4 := In_w (In_lt2 c16 (In_top v17) (In_top v4)) (by decide) (by decide)
        exact r_some ⟨rfl, (In_w (by decide : In 0 0 (0 : Int32)) (by decide) (by decide))⟩
      · exact r_some ⟨rfl, (In_w (by decide : In 1 1 (1 : Int32)) (by decide) (by decide))⟩
    · refine r_if (fun c19 => ?_) (fun c19 => ?_)
      · have q20 : In 3 3 v8 := In_w (In_eq c19 (by decide : In 3 3 (3 : Int32))) (by decide) (by decide)
        refine r_gR hT h_a1 rfl rfl (fun v18 h21 => ?_)
        refine r_rv hT h21 rfl ?_
        refine r_P (P := fun v => True) (t_Person_stateOf hT h21) (fun v21 h22 => ?_)
        refine r_if (fun c23 => ?_) (fun c23 => ?_)
        · have q24 : In 1 1 v21 := In_w (In_eq c23 (by decide : In 1 1 (1 : Int32))) (by decide) (by decide)
          exact r_some ⟨rfl, (In_w (by decide : In 1 1 (1 : Int32)) (by decide) (by decide))⟩
        · exact r_some ⟨rfl, (In_w (by decide : In 0 0 (0 : Int32)) (by decide) (by decide))⟩
      · refine r_if (fun c25 => ?_) (fun c25 => ?_)
        · have q26 : In 4 4 v8 := In_w (In_eq c25 (by decide : In 4 4 (4 : Int32))) (by decide) (by decide)
          refine r_gR hT h_a1 rfl rfl (fun v22 h27 => ?_)
          refine r_rv hT h27 rfl ?_
          refine r_P (P := fun v => True) (t_Shown_levelSince hT h27) (fun v25 h28 => ?_)
          refine r_if (fun c29 => ?_) (fun c29 => ?_)
          · have q30 : In (-2147483648) 2147483646 v25 := In_w (In_lt1 c29 (In_top v25) (In_top v4)) (by decide) (by decide)
            have q31 : In (-2147483647) 2147483647 v4 := In_w (In_lt2 c29 (In_top v25) (In_top v4)) (by decide) (by decide)
            exact r_some ⟨rfl, (In_w (by decide : In 0 0 (0 : Int32)) (by decide) (by decide))⟩
          · exact r_some ⟨rfl, (In_w (by decide : In 1 1 (1 : Int32)) (by decide) (by decide))⟩
        · exact r_some ⟨rfl, (In_w (by decide : In 0 0 (0 : Int32)) (by decide) (by decide))⟩
theorem t_K_beginSession {T : Nat → Nat} {S : AS} (hT : TI T S) {a0 : Option Nat} {a1 : Option Nat} {a2 : Option Nat} {a3 : Option Nat} (h_a0 : Tx T 1 a0) (h_a1 : Tx T 13 a1) (h_a2 : (a2 = none ∨ Tx T 43 a2)) (h_a3 : Tx T 47 a3) (hfszlt2 : (sI S (lp 2) 2).toInt < 60) : Ho (f_K_beginSession  S a0 a1 a2 a3) (fun q => ∃ T', Rl T kw_K50 S 4 343 T' q.2 ∧ In 0 60 q.1) := by
  have g0 := Rlrf hT
  unfold f_K_beginSession
  refine r_gR g0.1 h_a0 rfl rfl (fun v1 h1 => ?_)
  refine r_rv g0.1 h1 rfl ?_
  refine r_size 2 g0.1 h1 (by decide) (fun v4 e2 => ?_)
  have q3 : In 0 60 v4 := by rw [e2]; exact sizeIn (q := 2) g0.1 (by decide) rfl
  refine r_gR g0.1 h_a0 rfl rfl (fun v5 h4 => ?_)
  refine r_nO g0 (by decide) (fun s5 g6 r7 k8 => ?_)
  refine r_nO g6 (by decide) (fun s9 g10 r11 k12 => ?_)
  have r13l := r7.2.1
  have r13 := k12 19 _ r7
  refine r_bind (ho_Shown2 (w' := kw_K24) g10 r11 h_a3 (by decide +kernel)) (fun s14 h18 => ?_)
  obtain ⟨T16, g15, m17⟩ := h18
  have g19 : Rl T kw_K24 S 3 43 T16 s14 := g15
  have u20 := Tx.up h_a0 m17.2.1
  have u21 := Tx.up h_a1 m17.2.1
  have u22 := Or.imp id (fun z => Tx.up z m17.2.1) h_a2
  have u23 := Tx.up h_a3 m17.2.1
  have u24 := Tx.up h1 m17.2.1
  have u25 := Tx.up h4 m17.2.1
  have r26 := m17.2.2 19 _ (by omega) r13
  refine r_gIe g19.1 u20 rfl (fun v9 b27 e28 => ?_)
  refine r_bind (ho_Session g19 r26 u21 u22 (⟨_, rfl, m17.1, by decide⟩ : Tx T16 47 (some (sN s5)))) (fun s29 h33 => ?_)
  obtain ⟨T31, g30, m32⟩ := h33
  have g34 : Rl T kw_K24 S 3 43 T31 s29 := g30
  have u35 := Tx.up u20 m32.2.1
  have u36 := Tx.up u21 m32.2.1
  have u37 := Or.imp id (fun z => Tx.up z m32.2.1) u22
  have u38 := Tx.up u23 m32.2.1
  have u39 := Tx.up u24 m32.2.1
  have u40 := Tx.up u25 m32.2.1
  have u41 := Tx.up (⟨_, rfl, m17.1, by decide⟩ : Tx T16 47 (some (sN s5))) m32.2.1
  refine r_rv g34.1 u40 rfl ?_
  refine r_b2 (ho_add (w' := kw_K48) 2 g34 u40 (by decide) (⟨_, rfl, m32.1, by decide⟩ : Tx T31 43 (some (sN S))) rfl (Int.lt_of_lt_of_le (sz1 2 g34 (by decide) (by decide +kernel) hfszlt2) (by decide)) (by decide) (by decide +kernel)) (fun v13 s42 h46 => ?_)
  obtain ⟨T43, g44, e45, e45s⟩ := h46
  have g47 : Rl T kw_K48 S 4 343 T43 s42 := g44
  have u48 := Tx.up u35 e45
  have u49 := Tx.up u36 e45
  have u50 := Or.imp id (fun z => Tx.up z e45) u37
  have u51 := Tx.up u38 e45
  have u52 := Tx.up u39 e45
  have u53 := Tx.up u40 e45
  have u54 := Tx.up u41 e45
  have u55 := Tx.up (⟨_, rfl, m32.1, by decide⟩ : Tx T31 43 (some (sN S))) e45
  refine r_gIe g47.1 u48 rfl (fun v14 b56 e57 => ?_)
  refine r_pI (w' := kw_K49) g47 u48 rfl (by decide) (fun _ _ q => by cases q) rfl (by decide) (by decide +kernel) (by unfold phc; decide) (fun s58 g59 => ?_)
  refine r_gR g59.1 u48 rfl rfl (fun v16 h60 => ?_)
  refine r_gIe g59.1 u48 rfl (fun v17 b61 e62 => ?_)
  refine r_rv g59.1 h60 rfl ?_
  refine r_bind (t_Audit_write g59.1 h60) (fun s63 h64 => ?_)
  have g65 : Rl T kw_K50 S 4 343 T43 s63 := Rltrans g59 h64 (by decide +kernel)
  exact r_some ⟨_, (Rlweak g65 (by decide +kernel) (by decide) (by decide)), (In_w q3 (by decide) (by decide))⟩
theorem t_K_grant {T : Nat → Nat} {S : AS} (hT : TI T S) {a0 : Option Nat} {a1 : Option Nat} (h_a0 : Tx T 1 a0) (h_a1 : Tx T 42 a1) (hfszlt2 : (sI S (lp 2) 2).toInt < 60) : Ho (f_K_grant  S a0 a1) (fun q => ∃ T', Rl T kw_K54 S 4 343 T' q) := by
  have g0 := Rlrf hT
  unfold f_K_grant
  refine r_pI (w' := kw_K51) g0 h_a1 rfl (by decide) (fun _ _ q => by cases q) rfl (by decide) (by decide +kernel) (by unfold phc; decide) (fun s1 g2 => ?_)
  refine r_gR g2.1 h_a1 rfl rfl (fun v2 h3 => ?_)
  refine r_gR g2.1 h_a1 rfl rfl (fun v3 h4 => ?_)
  refine r_rv g2.1 h_a0 rfl ?_
  refine r_b2 (t_K_beginSession g2.1 h_a0 h3 (Or.inl rfl) h4 (Int.lt_of_lt_of_le (sz1 2 g2 (by decide) (by decide +kernel) hfszlt2) (by decide))) (fun v6 s6 h5 => ?_)
  obtain ⟨T8, g7, h5r⟩ := h5
  have g9 : Rl T kw_K52 S 4 343 T8 s6 := Rltrans g2 g7 (by decide +kernel)
  have u10 := Tx.up h_a0 g7.ty
  have u11 := Tx.up h_a1 g7.ty
  have u12 := Tx.up h3 g7.ty
  have u13 := Tx.up h4 g7.ty
  refine r_pI (w' := kw_K53) g9 u11 rfl (by decide) (fun _ _ q => by cases q) rfl (by decide) (by decide +kernel) (by unfold phc; decide) (fun s14 g15 => ?_)
  refine r_gR g15.1 u11 rfl rfl (fun v8 h16 => ?_)
  refine r_gIe g15.1 u11 rfl (fun v9 b17 e18 => ?_)
  refine r_gIe g15.1 u11 rfl (fun v10 b19 e20 => ?_)
  refine r_rv g15.1 h16 rfl ?_
  refine r_bind (t_Person_learn g15.1 h16) (fun s21 h22 => ?_)
  have g23 : Rl T kw_K54 S 4 343 T8 s21 := Rltrans g15 h22 (by decide +kernel)
  exact r_some ⟨_, (Rlweak g23 (by decide +kernel) (by decide) (by decide))⟩
theorem t_K_goOn_B44 {T0 T : Nat → Nat} {S0 S : AS} (g : Rl T0 [] S0 0 0 T S) {x0 : Option Nat} {x1 : Option Nat} {x3 : Int32} (h_x0 : Tx T 1 x0) (h_x1 : Tx T 42 x1) : Ho (f_K_goOn_B44  S x0 x1 x3) (fun q => ∃ T', Rl T0 kw_K55 S0 4 343 T' q) := by
  unfold f_K_goOn_B44
  refine r_gR g.1 h_x1 rfl rfl (fun v1 h1 => ?_)
  refine r_rv g.1 h1 rfl ?_
  refine r_P (P := fun v => True) (t_Flow_kindOf g.1 h1) (fun v4 h2 => ?_)
  refine r_if (fun c3 => ?_) (fun c3 => ?_)
  · have q4 : In 0 0 v4 := In_w (In_eq c3 (by decide : In 0 0 (0 : Int32))) (by decide) (by decide)
    refine r_rv g.1 h_x1 rfl ?_
    refine r_bind (t_Attempt_waitAt g.1 h_x1) (fun s5 h6 => ?_)
    have g7 : Rl T0 kw_K16 S0 0 0 T s5 := Rltrans g h6 (by decide +kernel)
    exact r_some ⟨_, (Rlweak g7 (by decide +kernel) (by decide) (by decide))⟩
  · refine r_if (fun c8 => ?_) (fun c8 => ?_)
    · have q9 : In 5 5 v4 := In_w (In_eq c8 (by decide : In 5 5 (5 : Int32))) (by decide) (by decide)
      refine r_gR g.1 h_x0 rfl rfl (fun v7 h10 => ?_)
      refine r_rv g.1 h10 rfl ?_
      refine r_size 2 g.1 h10 (by decide) (fun v10 e11 => ?_)
      have q12 : In 0 60 v10 := by rw [e11]; exact sizeIn (q := 2) g.1 (by decide) rfl
      refine r_if (fun c13 => ?_) (fun c13 => ?_)
      · have q14 : In 60 60 v10 := In_w (In_le2 c13 (by decide : In 60 60 (60 : Int32)) q12) (by decide) (by decide)
        refine r_pI (w' := kw_K51) g h_x1 rfl (by decide) (fun _ _ q => by cases q) rfl (by decide) (by decide +kernel) (by unfold phc; decide) (fun s15 g16 => ?_)
        exact r_some ⟨_, (Rlweak g16 (by decide +kernel) (by decide) (by decide))⟩
      · have z17 : (sI S0 (lp 2) 2).toInt < (60 : Int32).toInt := sz0 2 g (by decide) (by decide +kernel) e11 c13
        have q18 : In 0 59 v10 := In_w (In_lt1 (Int32.not_le.mp c13) q12 (by decide : In 60 60 (60 : Int32))) (by decide) (by decide)
        refine r_rv g.1 h_x0 rfl ?_
        refine r_bind (t_K_grant g.1 h_x0 h_x1 (Int.lt_of_lt_of_le (sz1 2 g (by decide) (by decide +kernel) (show (sI S0 (lp 2) 2).toInt < 60 from z17)) (by decide))) (fun s19 h20 => ?_)
        obtain ⟨T21, h22⟩ := h20
        have g23 : Rl T0 kw_K54 S0 4 343 T21 s19 := Rltrans g h22 (by decide +kernel)
        have u24 := Tx.up h_x0 h22.ty
        have u25 := Tx.up h_x1 h22.ty
        have u26 := Tx.up h1 h22.ty
        have u27 := Tx.up h10 h22.ty
        exact r_some ⟨_, (Rlweak g23 (by decide +kernel) (by decide) (by decide))⟩
    · refine r_pI (w' := kw_K51) g h_x1 rfl (by decide) (fun _ _ q => by cases q) rfl (by decide) (by decide +kernel) (by unfold phc; decide) (fun s28 g29 => ?_)
      exact r_some ⟨_, (Rlweak g29 (by decide +kernel) (by decide) (by decide))⟩
theorem t_K_goOn_C5 {T0 T : Nat → Nat} {S0 S : AS} (g : Rl T0 [] S0 0 0 T S) {x0 : Option Nat} {x1 : Option Nat} {x3 : Int32} {x4 : Int32} {k5 : AS → Option Nat → Option Nat → Int32 → Int32 → Option AS} {n5 : Nat} (hk5 : ∀ (S' : AS) (z0 : Option Nat) (z1 : Option Nat) (z2 : Int32) (z3 : Int32), Rl T0 [] S0 0 0 T S' → Tx T 1 z0 → Tx T 42 z1 → In 0 12 z3 → (12 + 1 : Int) ≤ z3.toInt + (n5 : Int) → Ho (k5 S' z0 z1 z2 z3) (fun q => ∃ T', Rl T0 kw_K55 S0 4 343 T' q)) (hm5 : (12 + 1 : Int) ≤ x4.toInt + ((n5 + 1 : Nat) : Int)) (h_x0 : Tx T 1 x0) (h_x1 : Tx T 42 x1) (h_x4 : In 0 12 x4) : Ho (f_K_goOn_C5 k5 S x0 x1 x3 x4) (fun q => ∃ T', Rl T0 kw_K55 S0 4 343 T' q) := by
  unfold f_K_goOn_C5
  refine r_if (fun c1 => ?_) (fun c1 => ?_)
  · have q2 : In 12 12 x4 := In_w (In_le2 c1 (by decide : In 12 12 (12 : Int32)) h_x4) (by decide) (by decide)
    exact t_K_goOn_B44 (Rlweak g (by decide +kernel) (by decide) (by decide))  h_x0 h_x1 
  · have q3 : In 0 11 x4 := In_w (In_lt1 (Int32.not_le.mp c1) h_x4 (by decide : In 12 12 (12 : Int32))) (by decide) (by decide)
    refine r_gR g.1 h_x1 rfl rfl (fun v15 h4 => ?_)
    refine r_rv g.1 h4 rfl ?_
    refine r_P (P := fun v => In 0 1 v) (t_Flow_isTest g.1 h4) (fun v18 h5 => ?_)
    refine r_if (fun c6 => ?_) (fun c6 => ?_)
    · have q7 : In 0 0 v18 := In_w (In_eq c6 (by decide : In 0 0 (0 : Int32))) (by decide) (by decide)
      exact t_K_goOn_B44 (Rlweak g (by decide +kernel) (by decide) (by decide))  h_x0 h_x1 
    · have q8 : In 1 1 v18 := In_w (In_neL c6 h5 (by decide)) (by decide) (by decide)
      refine r_gR g.1 h_x1 rfl rfl (fun v19 h9 => ?_)
      refine r_rv g.1 h_x0 rfl ?_
      refine r_P (P := fun v => In 0 1 v) (t_K_holds g.1 h_x0 h_x1) (fun v22 h10 => ?_)
      refine r_rv g.1 h9 rfl ?_
      refine r_P (P := fun v => True) (t_Flow_nextOf g.1 h9) (fun v25 h11 => ?_)
      refine r_val ?_
      generalize ei26 : (x4 + (1 : Int32)) = i26
      have qi26 : In 1 12 i26 := by rw [← ei26]; exact (In_w (In_add q3 (by decide : In 1 1 (1 : Int32)) (by decide) (by decide)) (by decide) (by decide) : In 1 12 (x4 + (1 : Int32)))
      exact hk5 S x0 x1 v25 i26 (Rlweak g (by decide +kernel) (by decide) (by decide)) h_x0 h_x1 (In_w qi26 (by decide) (by decide))  (by rw [← ei26, toInt_add1 q3 (by decide) (by decide)]; omega)
theorem t_K_goOn_L5 {T0 T : Nat → Nat} {S0 : AS} : ∀ (n : Nat) (S : AS) (x0 : Option Nat) (x1 : Option Nat) (x3 : Int32) (x4 : Int32), Rl T0 [] S0 0 0 T S → Tx T 1 x0 → Tx T 42 x1 → In 0 12 x4 → (12 + 1 : Int) ≤ x4.toInt + (n : Int) → Ho (f_K_goOn_L5  n S x0 x1 x3 x4) (fun q => ∃ T', Rl T0 kw_K55 S0 4 343 T' q) := by
  intro n
  induction n with
  | zero =>
    intro S x0 x1 x3 x4 g h_x0 h_x1 h_x4 hm
    exact absurd hm (by have := h_x4.2; omega)
  | succ n ih =>
    intro S x0 x1 x3 x4 g h_x0 h_x1 h_x4 hm
    exact t_K_goOn_C5 g  (fun S' z0 z1 z2 z3 g' a_h_x0 a_h_x1 a_h_x4 am => ih S' z0 z1 z2 z3 g' a_h_x0 a_h_x1 a_h_x4 am) hm h_x0 h_x1 h_x4 
theorem t_K_goOn {T : Nat → Nat} {S : AS} (hT : TI T S) {a0 : Option Nat} {a1 : Option Nat} {a2 : Int32} (h_a0 : Tx T 1 a0) (h_a1 : Tx T 42 a1) : Ho (f_K_goOn  S a0 a1 a2) (fun q => ∃ T', Rl T kw_K55 S 4 343 T' q) := by
  have g0 := Rlrf hT
  unfold f_K_goOn
  exact t_K_goOn_L5   kr_FU S a0 a1 a2 (0 : Int32) (Rlweak g0 (by decide +kernel) (by decide) (by decide)) h_a0 h_a1 (In_w (by decide : In 0 0 (0 : Int32)) (by decide) (by decide))  (by decide)
theorem t_K_begin_B54_4c1 {T0 T : Nat → Nat} {S0 S : AS} (g : Rl T0 [] S0 0 0 T S) {x0 : Option Nat} {x2 : Int32} {x3 : Int32} {x4 : Option Nat} (h_x0 : Tx T 1 x0) (h_x2 : In 0 5 x2) (h_x3 : In 0 5 x3) (h_x4 : Tx T 13 x4) (hfne0 : ¬ sI S0 (lp 0) 2 = 0) (hfszlt1 : (sI S0 (lp 1) 2).toInt < 60) : Ho (f_K_begin_B54  S x0 x2 x3 x4 (1 : Int32)) (PY T0 kw_K57 S0 8 686 ["java/lang/IllegalStateException", "java/lang/IndexOutOfBoundsException"] (fun v T' => In (-1) 59 v)) := by
  unfold f_K_begin_B54
  refine r_rS (fun c1 => ?_) ⟨_, (Rlweak (RlwX g) (by decide +kernel) (by decide) (by decide)), Or.inr ⟨_, rfl, by decide +kernel⟩⟩
  refine r_nO g (by decide) (fun s2 g3 r4 k5 => ?_)
  refine r_gR g3.1 h_x0 rfl rfl (fun v4 h6 => ?_)
  refine r_gR g3.1 h_x0 rfl rfl (fun v5 h7 => ?_)
  refine r_rv g3.1 h7 rfl ?_
  refine r_size 0 g3.1 h7 (by decide) (fun v8 e8 => ?_)
  have q9 : In 0 8 v8 := by rw [e8]; exact sizeIn (q := 0) g3.1 (by decide) rfl
  refine r_rv g3.1 h6 rfl ?_
  have z11 := sz_last 0 g3 (by decide) (by decide +kernel) rfl (by decide) hfne0 e8
  refine r_P (ho_get 0 g3.1 h6 (by decide) z11.1 z11.2) (fun v11 (h10 : Tx T 40 v11) => ?_)
  refine r_cc g3.1 h10 rfl ?_
  refine r_bind (ho_Attempt g3 r4 h_x4 h10) (fun s12 h16 => ?_)
  obtain ⟨T14, g13, m15⟩ := h16
  have g17 : Rl T0 [] S0 3 43 T14 s12 := g13
  have u18 := Tx.up h_x0 m15.2.1
  have u19 := Tx.up h_x4 m15.2.1
  have u20 := Tx.up h6 m15.2.1
  have u21 := Tx.up h7 m15.2.1
  have u22 := Tx.up h10 m15.2.1
  refine r_gR g17.1 u18 rfl rfl (fun v14 h23 => ?_)
  refine r_rv g17.1 h23 rfl ?_
  refine r_b2 (ho_add (w' := kw_K56) 1 g17 h23 (by decide) (⟨_, rfl, m15.1, by decide⟩ : Tx T14 42 (some (sN S))) rfl (Int.lt_of_lt_of_le (sz1 1 g17 (by decide) (by decide +kernel) hfszlt1) (by decide)) (by decide) (by decide +kernel)) (fun v17 s24 h28 => ?_)
  obtain ⟨T25, g26, e27, e27s⟩ := h28
  have g29 : Rl T0 kw_K56 S0 4 343 T25 s24 := g26
  have u30 := Tx.up u18 e27
  have u31 := Tx.up u19 e27
  have u32 := Tx.up u20 e27
  have u33 := Tx.up u21 e27
  have u34 := Tx.up u22 e27
  have u35 := Tx.up (⟨_, rfl, m15.1, by decide⟩ : Tx T14 42 (some (sN S))) e27
  have u36 := Tx.up h23 e27
  refine r_rv g29.1 u30 rfl ?_
  refine r_bind (t_K_goOn g29.1 u30 u35) (fun s37 h38 => ?_)
  obtain ⟨T39, h40⟩ := h38
  have g41 : Rl T0 kw_K57 S0 8 686 T39 s37 := Rltrans g29 h40 (by decide +kernel)
  have u42 := Tx.up u30 h40.ty
  have u43 := Tx.up u31 h40.ty
  have u44 := Tx.up u32 h40.ty
  have u45 := Tx.up u33 h40.ty
  have u46 := Tx.up u34 h40.ty
  have u47 := Tx.up u35 h40.ty
  have u48 := Tx.up u36 h40.ty
  refine r_gR g41.1 u42 rfl rfl (fun v20 h49 => ?_)
  refine r_rv g41.1 h49 rfl ?_
  refine r_size 1 g41.1 h49 (by decide) (fun v23 e50 => ?_)
  have q51 : In 0 60 v23 := by rw [e50]; exact sizeIn (q := 1) g41.1 (by decide) rfl
  exact r_some ⟨_, (Rlweak g41 (by decide +kernel) (by decide) (by decide)), Or.inl ⟨_, rfl, (In_w (In_w (In_sub q51 (by decide : In 1 1 (1 : Int32)) (by decide) (by decide)) (by decide) (by decide) : In (-1) 59 (v23 - (1 : Int32))) (by decide) (by decide))⟩⟩
theorem t_K_begin_B54_4c0 {T0 T : Nat → Nat} {S0 S : AS} (g : Rl T0 [] S0 0 0 T S) {x0 : Option Nat} {x2 : Int32} {x3 : Int32} {x4 : Option Nat} (h_x0 : Tx T 1 x0) (h_x2 : In 0 5 x2) (h_x3 : In 0 5 x3) (h_x4 : Tx T 13 x4) : Ho (f_K_begin_B54  S x0 x2 x3 x4 (0 : Int32)) (PY T0 kw_K57 S0 8 686 ["java/lang/IllegalStateException", "java/lang/IndexOutOfBoundsException"] (fun v T' => In (-1) 59 v)) := by
  unfold f_K_begin_B54
  refine r_rS (fun c1 => absurd rfl c1) ⟨_, (Rlweak (RlwX g) (by decide +kernel) (by decide) (by decide)), Or.inr ⟨_, rfl, by decide +kernel⟩⟩
theorem t_K_begin_B53 {T0 T : Nat → Nat} {S0 S : AS} (g : Rl T0 [] S0 0 0 T S) {x0 : Option Nat} {x2 : Int32} {x3 : Int32} {x4 : Option Nat} (h_x0 : Tx T 1 x0) (h_x2 : In 0 5 x2) (h_x3 : In 0 5 x3) (h_x4 : Tx T 13 x4) : Ho (f_K_begin_B53  S x0 x2 x3 x4) (PY T0 kw_K57 S0 8 686 ["java/lang/IllegalStateException", "java/lang/IndexOutOfBoundsException"] (fun v T' => In (-1) 59 v)) := by
  unfold f_K_begin_B53
  exact t_K_begin_B54_4c0 (Rlweak g (by decide +kernel) (by decide) (by decide))  h_x0 (In_w h_x2 (by decide) (by decide)) (In_w h_x3 (by decide) (by decide)) h_x4 
theorem t_K_begin {T : Nat → Nat} {S : AS} (hT : TI T S) {a0 : Option Nat} {a1 : Int32} {a2 : Int32} {a3 : Int32} (h_a0 : Tx T 1 a0) : Ho (f_K_begin  S a0 a1 a2 a3) (PY T kw_K57 S 8 686 ["java/lang/IllegalStateException", "java/lang/IndexOutOfBoundsException"] (fun v T' => In (-1) 59 v)) := by
  have g0 := Rlrf hT
  unfold f_K_begin
  refine r_rv g0.1 h_a0 rfl ?_
  refine r_T (t_K_findPerson g0.1 h_a0) (fun v26 h1 => ?_) (fun e he => ⟨_, (Rlweak (RlwX g0) (by decide +kernel) (by decide) (by decide)), Or.inr ⟨e, rfl, ((by decide +kernel : ∀ x ∈ (["java/lang/IndexOutOfBoundsException"] : List String), x ∈ (["java/lang/IllegalStateException", "java/lang/IndexOutOfBoundsException"] : List String)) e he)⟩⟩)
  refine r_rI (fun p2 c3 => ?_) ⟨_, (Rlweak (RlwX g0) (by decide +kernel) (by decide) (by decide)), Or.inr ⟨_, rfl, by decide +kernel⟩⟩
  have q4 : In 0 2147483647 a2 := ⟨p2, (In_top a2).2⟩
  have q5 : In 0 5 a2 := In_w (In_lt1 c3 q4 (by decide : In 6 6 (6 : Int32))) (by decide) (by decide)
  refine r_rI (fun p6 c7 => ?_) ⟨_, (Rlweak (RlwX g0) (by decide +kernel) (by decide) (by decide)), Or.inr ⟨_, rfl, by decide +kernel⟩⟩
  have q8 : In 0 2147483647 a3 := ⟨p6, (In_top a3).2⟩
  have q9 : In 0 5 a3 := In_w (In_lt1 c7 q8 (by decide : In 6 6 (6 : Int32))) (by decide) (by decide)
  refine r_gR g0.1 h_a0 rfl rfl (fun v31 h10 => ?_)
  refine r_rv g0.1 h10 rfl ?_
  refine r_empty 0 g0.1 h10 (by decide) ?_ (fun c11 => ?_)
  · refine r_ifF (by decide) ?_
    exact t_K_begin_B53 (Rlweak g0 (by decide +kernel) (by decide) (by decide))  h_a0 (In_w q5 (by decide) (by decide)) (In_w q9 (by decide) (by decide)) h1 
  · have z12 : ¬ sI S (lp 0) 2 = 0 := sz2 0 g0 (by decide) (by decide +kernel) c11
    refine r_ifT (by decide) ?_
    refine r_gIe g0.1 h1 rfl (fun v35 b13 e14 => ?_)
    have q15 : In 0 1 v35 := b13 _ _ rfl
    refine r_if (fun c16 => ?_) (fun c16 => ?_)
    · have q17 : In 0 0 v35 := In_w (In_eq c16 (by decide : In 0 0 (0 : Int32))) (by decide) (by decide)
      refine r_gR g0.1 h_a0 rfl rfl (fun v36 h18 => ?_)
      refine r_rv g0.1 h18 rfl ?_
      refine r_size 1 g0.1 h18 (by decide) (fun v39 e19 => ?_)
      have q20 : In 0 60 v39 := by rw [e19]; exact sizeIn (q := 1) g0.1 (by decide) rfl
      refine r_if (fun c21 => ?_) (fun c21 => ?_)
      · have q22 : In 60 60 v39 := In_w (In_le2 c21 (by decide : In 60 60 (60 : Int32)) q20) (by decide) (by decide)
        exact t_K_begin_B53 (Rlweak g0 (by decide +kernel) (by decide) (by decide))  h_a0 (In_w q5 (by decide) (by decide)) (In_w q9 (by decide) (by decide)) h1 
      · have z23 : (sI S (lp 1) 2).toInt < (60 : Int32).toInt := sz0 1 g0 (by decide) (by decide +kernel) e19 c21
        have q24 : In 0 59 v39 := In_w (In_lt1 (Int32.not_le.mp c21) q20 (by decide : In 60 60 (60 : Int32))) (by decide) (by decide)
        exact t_K_begin_B54_4c1 (Rlweak g0 (by decide +kernel) (by decide) (by decide))  h_a0 (In_w q5 (by decide) (by decide)) (In_w q9 (by decide) (by decide)) h1 z12 (Int.lt_of_lt_of_le (show (sI S (lp 1) 2).toInt < 60 from z23) (by decide))
    · have q25 : In 1 1 v35 := In_w (In_neL c16 q15 (by decide)) (by decide) (by decide)
      exact t_K_begin_B53 (Rlweak g0 (by decide +kernel) (by decide) (by decide))  h_a0 (In_w q5 (by decide) (by decide)) (In_w q9 (by decide) (by decide)) h1 
theorem t_K_findAttempt {T : Nat → Nat} {S : AS} (hT : TI T S) {a0 : Option Nat} {a1 : Int32} (h_a0 : Tx T 1 a0) : Ho (f_K_findAttempt  S a0 a1) (PT S ["java/lang/IndexOutOfBoundsException"] (fun v => Tx T 42 v)) := by
  unfold f_K_findAttempt
  refine r_gR hT h_a0 rfl rfl (fun v1 h1 => ?_)
  refine r_rv hT h1 rfl ?_
  refine r_size 1 hT h1 (by decide) (fun v4 e2 => ?_)
  have q3 : In 0 60 v4 := by rw [e2]; exact sizeIn (q := 1) hT (by decide) rfl
  refine r_rI (fun p4 c5 => ?_) (Or.inr ⟨_, rfl, rfl, by decide +kernel⟩)
  have q6 : In 0 2147483647 a1 := ⟨p4, (In_top a1).2⟩
  have q7 : In 0 59 a1 := In_w (In_lt1 c5 q6 q3) (by decide) (by decide)
  refine r_gR hT h_a0 rfl rfl (fun v7 h8 => ?_)
  refine r_rv hT h8 rfl ?_
  refine r_P (ho_get 1 hT h8 (by decide) (In_w q7 (by decide) (Int.le_refl _) : In 0 59 a1).1 (sz_lt2 c5 e2)) (fun v10 (h9 : Tx T 42 v10) => ?_)
  refine r_cc hT h9 rfl ?_
  exact r_some (Or.inl ⟨_, rfl, rfl, h9⟩)
theorem t_K_isAnsweredRight_B39_3c1 {T : Nat → Nat} {S0 S : AS} (g : Rl T kw_K58 S0 0 0 T S) {x0 : Option Nat} {x1 : Option Nat} {x2 : Int32} {x6 : Int32} (h_x0 : Tx T 1 x0) (h_x1 : Tx T 13 x1) (h_x6 : In 0 1 x6) : Ho (f_K_isAnsweredRight_B39  S x0 x1 x2 (1 : Int32) x6) (fun q => Rl T kw_K59 S0 0 0 T q.2 ∧ In 0 1 q.1) := by
  unfold f_K_isAnsweredRight_B39
  refine r_ifF (by decide) ?_
  refine r_rv g.1 h_x1 rfl ?_
  refine r_P (P := fun v => True) (t_Person_stateOf g.1 h_x1) (fun v4 h1 => ?_)
  refine r_if (fun c2 => ?_) (fun c2 => ?_)
  · have q3 : In 2 2 v4 := In_w (In_eq c2 (by decide : In 2 2 (2 : Int32))) (by decide) (by decide)
    refine r_gR g.1 h_x0 rfl rfl (fun v5 h4 => ?_)
    refine r_gIe g.1 h_x1 rfl (fun v6 b5 e6 => ?_)
    refine r_gIe g.1 h_x0 rfl (fun v7 b7 e8 => ?_)
    refine r_rv g.1 h4 rfl ?_
    refine r_bind (t_Audit_write g.1 h4) (fun s9 h10 => ?_)
    have g11 : Rl T kw_K59 S0 0 0 T s9 := Rltrans g h10 (by decide +kernel)
    refine r_z (In_w h_x6 (by decide) (by decide)) ?_
    exact r_some ⟨(Rlweak g11 (by decide +kernel) (by decide) (by decide)), (In_w h_x6 (by decide) (by decide))⟩
  · refine r_z (In_w h_x6 (by decide) (by decide)) ?_
    exact r_some ⟨(Rlweak g (by decide +kernel) (by decide) (by decide)), (In_w h_x6 (by decide) (by decide))⟩
theorem t_K_isAnsweredRight_B39_3c0 {T : Nat → Nat} {S0 S : AS} (g : Rl T kw_K58 S0 0 0 T S) {x0 : Option Nat} {x1 : Option Nat} {x2 : Int32} {x6 : Int32} (h_x0 : Tx T 1 x0) (h_x1 : Tx T 13 x1) (h_x6 : In 0 1 x6) : Ho (f_K_isAnsweredRight_B39  S x0 x1 x2 (0 : Int32) x6) (fun q => Rl T kw_K59 S0 0 0 T q.2 ∧ In 0 1 q.1) := by
  unfold f_K_isAnsweredRight_B39
  refine r_ifT (by decide) ?_
  refine r_z (In_w h_x6 (by decide) (by decide)) ?_
  exact r_some ⟨(Rlweak g (by decide +kernel) (by decide) (by decide)), (In_w h_x6 (by decide) (by decide))⟩
theorem t_K_isAnsweredRight_B14_5c1 {T : Nat → Nat} {S0 S : AS} (g : Rl T [] S0 0 0 T S) {x0 : Option Nat} {x1 : Option Nat} {x2 : Int32} {x3 : Int32} {x4 : Int32} (h_x0 : Tx T 1 x0) (h_x1 : Tx T 13 x1) : Ho (f_K_isAnsweredRight_B14  S x0 x1 x2 x3 x4 (1 : Int32)) (fun q => Rl T kw_K59 S0 0 0 T q.2 ∧ In 0 1 q.1) := by
  unfold f_K_isAnsweredRight_B14
  refine r_rv g.1 h_x1 rfl ?_
  refine r_b2 (t_Person_takes g.1 h_x1) (fun v14 s2 h1 => ?_)
  obtain ⟨g3, h1r⟩ := h1
  have g4 : Rl T kw_K11 S0 0 0 T s2 := Rltrans g g3 (by decide +kernel)
  refine r_if (fun c5 => ?_) (fun c5 => ?_)
  · have q6 : In 0 0 v14 := In_w (In_eq c5 (by decide : In 0 0 (0 : Int32))) (by decide) (by decide)
    refine r_gIe g4.1 h_x0 rfl (fun v15 b7 e8 => ?_)
    refine r_rv g4.1 h_x1 rfl ?_
    refine r_bind (t_Person_noteWrong g4.1 h_x1) (fun s9 h10 => ?_)
    have g11 : Rl T kw_K58 S0 0 0 T s9 := Rltrans g4 h10 (by decide +kernel)
    exact t_K_isAnsweredRight_B39_3c1 (Rlweak g11 (by decide +kernel) (by decide) (by decide))  h_x0 h_x1 (In_w q6 (by decide) (by decide)) 
  · have q12 : In 1 1 v14 := In_w (In_neL c5 h1r (by decide)) (by decide) (by decide)
    exact t_K_isAnsweredRight_B39_3c1 (Rlweak g4 (by decide +kernel) (by decide) (by decide))  h_x0 h_x1 (In_w q12 (by decide) (by decide)) 
theorem t_K_isAnsweredRight_B14_5c0 {T : Nat → Nat} {S0 S : AS} (g : Rl T [] S0 0 0 T S) {x0 : Option Nat} {x1 : Option Nat} {x2 : Int32} {x3 : Int32} {x4 : Int32} (h_x0 : Tx T 1 x0) (h_x1 : Tx T 13 x1) : Ho (f_K_isAnsweredRight_B14  S x0 x1 x2 x3 x4 (0 : Int32)) (fun q => Rl T kw_K59 S0 0 0 T q.2 ∧ In 0 1 q.1) := by
  unfold f_K_isAnsweredRight_B14
  refine r_rv g.1 h_x1 rfl ?_
  refine r_b2 (t_Person_takes g.1 h_x1) (fun v14 s2 h1 => ?_)
  obtain ⟨g3, h1r⟩ := h1
  have g4 : Rl T kw_K11 S0 0 0 T s2 := Rltrans g g3 (by decide +kernel)
  refine r_if (fun c5 => ?_) (fun c5 => ?_)
  · have q6 : In 0 0 v14 := In_w (In_eq c5 (by decide : In 0 0 (0 : Int32))) (by decide) (by decide)
    refine r_gIe g4.1 h_x0 rfl (fun v15 b7 e8 => ?_)
    refine r_rv g4.1 h_x1 rfl ?_
    refine r_bind (t_Person_noteWrong g4.1 h_x1) (fun s9 h10 => ?_)
    have g11 : Rl T kw_K58 S0 0 0 T s9 := Rltrans g4 h10 (by decide +kernel)
    exact t_K_isAnsweredRight_B39_3c0 (Rlweak g11 (by decide +kernel) (by decide) (by decide))  h_x0 h_x1 (In_w q6 (by decide) (by decide)) 
  · have q12 : In 1 1 v14 := In_w (In_neL c5 h1r (by decide)) (by decide) (by decide)
    exact t_K_isAnsweredRight_B39_3c0 (Rlweak g4 (by decide +kernel) (by decide) (by decide))  h_x0 h_x1 (In_w q12 (by decide) (by decide)) 
theorem t_K_isAnsweredRight {T : Nat → Nat} {S : AS} (hT : TI T S) {a0 : Option Nat} {a1 : Option Nat} {a2 : Int32} {a3 : Int32} {a4 : Int32} (h_a0 : Tx T 1 a0) (h_a1 : Tx T 13 a1) : Ho (f_K_isAnsweredRight  S a0 a1 a2 a3 a4) (fun q => Rl T kw_K59 S 0 0 T q.2 ∧ In 0 1 q.1) := by
  have g0 := Rlrf hT
  unfold f_K_isAnsweredRight
  refine r_rv g0.1 h_a1 rfl ?_
  refine r_P (P := fun v => True) (t_Person_stateOf g0.1 h_a1) (fun v20 h1 => ?_)
  refine r_if (fun c2 => ?_) (fun c2 => ?_)
  · have q3 : In 1 1 v20 := In_w (In_eq c2 (by decide : In 1 1 (1 : Int32))) (by decide) (by decide)
    exact t_K_isAnsweredRight_B14_5c1 (Rlweak g0 (by decide +kernel) (by decide) (by decide))  h_a0 h_a1 
  · exact t_K_isAnsweredRight_B14_5c0 (Rlweak g0 (by decide +kernel) (by decide) (by decide))  h_a0 h_a1
theorem t_K_takeAnswer_B114 {T0 T : Nat → Nat} {S0 S : AS} (g : Rl T0 kw_K63 S0 4 343 T S) {x1 : Option Nat} (h_x1 : Tx T 42 x1) : Ho (f_K_takeAnswer_B114  S x1) (fun q => ∃ T', Rl T0 kw_K63 S0 4 343 T' q) := by
  unfold f_K_takeAnswer_B114
  refine r_gIe g.1 h_x1 rfl (fun v1 b1 e2 => ?_)
  refine r_if (fun c3 => ?_) (fun c3 => ?_)
  · have q4 : In 0 0 v1 := In_w (In_eq c3 (by decide : In 0 0 (0 : Int32))) (by decide) (by decide)
    refine r_gIe g.1 h_x1 rfl (fun v2 b5 e6 => ?_)
    refine r_if (fun c7 => ?_) (fun c7 => ?_)
    · have q8 : In (-2147483648) 11 v2 := In_w (In_lt1 c7 (In_top v2) (by decide : In 12 12 (12 : Int32))) (by decide) (by decide)
      exact r_some ⟨_, (Rlweak g (by decide +kernel) (by decide) (by decide))⟩
    · have q9 : In 12 2147483647 v2 := In_w (In_le2 (Int32.not_lt.mp c7) (by decide : In 12 12 (12 : Int32)) (In_top v2)) (by decide) (by decide)
      refine r_pI (w' := kw_K63) g h_x1 rfl (by decide) (fun _ _ q => by cases q) rfl (by decide) (by decide +kernel) (by unfold phc; decide) (fun s10 g11 => ?_)
      exact r_some ⟨_, (Rlweak g11 (by decide +kernel) (by decide) (by decide))⟩
  · exact r_some ⟨_, (Rlweak g (by decide +kernel) (by decide) (by decide))⟩
theorem t_K_takeAnswer {T : Nat → Nat} {S : AS} (hT : TI T S) {a0 : Option Nat} {a1 : Option Nat} {a2 : Int32} {a3 : Int32} (h_a0 : Tx T 1 a0) (h_a1 : Tx T 42 a1) : Ho (f_K_takeAnswer  S a0 a1 a2 a3) (fun q => ∃ T', Rl T kw_K63 S 4 343 T' q) := by
  have g0 := Rlrf hT
  unfold f_K_takeAnswer
  refine r_gR g0.1 h_a1 rfl rfl (fun v4 h1 => ?_)
  refine r_gIe g0.1 h_a1 rfl (fun v5 b2 e3 => ?_)
  refine r_rv g0.1 h1 rfl ?_
  refine r_P (P := fun v => True) (t_Flow_firstOf g0.1 h1) (fun v8 h4 => ?_)
  refine r_gIe g0.1 h_a1 rfl (fun v9 b5 e6 => ?_)
  refine r_pI (w' := kw_K60) g0 h_a1 rfl (by decide) (fun _ _ q => by cases q) rfl (by decide) (by decide +kernel) (by unfold phc; decide) (fun s7 g8 => ?_)
  refine r_gR g8.1 h_a1 rfl rfl (fun v11 h9 => ?_)
  refine r_rv g8.1 h_a0 rfl ?_
  refine r_b2 (t_K_isAnsweredRight g8.1 h_a0 h9) (fun v14 s11 h10 => ?_)
  obtain ⟨g12, h10r⟩ := h10
  have g13 : Rl T kw_K61 S 0 0 T s11 := Rltrans g8 g12 (by decide +kernel)
  refine r_if (fun c14 => ?_) (fun c14 => ?_)
  · have q15 : In 0 0 v14 := In_w (In_eq c14 (by decide : In 0 0 (0 : Int32))) (by decide) (by decide)
    refine r_gIe g13.1 h_a1 rfl (fun v15 b16 e17 => ?_)
    refine r_pI (w' := kw_K62) g13 h_a1 rfl (by decide) (fun _ _ q => by cases q) rfl (by decide) (by decide +kernel) (by unfold phc; decide) (fun s18 g19 => ?_)
    refine r_gIe g19.1 h_a1 rfl (fun v17 b20 e21 => ?_)
    refine r_gIe g19.1 h_a1 rfl (fun v18 b22 e23 => ?_)
    refine r_rv g19.1 h1 rfl ?_
    refine r_P (P := fun v => True) (t_Flow_secondOf g19.1 h1) (fun v21 h24 => ?_)
    refine r_if (fun c25 => ?_) (fun c25 => ?_)
    · have q26 : In (-2147483648) 2147483646 v17 := In_w (In_lt1 c25 (In_top v17) (In_top v21)) (by decide) (by decide)
      have q27 : In (-2147483647) 2147483647 v21 := In_w (In_lt2 c25 (In_top v17) (In_top v21)) (by decide) (by decide)
      exact t_K_takeAnswer_B114 (Rlweak g19 (by decide +kernel) (by decide) (by decide))  h_a1 
    · refine r_gIe g19.1 h_a1 rfl (fun v22 b28 e29 => ?_)
      refine r_rv g19.1 h1 rfl ?_
      refine r_P (P := fun v => True) (t_Flow_nextOf g19.1 h1) (fun v25 h30 => ?_)
      refine r_rv g19.1 h_a0 rfl ?_
      refine r_bind (t_K_goOn g19.1 h_a0 h_a1) (fun s31 h32 => ?_)
      obtain ⟨T33, h34⟩ := h32
      have g35 : Rl T kw_K63 S 4 343 T33 s31 := Rltrans g19 h34 (by decide +kernel)
      have u36 := Tx.up h_a0 h34.ty
      have u37 := Tx.up h_a1 h34.ty
      have u38 := Tx.up h1 h34.ty
      have u39 := Tx.up h9 h34.ty
      exact t_K_takeAnswer_B114 (Rlweak g35 (by decide +kernel) (by decide) (by decide))  u37 
  · have q40 : In 1 1 v14 := In_w (In_neL c14 h10r (by decide)) (by decide) (by decide)
    refine r_gR g13.1 h_a1 rfl rfl (fun v28 h41 => ?_)
    refine r_gIe g13.1 h_a0 rfl (fun v29 b42 e43 => ?_)
    refine r_rv g13.1 h41 rfl ?_
    refine r_bind (t_Shown_show g13.1 h41) (fun s44 h45 => ?_)
    have g46 : Rl T kw_K64 S 0 0 T s44 := Rltrans g13 h45 (by decide +kernel)
    refine r_gIe g46.1 h_a1 rfl (fun v32 b47 e48 => ?_)
    refine r_rv g46.1 h1 rfl ?_
    refine r_P (P := fun v => True) (t_Flow_nextOf g46.1 h1) (fun v35 h49 => ?_)
    refine r_rv g46.1 h_a0 rfl ?_
    refine r_bind (t_K_goOn g46.1 h_a0 h_a1) (fun s50 h51 => ?_)
    obtain ⟨T52, h53⟩ := h51
    have g54 : Rl T kw_K63 S 4 343 T52 s50 := Rltrans g46 h53 (by decide +kernel)
    have u55 := Tx.up h_a0 h53.ty
    have u56 := Tx.up h_a1 h53.ty
    have u57 := Tx.up h1 h53.ty
    have u58 := Tx.up h9 h53.ty
    have u59 := Tx.up h41 h53.ty
    exact t_K_takeAnswer_B114 (Rlweak g54 (by decide +kernel) (by decide) (by decide))  u56 
theorem t_K_answer_B31_4c1 {T0 T : Nat → Nat} {S0 S : AS} (g : Rl T0 [] S0 0 0 T S) {x0 : Option Nat} {x2 : Int32} {x3 : Int32} {x4 : Option Nat} (h_x0 : Tx T 1 x0) (h_x3 : In 0 9999 x3) (h_x4 : Tx T 42 x4) : Ho (f_K_answer_B31  S x0 x2 x3 x4 (1 : Int32)) (PY T0 kw_K63 S0 4 343 ["java/lang/IllegalArgumentException", "java/lang/IllegalStateException", "java/lang/IndexOutOfBoundsException"] (fun v T' => True)) := by
  unfold f_K_answer_B31
  refine r_rS (fun c1 => ?_) ⟨_, (Rlweak (RlwX g) (by decide +kernel) (by decide) (by decide)), Or.inr ⟨_, rfl, by decide +kernel⟩⟩
  refine r_rv g.1 h_x0 rfl ?_
  refine r_bind (t_K_takeAnswer g.1 h_x0 h_x4) (fun s2 h3 => ?_)
  obtain ⟨T4, h5⟩ := h3
  have g6 : Rl T0 kw_K63 S0 4 343 T4 s2 := Rltrans g h5 (by decide +kernel)
  have u7 := Tx.up h_x0 h5.ty
  have u8 := Tx.up h_x4 h5.ty
  refine r_gIe g6.1 u8 rfl (fun v5 b9 e10 => ?_)
  exact r_some ⟨_, (Rlweak g6 (by decide +kernel) (by decide) (by decide)), Or.inl ⟨_, rfl, trivial⟩⟩
theorem t_K_answer_B31_4c0 {T0 T : Nat → Nat} {S0 S : AS} (g : Rl T0 [] S0 0 0 T S) {x0 : Option Nat} {x2 : Int32} {x3 : Int32} {x4 : Option Nat} (h_x0 : Tx T 1 x0) (h_x3 : In 0 9999 x3) (h_x4 : Tx T 42 x4) : Ho (f_K_answer_B31  S x0 x2 x3 x4 (0 : Int32)) (PY T0 kw_K63 S0 4 343 ["java/lang/IllegalArgumentException", "java/lang/IllegalStateException", "java/lang/IndexOutOfBoundsException"] (fun v T' => True)) := by
  unfold f_K_answer_B31
  refine r_rS (fun c1 => absurd rfl c1) ⟨_, (Rlweak (RlwX g) (by decide +kernel) (by decide) (by decide)), Or.inr ⟨_, rfl, by decide +kernel⟩⟩
theorem t_K_answer {T : Nat → Nat} {S : AS} (hT : TI T S) {a0 : Option Nat} {a1 : Int32} {a2 : Int32} {a3 : Int32} (h_a0 : Tx T 1 a0) : Ho (f_K_answer  S a0 a1 a2 a3) (PY T kw_K63 S 4 343 ["java/lang/IllegalArgumentException", "java/lang/IllegalStateException", "java/lang/IndexOutOfBoundsException"] (fun v T' => True)) := by
  have g0 := Rlrf hT
  unfold f_K_answer
  refine r_rv g0.1 h_a0 rfl ?_
  refine r_T (t_K_findAttempt g0.1 h_a0) (fun v8 h1 => ?_) (fun e he => ⟨_, (Rlweak (RlwX g0) (by decide +kernel) (by decide) (by decide)), Or.inr ⟨e, rfl, ((by decide +kernel : ∀ x ∈ (["java/lang/IndexOutOfBoundsException"] : List String), x ∈ (["java/lang/IllegalArgumentException", "java/lang/IllegalStateException", "java/lang/IndexOutOfBoundsException"] : List String)) e he)⟩⟩)
  refine r_Kw (fun p2 p2b => ?_) ?_
  · have q3 : In 0 2147483647 a3 := In_w (In_le2 p2 (by decide : In 0 0 (0 : Int32)) (In_top a3)) (by decide) (by decide)
    have q4 : In 0 9999 a3 := In_w (In_le1 p2b q3 (by decide : In 9999 9999 (9999 : Int32))) (by decide) (by decide)
    refine r_rA (fun c5 => ?_) ⟨_, (Rlweak (RlwX g0) (by decide +kernel) (by decide) (by decide)), Or.inr ⟨_, rfl, by decide +kernel⟩⟩
    refine r_gIe g0.1 h1 rfl (fun v13 b6 e7 => ?_)
    refine r_if (fun c8 => ?_) (fun c8 => ?_)
    · have q9 : In 0 0 v13 := In_w (In_eq c8 (by decide : In 0 0 (0 : Int32))) (by decide) (by decide)
      exact t_K_answer_B31_4c1 (Rlweak g0 (by decide +kernel) (by decide) (by decide))  h_a0 (In_w q4 (by decide) (by decide)) h1 
    · exact t_K_answer_B31_4c0 (Rlweak g0 (by decide +kernel) (by decide) (by decide))  h_a0 (In_w q4 (by decide) (by decide)) h1
  · refine r_rA (fun c10 => absurd rfl c10) ⟨_, (Rlweak (RlwX g0) (by decide +kernel) (by decide) (by decide)), Or.inr ⟨_, rfl, by decide +kernel⟩⟩
theorem t_K_state {T : Nat → Nat} {S : AS} (hT : TI T S) {a0 : Option Nat} {a1 : Int32} (h_a0 : Tx T 1 a0) : Ho (f_K_state  S a0 a1) (PT S ["java/lang/IndexOutOfBoundsException"] (fun v => True)) := by
  unfold f_K_state
  refine r_rv hT h_a0 rfl ?_
  refine r_T (t_K_findAttempt hT h_a0) (fun v3 h1 => ?_) (fun e he => Or.inr ⟨e, rfl, rfl, ((by decide +kernel : ∀ x ∈ (["java/lang/IndexOutOfBoundsException"] : List String), x ∈ (["java/lang/IndexOutOfBoundsException"] : List String)) e he)⟩)
  refine r_gIe hT h1 rfl (fun v4 b2 e3 => ?_)
  exact r_some (Or.inl ⟨_, rfl, rfl, trivial⟩)
theorem t_K_asked {T : Nat → Nat} {S : AS} (hT : TI T S) {a0 : Option Nat} {a1 : Int32} (h_a0 : Tx T 1 a0) : Ho (f_K_asked  S a0 a1) (PT S ["java/lang/IndexOutOfBoundsException"] (fun v => True)) := by
  unfold f_K_asked
  refine r_rv hT h_a0 rfl ?_
  refine r_T (t_K_findAttempt hT h_a0) (fun v3 h1 => ?_) (fun e he => Or.inr ⟨e, rfl, rfl, ((by decide +kernel : ∀ x ∈ (["java/lang/IndexOutOfBoundsException"] : List String), x ∈ (["java/lang/IndexOutOfBoundsException"] : List String)) e he)⟩)
  refine r_gIe hT h1 rfl (fun v4 b2 e3 => ?_)
  refine r_if (fun c4 => ?_) (fun c4 => ?_)
  · have q5 : In 0 0 v4 := In_w (In_eq c4 (by decide : In 0 0 (0 : Int32))) (by decide) (by decide)
    refine r_gR hT h1 rfl rfl (fun v5 h6 => ?_)
    refine r_gIe hT h1 rfl (fun v6 b7 e8 => ?_)
    refine r_rv hT h6 rfl ?_
    refine r_P (P := fun v => True) (t_Flow_firstOf hT h6) (fun v9 h9 => ?_)
    exact r_some (Or.inl ⟨_, rfl, rfl, trivial⟩)
  · exact r_some (Or.inl ⟨_, rfl, rfl, trivial⟩)
theorem t_K_sessionOf {T : Nat → Nat} {S : AS} (hT : TI T S) {a0 : Option Nat} {a1 : Int32} (h_a0 : Tx T 1 a0) : Ho (f_K_sessionOf  S a0 a1) (PT S ["java/lang/IndexOutOfBoundsException"] (fun v => True)) := by
  unfold f_K_sessionOf
  refine r_rv hT h_a0 rfl ?_
  refine r_T (t_K_findAttempt hT h_a0) (fun v3 h1 => ?_) (fun e he => Or.inr ⟨e, rfl, rfl, ((by decide +kernel : ∀ x ∈ (["java/lang/IndexOutOfBoundsException"] : List String), x ∈ (["java/lang/IndexOutOfBoundsException"] : List String)) e he)⟩)
  refine r_gIe hT h1 rfl (fun v4 b2 e3 => ?_)
  exact r_some (Or.inl ⟨_, rfl, rfl, trivial⟩)
theorem t_K_risk {T : Nat → Nat} {S : AS} (hT : TI T S) {a0 : Option Nat} {a1 : Int32} (h_a0 : Tx T 1 a0) : Ho (f_K_risk  S a0 a1) (PT S ["java/lang/IndexOutOfBoundsException"] (fun v => True)) := by
  unfold f_K_risk
  refine r_rv hT h_a0 rfl ?_
  refine r_T (t_K_findAttempt hT h_a0) (fun v3 h1 => ?_) (fun e he => Or.inr ⟨e, rfl, rfl, ((by decide +kernel : ∀ x ∈ (["java/lang/IndexOutOfBoundsException"] : List String), x ∈ (["java/lang/IndexOutOfBoundsException"] : List String)) e he)⟩)
  refine r_rv hT h_a0 rfl ?_
  refine r_P (P := fun v => True) (t_K_riskOf hT h_a0 h1) (fun v6 h2 => ?_)
  exact r_some (Or.inl ⟨_, rfl, rfl, trivial⟩)
theorem t_K_trialRisk {T : Nat → Nat} {S : AS} (hT : TI T S) {a0 : Option Nat} {a1 : Int32} (h_a0 : Tx T 1 a0) : Ho (f_K_trialRisk  S a0 a1) (PT S ["java/lang/IndexOutOfBoundsException"] (fun v => True)) := by
  unfold f_K_trialRisk
  refine r_rv hT h_a0 rfl ?_
  refine r_T (t_K_findAttempt hT h_a0) (fun v3 h1 => ?_) (fun e he => Or.inr ⟨e, rfl, rfl, ((by decide +kernel : ∀ x ∈ (["java/lang/IndexOutOfBoundsException"] : List String), x ∈ (["java/lang/IndexOutOfBoundsException"] : List String)) e he)⟩)
  refine r_rv hT h_a0 rfl ?_
  refine r_P (P := fun v => True) (t_K_riskOf hT h_a0 h1) (fun v6 h2 => ?_)
  exact r_some (Or.inl ⟨_, rfl, rfl, trivial⟩)
theorem t_K_sessions {T : Nat → Nat} {S : AS} (hT : TI T S) {a0 : Option Nat} (h_a0 : Tx T 1 a0) : Ho (f_K_sessions  S a0) (fun q => q.2 = S ∧ In 0 60 q.1) := by
  unfold f_K_sessions
  refine r_gR hT h_a0 rfl rfl (fun v1 h1 => ?_)
  refine r_rv hT h1 rfl ?_
  refine r_size 2 hT h1 (by decide) (fun v4 e2 => ?_)
  have q3 : In 0 60 v4 := by rw [e2]; exact sizeIn (q := 2) hT (by decide) rfl
  exact r_some ⟨rfl, (In_w q3 (by decide) (by decide))⟩
theorem t_K_findSession {T : Nat → Nat} {S : AS} (hT : TI T S) {a0 : Option Nat} {a1 : Int32} (h_a0 : Tx T 1 a0) : Ho (f_K_findSession  S a0 a1) (PT S ["java/lang/IndexOutOfBoundsException"] (fun v => Tx T 43 v)) := by
  unfold f_K_findSession
  refine r_gR hT h_a0 rfl rfl (fun v1 h1 => ?_)
  refine r_rv hT h1 rfl ?_
  refine r_size 2 hT h1 (by decide) (fun v4 e2 => ?_)
  have q3 : In 0 60 v4 := by rw [e2]; exact sizeIn (q := 2) hT (by decide) rfl
  refine r_rI (fun p4 c5 => ?_) (Or.inr ⟨_, rfl, rfl, by decide +kernel⟩)
  have q6 : In 0 2147483647 a1 := ⟨p4, (In_top a1).2⟩
  have q7 : In 0 59 a1 := In_w (In_lt1 c5 q6 q3) (by decide) (by decide)
  refine r_gR hT h_a0 rfl rfl (fun v7 h8 => ?_)
  refine r_rv hT h8 rfl ?_
  refine r_P (ho_get 2 hT h8 (by decide) (In_w q7 (by decide) (Int.le_refl _) : In 0 59 a1).1 (sz_lt2 c5 e2)) (fun v10 (h9 : Tx T 43 v10) => ?_)
  refine r_cc hT h9 rfl ?_
  exact r_some (Or.inl ⟨_, rfl, rfl, h9⟩)
theorem t_K_isLive {T : Nat → Nat} {S : AS} (hT : TI T S) {a0 : Option Nat} {a1 : Int32} (h_a0 : Tx T 1 a0) : Ho (f_K_isLive  S a0 a1) (PT S ["java/lang/IndexOutOfBoundsException"] (fun v => In 0 1 v)) := by
  unfold f_K_isLive
  refine r_rv hT h_a0 rfl ?_
  refine r_T (t_K_findSession hT h_a0) (fun v3 h1 => ?_) (fun e he => Or.inr ⟨e, rfl, rfl, ((by decide +kernel : ∀ x ∈ (["java/lang/IndexOutOfBoundsException"] : List String), x ∈ (["java/lang/IndexOutOfBoundsException"] : List String)) e he)⟩)
  refine r_gIe hT h1 rfl (fun v4 b2 e3 => ?_)
  have q4 : In 0 1 v4 := b2 _ _ rfl
  refine r_z (In_w q4 (by decide) (by decide)) ?_
  exact r_some (Or.inl ⟨_, rfl, rfl, (In_w q4 (by decide) (by decide))⟩)
theorem t_K_isLiveByAudit {T : Nat → Nat} {S : AS} (hT : TI T S) {a0 : Option Nat} {a1 : Int32} (h_a0 : Tx T 1 a0) : Ho (f_K_isLiveByAudit  S a0 a1) (PT S ["java/lang/IndexOutOfBoundsException"] (fun v => In 0 1 v)) := by
  unfold f_K_isLiveByAudit
  refine r_gR hT h_a0 rfl rfl (fun v1 h1 => ?_)
  refine r_rv hT h1 rfl ?_
  refine r_size 2 hT h1 (by decide) (fun v4 e2 => ?_)
  have q3 : In 0 60 v4 := by rw [e2]; exact sizeIn (q := 2) hT (by decide) rfl
  refine r_rI (fun p4 c5 => ?_) (Or.inr ⟨_, rfl, rfl, by decide +kernel⟩)
  have q6 : In 0 2147483647 a1 := ⟨p4, (In_top a1).2⟩
  have q7 : In 0 59 a1 := In_w (In_lt1 c5 q6 q3) (by decide) (by decide)
  refine r_gR hT h_a0 rfl rfl (fun v7 h8 => ?_)
  refine r_rv hT h8 rfl ?_
  refine r_P (P := fun v => In 0 1 v) (t_Audit_has hT h8) (fun v10 h9 => ?_)
  refine r_if (fun c10 => ?_) (fun c10 => ?_)
  · have q11 : In 0 0 v10 := In_w (In_eq c10 (by decide : In 0 0 (0 : Int32))) (by decide) (by decide)
    exact r_some (Or.inl ⟨_, rfl, rfl, (In_w (by decide : In 0 0 (0 : Int32)) (by decide) (by decide))⟩)
  · have q12 : In 1 1 v10 := In_w (In_neL c10 h9 (by decide)) (by decide) (by decide)
    refine r_gR hT h_a0 rfl rfl (fun v11 h13 => ?_)
    refine r_rv hT h13 rfl ?_
    refine r_P (P := fun v => In 0 1 v) (t_Audit_has hT h13) (fun v14 h14 => ?_)
    refine r_if (fun c15 => ?_) (fun c15 => ?_)
    · have q16 : In 0 0 v14 := In_w (In_eq c15 (by decide : In 0 0 (0 : Int32))) (by decide) (by decide)
      exact r_some (Or.inl ⟨_, rfl, rfl, (In_w (by decide : In 1 1 (1 : Int32)) (by decide) (by decide))⟩)
    · have q17 : In 1 1 v14 := In_w (In_neL c15 h14 (by decide)) (by decide) (by decide)
      exact r_some (Or.inl ⟨_, rfl, rfl, (In_w (by decide : In 0 0 (0 : Int32)) (by decide) (by decide))⟩)
theorem t_K_level {T : Nat → Nat} {S : AS} (hT : TI T S) {a0 : Option Nat} {a1 : Int32} (h_a0 : Tx T 1 a0) : Ho (f_K_level  S a0 a1) (PT S ["java/lang/IndexOutOfBoundsException"] (fun v => True)) := by
  unfold f_K_level
  refine r_rv hT h_a0 rfl ?_
  refine r_T (t_K_findSession hT h_a0) (fun v3 h1 => ?_) (fun e he => Or.inr ⟨e, rfl, rfl, ((by decide +kernel : ∀ x ∈ (["java/lang/IndexOutOfBoundsException"] : List String), x ∈ (["java/lang/IndexOutOfBoundsException"] : List String)) e he)⟩)
  refine r_gIe hT h_a0 rfl (fun v4 b2 e3 => ?_)
  refine r_rv hT h1 rfl ?_
  refine r_P (P := fun v => True) (t_Session_levelAt hT h1) (fun v7 h4 => ?_)
  exact r_some (Or.inl ⟨_, rfl, rfl, trivial⟩)
theorem t_K_stepUp_B96 {T : Nat → Nat} {S0 S : AS} (g : Rl T kw_K67 S0 0 0 T S) {x0 : Option Nat} {x5 : Option Nat} (h_x0 : Tx T 1 x0) (h_x5 : Tx T 43 x5) : Ho (f_K_stepUp_B96  S x0 x5) (PX T kw_K67 S0 1 6 ["java/lang/IllegalArgumentException", "java/lang/IllegalStateException", "java/lang/IndexOutOfBoundsException"] (fun v => True)) := by
  unfold f_K_stepUp_B96
  refine r_gIe g.1 h_x0 rfl (fun v1 b1 e2 => ?_)
  refine r_rv g.1 h_x5 rfl ?_
  refine r_P (P := fun v => True) (t_Session_levelAt g.1 h_x5) (fun v4 h3 => ?_)
  exact r_some ⟨(Rlweak g (by decide +kernel) (by decide) (by decide)), Or.inl ⟨_, rfl, trivial⟩⟩
theorem t_K_stepUp_B55_5c1 {T : Nat → Nat} {S0 S : AS} (g : Rl T [] S0 0 0 T S) {x0 : Option Nat} {x2 : Int32} {x3 : Int32} {x4 : Int32} {x5 : Option Nat} (h_x0 : Tx T 1 x0) (h_x2 : In 0 2 x2) (h_x4 : In 0 9999 x4) (h_x5 : Tx T 43 x5) : Ho (f_K_stepUp_B55  S x0 x2 x3 x4 x5 (1 : Int32)) (PX T kw_K67 S0 1 6 ["java/lang/IllegalArgumentException", "java/lang/IllegalStateException", "java/lang/IndexOutOfBoundsException"] (fun v => True)) := by
  unfold f_K_stepUp_B55
  refine r_rS (fun c1 => ?_) ⟨(Rlweak (RlwX g) (by decide +kernel) (by decide) (by decide)), Or.inr ⟨_, rfl, by decide +kernel⟩⟩
  refine r_gIe g.1 h_x0 rfl (fun v7 b2 e3 => ?_)
  refine r_pI (w' := kw_K65) g h_x5 rfl (by decide) (fun _ _ q => by cases q) rfl (by decide) (by decide +kernel) (by unfold phc; decide) (fun s4 g5 => ?_)
  refine r_gR g5.1 h_x5 rfl rfl (fun v9 h6 => ?_)
  refine r_rv g5.1 h_x0 rfl ?_
  refine r_b2 (t_K_isAnsweredRight g5.1 h_x0 h6) (fun v12 s8 h7 => ?_)
  obtain ⟨g9, h7r⟩ := h7
  have g10 : Rl T kw_K66 S0 0 0 T s8 := Rltrans g5 g9 (by decide +kernel)
  refine r_if (fun c11 => ?_) (fun c11 => ?_)
  · have q12 : In 0 0 v12 := In_w (In_eq c11 (by decide : In 0 0 (0 : Int32))) (by decide) (by decide)
    exact t_K_stepUp_B96 (Rlweak g10 (by decide +kernel) (by decide) (by decide))  h_x0 h_x5 
  · have q13 : In 1 1 v12 := In_w (In_neL c11 h7r (by decide)) (by decide) (by decide)
    refine r_gR g10.1 h_x5 rfl rfl (fun v13 h14 => ?_)
    refine r_gIe g10.1 h_x0 rfl (fun v14 b15 e16 => ?_)
    refine r_rv g10.1 h14 rfl ?_
    refine r_bind (t_Shown_show g10.1 h14) (fun s17 h18 => ?_)
    have g19 : Rl T kw_K67 S0 0 0 T s17 := Rltrans g10 h18 (by decide +kernel)
    exact t_K_stepUp_B96 (Rlweak g19 (by decide +kernel) (by decide) (by decide))  h_x0 h_x5 
theorem t_K_stepUp_B55_5c0 {T : Nat → Nat} {S0 S : AS} (g : Rl T [] S0 0 0 T S) {x0 : Option Nat} {x2 : Int32} {x3 : Int32} {x4 : Int32} {x5 : Option Nat} (h_x0 : Tx T 1 x0) (h_x2 : In 0 2 x2) (h_x4 : In 0 9999 x4) (h_x5 : Tx T 43 x5) : Ho (f_K_stepUp_B55  S x0 x2 x3 x4 x5 (0 : Int32)) (PX T kw_K67 S0 1 6 ["java/lang/IllegalArgumentException", "java/lang/IllegalStateException", "java/lang/IndexOutOfBoundsException"] (fun v => True)) := by
  unfold f_K_stepUp_B55
  refine r_rS (fun c1 => absurd rfl c1) ⟨(Rlweak (RlwX g) (by decide +kernel) (by decide) (by decide)), Or.inr ⟨_, rfl, by decide +kernel⟩⟩
theorem t_K_stepUp_B54 {T : Nat → Nat} {S0 S : AS} (g : Rl T [] S0 0 0 T S) {x0 : Option Nat} {x2 : Int32} {x3 : Int32} {x4 : Int32} {x5 : Option Nat} (h_x0 : Tx T 1 x0) (h_x2 : In 0 2 x2) (h_x4 : In 0 9999 x4) (h_x5 : Tx T 43 x5) : Ho (f_K_stepUp_B54  S x0 x2 x3 x4 x5) (PX T kw_K67 S0 1 6 ["java/lang/IllegalArgumentException", "java/lang/IllegalStateException", "java/lang/IndexOutOfBoundsException"] (fun v => True)) := by
  unfold f_K_stepUp_B54
  exact t_K_stepUp_B55_5c0 (Rlweak g (by decide +kernel) (by decide) (by decide))  h_x0 (In_w h_x2 (by decide) (by decide)) (In_w h_x4 (by decide) (by decide)) h_x5 
theorem t_K_stepUp_B31_5c1 {T : Nat → Nat} {S0 S : AS} (g : Rl T [] S0 0 0 T S) {x0 : Option Nat} {x2 : Int32} {x3 : Int32} {x4 : Int32} {x5 : Option Nat} (h_x0 : Tx T 1 x0) (h_x2 : In 0 2 x2) (h_x4 : In 0 9999 x4) (h_x5 : Tx T 43 x5) : Ho (f_K_stepUp_B31  S x0 x2 x3 x4 x5 (1 : Int32)) (PX T kw_K67 S0 1 6 ["java/lang/IllegalArgumentException", "java/lang/IllegalStateException", "java/lang/IndexOutOfBoundsException"] (fun v => True)) := by
  unfold f_K_stepUp_B31
  refine r_rA (fun c1 => ?_) ⟨(Rlweak (RlwX g) (by decide +kernel) (by decide) (by decide)), Or.inr ⟨_, rfl, by decide +kernel⟩⟩
  refine r_gIe g.1 h_x5 rfl (fun v19 b2 e3 => ?_)
  have q4 : In 0 1 v19 := b2 _ _ rfl
  refine r_if (fun c5 => ?_) (fun c5 => ?_)
  · have q6 : In 0 0 v19 := In_w (In_eq c5 (by decide : In 0 0 (0 : Int32))) (by decide) (by decide)
    exact t_K_stepUp_B54 (Rlweak g (by decide +kernel) (by decide) (by decide))  h_x0 (In_w h_x2 (by decide) (by decide)) (In_w h_x4 (by decide) (by decide)) h_x5 
  · have q7 : In 1 1 v19 := In_w (In_neL c5 q4 (by decide)) (by decide) (by decide)
    refine r_gRn g.1 h_x5 rfl rfl ?_ (fun v20 h8 => ?_)
    · refine r_ifT rfl ?_
      exact t_K_stepUp_B55_5c1 (Rlweak g (by decide +kernel) (by decide) (by decide))  h_x0 (In_w h_x2 (by decide) (by decide)) (In_w h_x4 (by decide) (by decide)) h_x5 
    · refine r_ifF (Tx.ne h8) ?_
      exact t_K_stepUp_B54 (Rlweak g (by decide +kernel) (by decide) (by decide))  h_x0 (In_w h_x2 (by decide) (by decide)) (In_w h_x4 (by decide) (by decide)) h_x5 
theorem t_K_stepUp_B31_5c0 {T : Nat → Nat} {S0 S : AS} (g : Rl T [] S0 0 0 T S) {x0 : Option Nat} {x2 : Int32} {x3 : Int32} {x4 : Int32} {x5 : Option Nat} (h_x0 : Tx T 1 x0) (h_x5 : Tx T 43 x5) : Ho (f_K_stepUp_B31  S x0 x2 x3 x4 x5 (0 : Int32)) (PX T kw_K67 S0 1 6 ["java/lang/IllegalArgumentException", "java/lang/IllegalStateException", "java/lang/IndexOutOfBoundsException"] (fun v => True)) := by
  unfold f_K_stepUp_B31
  refine r_rA (fun c1 => absurd rfl c1) ⟨(Rlweak (RlwX g) (by decide +kernel) (by decide) (by decide)), Or.inr ⟨_, rfl, by decide +kernel⟩⟩
theorem t_K_stepUp_B30 {T : Nat → Nat} {S0 S : AS} (g : Rl T [] S0 0 0 T S) {x0 : Option Nat} {x2 : Int32} {x3 : Int32} {x4 : Int32} {x5 : Option Nat} (h_x0 : Tx T 1 x0) (h_x5 : Tx T 43 x5) : Ho (f_K_stepUp_B30  S x0 x2 x3 x4 x5) (PX T kw_K67 S0 1 6 ["java/lang/IllegalArgumentException", "java/lang/IllegalStateException", "java/lang/IndexOutOfBoundsException"] (fun v => True)) := by
  unfold f_K_stepUp_B30
  exact t_K_stepUp_B31_5c0 (Rlweak g (by decide +kernel) (by decide) (by decide))  h_x0 h_x5 
theorem t_K_stepUp {T : Nat → Nat} {S : AS} (hT : TI T S) {a0 : Option Nat} {a1 : Int32} {a2 : Int32} {a3 : Int32} {a4 : Int32} (h_a0 : Tx T 1 a0) : Ho (f_K_stepUp  S a0 a1 a2 a3 a4) (PX T kw_K67 S 1 6 ["java/lang/IllegalArgumentException", "java/lang/IllegalStateException", "java/lang/IndexOutOfBoundsException"] (fun v => True)) := by
  have g0 := Rlrf hT
  unfold f_K_stepUp
  refine r_rv g0.1 h_a0 rfl ?_
  refine r_T (t_K_findSession g0.1 h_a0) (fun v23 h1 => ?_) (fun e he => ⟨(Rlweak (RlwX g0) (by decide +kernel) (by decide) (by decide)), Or.inr ⟨e, rfl, ((by decide +kernel : ∀ x ∈ (["java/lang/IndexOutOfBoundsException"] : List String), x ∈ (["java/lang/IllegalArgumentException", "java/lang/IllegalStateException", "java/lang/IndexOutOfBoundsException"] : List String)) e he)⟩⟩)
  refine r_Kf (fun q2 => ?_) ?_
  · have q3 : In 0 2 a2 := In_w q2 (by decide) (by decide)
    refine r_ifF (by decide) ?_
    refine r_Kw (fun p4 p4b => ?_) ?_
    · have q5 : In 0 2147483647 a4 := In_w (In_le2 p4 (by decide : In 0 0 (0 : Int32)) (In_top a4)) (by decide) (by decide)
      have q6 : In 0 9999 a4 := In_w (In_le1 p4b q5 (by decide : In 9999 9999 (9999 : Int32))) (by decide) (by decide)
      refine r_ifF (by decide) ?_
      exact t_K_stepUp_B31_5c1 (Rlweak g0 (by decide +kernel) (by decide) (by decide))  h_a0 (In_w q3 (by decide) (by decide)) (In_w q6 (by decide) (by decide)) h1 
    · refine r_ifT (by decide) ?_
      exact t_K_stepUp_B30 (Rlweak g0 (by decide +kernel) (by decide) (by decide))  h_a0 h1 
  · refine r_ifT (by decide) ?_
    exact t_K_stepUp_B30 (Rlweak g0 (by decide +kernel) (by decide) (by decide))  h_a0 h1 
theorem t_K_signOut {T : Nat → Nat} {S : AS} (hT : TI T S) {a0 : Option Nat} {a1 : Int32} (h_a0 : Tx T 1 a0) : Ho (f_K_signOut  S a0 a1) (PX T kw_K38 S 1 6 ["java/lang/IllegalStateException", "java/lang/IndexOutOfBoundsException"] (fun v => True)) := by
  have g0 := Rlrf hT
  unfold f_K_signOut
  refine r_rv g0.1 h_a0 rfl ?_
  refine r_T (t_K_findSession g0.1 h_a0) (fun v3 h1 => ?_) (fun e he => ⟨(Rlweak (RlwX g0) (by decide +kernel) (by decide) (by decide)), Or.inr ⟨e, rfl, ((by decide +kernel : ∀ x ∈ (["java/lang/IndexOutOfBoundsException"] : List String), x ∈ (["java/lang/IllegalStateException", "java/lang/IndexOutOfBoundsException"] : List String)) e he)⟩⟩)
  refine r_gIe g0.1 h1 rfl (fun v4 b2 e3 => ?_)
  have q4 : In 0 1 v4 := b2 _ _ rfl
  refine r_rS (fun c5 => ?_) ⟨(Rlweak (RlwX g0) (by decide +kernel) (by decide) (by decide)), Or.inr ⟨_, rfl, by decide +kernel⟩⟩
  refine r_gIe g0.1 h_a0 rfl (fun v7 b6 e7 => ?_)
  refine r_rv g0.1 h_a0 rfl ?_
  refine r_X (t_K_endSession g0.1 h_a0 h1) (fun z10 s9 g10 h8 => ?_) (fun e _ gg he => ⟨(Rlweak (Rltrans g0 gg (w' := kw_K38) (by decide +kernel)) (by decide +kernel) (by decide) (by decide)), Or.inr ⟨e, rfl, ((by decide +kernel : ∀ x ∈ ([] : List String), x ∈ (["java/lang/IllegalStateException", "java/lang/IndexOutOfBoundsException"] : List String)) e he)⟩⟩)
  have g11 : Rl T kw_K38 S 0 0 T s9 := Rltrans g0 g10 (by decide +kernel)
  refine r_gIe g11.1 h_a0 rfl (fun v11 b12 e13 => ?_)
  exact r_some ⟨(Rlweak g11 (by decide +kernel) (by decide) (by decide)), Or.inl ⟨_, rfl, trivial⟩⟩
theorem t_K_helper {T : Nat → Nat} {S : AS} (hT : TI T S) {a0 : Option Nat} {a1 : Int32} (h_a0 : Tx T 1 a0) : Ho (f_K_helper  S a0 a1) (PX T kw_K68 S 1 6 ["java/lang/IndexOutOfBoundsException"] (fun v => In 0 1 v)) := by
  have g0 := Rlrf hT
  unfold f_K_helper
  refine r_rv g0.1 h_a0 rfl ?_
  refine r_T (t_K_findPerson g0.1 h_a0) (fun v3 h1 => ?_) (fun e he => ⟨(Rlweak (RlwX g0) (by decide +kernel) (by decide) (by decide)), Or.inr ⟨e, rfl, ((by decide +kernel : ∀ x ∈ (["java/lang/IndexOutOfBoundsException"] : List String), x ∈ (["java/lang/IndexOutOfBoundsException"] : List String)) e he)⟩⟩)
  refine r_gIe g0.1 h1 rfl (fun v4 b2 e3 => ?_)
  have q4 : In 0 1 v4 := b2 _ _ rfl
  refine r_if (fun c5 => ?_) (fun c5 => ?_)
  · have q6 : In 0 0 v4 := In_w (In_eq c5 (by decide : In 0 0 (0 : Int32))) (by decide) (by decide)
    refine r_pZ (w' := kw_K68) g0 h1 rfl (by decide) (In_w (by decide : In 1 1 (1 : Int32)) (by decide) (by decide)) (fun _ _ q => by cases q; exact (In_w (by decide : In 1 1 (1 : Int32)) (by decide) (by decide))) rfl (by decide) (by decide +kernel) (by unfold phc; decide) (fun s7 g8 => ?_)
    refine r_gIe g8.1 h1 rfl (fun v6 b9 e10 => ?_)
    have q11 : In 0 1 v6 := b9 _ _ rfl
    refine r_z (In_w q11 (by decide) (by decide)) ?_
    exact r_some ⟨(Rlweak g8 (by decide +kernel) (by decide) (by decide)), Or.inl ⟨_, rfl, (In_w q11 (by decide) (by decide))⟩⟩
  · have q12 : In 1 1 v4 := In_w (In_neL c5 q4 (by decide)) (by decide) (by decide)
    refine r_pZ (w' := kw_K68) g0 h1 rfl (by decide) (In_w (by decide : In 0 0 (0 : Int32)) (by decide) (by decide)) (fun _ _ q => by cases q; exact (In_w (by decide : In 0 0 (0 : Int32)) (by decide) (by decide))) rfl (by decide) (by decide +kernel) (by unfold phc; decide) (fun s13 g14 => ?_)
    refine r_gIe g14.1 h1 rfl (fun v9 b15 e16 => ?_)
    have q17 : In 0 1 v9 := b15 _ _ rfl
    refine r_z (In_w q17 (by decide) (by decide)) ?_
    exact r_some ⟨(Rlweak g14 (by decide +kernel) (by decide) (by decide)), Or.inl ⟨_, rfl, (In_w q17 (by decide) (by decide))⟩⟩
theorem t_K_act_B99_3c0 {T0 T : Nat → Nat} {S0 S : AS} (g : Rl T0 [] S0 0 0 T S) {x0 : Option Nat} {x3 : Option Nat} {x4 : Option Nat} (h_x0 : Tx T 1 x0) (h_x3 : Tx T 43 x3) (h_x4 : Tx T 13 x4) : Ho (f_K_act_B99  S x0 x3 x4 (0 : Int32)) (PY T0 kw_K50 S0 4 343 ["java/lang/IllegalStateException", "java/lang/IndexOutOfBoundsException"] (fun v T' => In 0 60 v)) := by
  unfold f_K_act_B99
  refine r_rS (fun c1 => absurd rfl c1) ⟨_, (Rlweak (RlwX g) (by decide +kernel) (by decide) (by decide)), Or.inr ⟨_, rfl, by decide +kernel⟩⟩
theorem t_K_act_B99_3c1 {T0 T : Nat → Nat} {S0 S : AS} (g : Rl T0 [] S0 0 0 T S) {x0 : Option Nat} {x3 : Option Nat} {x4 : Option Nat} (h_x0 : Tx T 1 x0) (h_x3 : Tx T 43 x3) (h_x4 : Tx T 13 x4) (hfszlt2 : (sI S0 (lp 2) 2).toInt < 60) : Ho (f_K_act_B99  S x0 x3 x4 (1 : Int32)) (PY T0 kw_K50 S0 4 343 ["java/lang/IllegalStateException", "java/lang/IndexOutOfBoundsException"] (fun v T' => In 0 60 v)) := by
  unfold f_K_act_B99
  refine r_rS (fun c1 => ?_) ⟨_, (Rlweak (RlwX g) (by decide +kernel) (by decide) (by decide)), Or.inr ⟨_, rfl, by decide +kernel⟩⟩
  refine r_gR g.1 h_x3 rfl rfl (fun v3 h2 => ?_)
  refine r_rv g.1 h_x0 rfl ?_
  refine r_b2 (t_K_beginSession g.1 h_x0 h_x4 (Or.inr h_x3) h2 (Int.lt_of_lt_of_le (sz1 2 g (by decide) (by decide +kernel) hfszlt2) (by decide))) (fun v6 s4 h3 => ?_)
  obtain ⟨T6, g5, h3r⟩ := h3
  have g7 : Rl T0 kw_K50 S0 4 343 T6 s4 := Rltrans g g5 (by decide +kernel)
  have u8 := Tx.up h_x0 g5.ty
  have u9 := Tx.up h_x3 g5.ty
  have u10 := Tx.up h_x4 g5.ty
  have u11 := Tx.up h2 g5.ty
  exact r_some ⟨_, (Rlweak g7 (by decide +kernel) (by decide) (by decide)), Or.inl ⟨_, rfl, (In_w h3r (by decide) (by decide))⟩⟩
theorem t_K_act_B79_3c1 {T0 T : Nat → Nat} {S0 S : AS} (g : Rl T0 [] S0 0 0 T S) {x0 : Option Nat} {x3 : Option Nat} {x4 : Option Nat} (h_x0 : Tx T 1 x0) (h_x3 : Tx T 43 x3) (h_x4 : Tx T 13 x4) : Ho (f_K_act_B79  S x0 x3 x4 (1 : Int32)) (PY T0 kw_K50 S0 4 343 ["java/lang/IllegalStateException", "java/lang/IndexOutOfBoundsException"] (fun v T' => In 0 60 v)) := by
  unfold f_K_act_B79
  refine r_rS (fun c1 => ?_) ⟨_, (Rlweak (RlwX g) (by decide +kernel) (by decide) (by decide)), Or.inr ⟨_, rfl, by decide +kernel⟩⟩
  refine r_gR g.1 h_x0 rfl rfl (fun v9 h2 => ?_)
  refine r_rv g.1 h2 rfl ?_
  refine r_size 2 g.1 h2 (by decide) (fun v12 e3 => ?_)
  have q4 : In 0 60 v12 := by rw [e3]; exact sizeIn (q := 2) g.1 (by decide) rfl
  refine r_if (fun c5 => ?_) (fun c5 => ?_)
  · have q6 : In 60 60 v12 := In_w (In_le2 c5 (by decide : In 60 60 (60 : Int32)) q4) (by decide) (by decide)
    exact t_K_act_B99_3c0 (Rlweak g (by decide +kernel) (by decide) (by decide))  h_x0 h_x3 h_x4 
  · have z7 : (sI S0 (lp 2) 2).toInt < (60 : Int32).toInt := sz0 2 g (by decide) (by decide +kernel) e3 c5
    have q8 : In 0 59 v12 := In_w (In_lt1 (Int32.not_le.mp c5) q4 (by decide : In 60 60 (60 : Int32))) (by decide) (by decide)
    exact t_K_act_B99_3c1 (Rlweak g (by decide +kernel) (by decide) (by decide))  h_x0 h_x3 h_x4 (Int.lt_of_lt_of_le (show (sI S0 (lp 2) 2).toInt < 60 from z7) (by decide))
theorem t_K_act_B79_3c0 {T0 T : Nat → Nat} {S0 S : AS} (g : Rl T0 [] S0 0 0 T S) {x0 : Option Nat} {x3 : Option Nat} {x4 : Option Nat} (h_x0 : Tx T 1 x0) (h_x3 : Tx T 43 x3) (h_x4 : Tx T 13 x4) : Ho (f_K_act_B79  S x0 x3 x4 (0 : Int32)) (PY T0 kw_K50 S0 4 343 ["java/lang/IllegalStateException", "java/lang/IndexOutOfBoundsException"] (fun v T' => In 0 60 v)) := by
  unfold f_K_act_B79
  refine r_rS (fun c1 => absurd rfl c1) ⟨_, (Rlweak (RlwX g) (by decide +kernel) (by decide) (by decide)), Or.inr ⟨_, rfl, by decide +kernel⟩⟩
theorem t_K_act_B78 {T0 T : Nat → Nat} {S0 S : AS} (g : Rl T0 [] S0 0 0 T S) {x0 : Option Nat} {x3 : Option Nat} {x4 : Option Nat} (h_x0 : Tx T 1 x0) (h_x3 : Tx T 43 x3) (h_x4 : Tx T 13 x4) : Ho (f_K_act_B78  S x0 x3 x4) (PY T0 kw_K50 S0 4 343 ["java/lang/IllegalStateException", "java/lang/IndexOutOfBoundsException"] (fun v T' => In 0 60 v)) := by
  unfold f_K_act_B78
  exact t_K_act_B79_3c0 (Rlweak g (by decide +kernel) (by decide) (by decide))  h_x0 h_x3 h_x4 
theorem t_K_act_B44_3c1 {T0 T : Nat → Nat} {S0 S : AS} (g : Rl T0 [] S0 0 0 T S) {x0 : Option Nat} {x3 : Option Nat} {x4 : Option Nat} (h_x0 : Tx T 1 x0) (h_x3 : Tx T 43 x3) (h_x4 : Tx T 13 x4) : Ho (f_K_act_B44  S x0 x3 x4 (1 : Int32)) (PY T0 kw_K50 S0 4 343 ["java/lang/IllegalStateException", "java/lang/IndexOutOfBoundsException"] (fun v T' => In 0 60 v)) := by
  unfold f_K_act_B44
  refine r_rS (fun c1 => ?_) ⟨_, (Rlweak (RlwX g) (by decide +kernel) (by decide) (by decide)), Or.inr ⟨_, rfl, by decide +kernel⟩⟩
  refine r_gR g.1 h_x3 rfl rfl (fun v15 h2 => ?_)
  refine r_gIe g.1 h2 rfl (fun v16 b3 e4 => ?_)
  have q5 : In 0 1 v16 := b3 _ _ rfl
  refine r_if (fun c6 => ?_) (fun c6 => ?_)
  · have q7 : In 0 0 v16 := In_w (In_eq c6 (by decide : In 0 0 (0 : Int32))) (by decide) (by decide)
    exact t_K_act_B78 (Rlweak g (by decide +kernel) (by decide) (by decide))  h_x0 h_x3 h_x4 
  · have q8 : In 1 1 v16 := In_w (In_neL c6 q5 (by decide)) (by decide) (by decide)
    refine r_gR g.1 h_x3 rfl rfl (fun v17 h9 => ?_)
    refine r_ac g.1 h9 (by decide) ?_
    refine r_ac g.1 h_x4 (by decide) ?_
    refine r_if (fun c10 => ?_) (fun c10 => ?_)
    · exact t_K_act_B78 (Rlweak g (by decide +kernel) (by decide) (by decide))  h_x0 h_x3 h_x4
    · refine r_gIe g.1 h_x4 rfl (fun v20 b11 e12 => ?_)
      have q13 : In 0 1 v20 := b11 _ _ rfl
      refine r_if (fun c14 => ?_) (fun c14 => ?_)
      · have q15 : In 0 0 v20 := In_w (In_eq c14 (by decide : In 0 0 (0 : Int32))) (by decide) (by decide)
        exact t_K_act_B79_3c1 (Rlweak g (by decide +kernel) (by decide) (by decide))  h_x0 h_x3 h_x4 
      · have q16 : In 1 1 v20 := In_w (In_neL c14 q13 (by decide)) (by decide) (by decide)
        exact t_K_act_B78 (Rlweak g (by decide +kernel) (by decide) (by decide))  h_x0 h_x3 h_x4 
theorem t_K_act_B44_3c0 {T0 T : Nat → Nat} {S0 S : AS} (g : Rl T0 [] S0 0 0 T S) {x0 : Option Nat} {x3 : Option Nat} {x4 : Option Nat} (h_x0 : Tx T 1 x0) (h_x3 : Tx T 43 x3) (h_x4 : Tx T 13 x4) : Ho (f_K_act_B44  S x0 x3 x4 (0 : Int32)) (PY T0 kw_K50 S0 4 343 ["java/lang/IllegalStateException", "java/lang/IndexOutOfBoundsException"] (fun v T' => In 0 60 v)) := by
  unfold f_K_act_B44
  refine r_rS (fun c1 => absurd rfl c1) ⟨_, (Rlweak (RlwX g) (by decide +kernel) (by decide) (by decide)), Or.inr ⟨_, rfl, by decide +kernel⟩⟩
theorem t_K_act_B43 {T0 T : Nat → Nat} {S0 S : AS} (g : Rl T0 [] S0 0 0 T S) {x0 : Option Nat} {x3 : Option Nat} {x4 : Option Nat} (h_x0 : Tx T 1 x0) (h_x3 : Tx T 43 x3) (h_x4 : Tx T 13 x4) : Ho (f_K_act_B43  S x0 x3 x4) (PY T0 kw_K50 S0 4 343 ["java/lang/IllegalStateException", "java/lang/IndexOutOfBoundsException"] (fun v T' => In 0 60 v)) := by
  unfold f_K_act_B43
  exact t_K_act_B44_3c0 (Rlweak g (by decide +kernel) (by decide) (by decide))  h_x0 h_x3 h_x4 
theorem t_K_act {T : Nat → Nat} {S : AS} (hT : TI T S) {a0 : Option Nat} {a1 : Int32} {a2 : Int32} (h_a0 : Tx T 1 a0) : Ho (f_K_act  S a0 a1 a2) (PY T kw_K50 S 4 343 ["java/lang/IllegalStateException", "java/lang/IndexOutOfBoundsException"] (fun v T' => In 0 60 v)) := by
  have g0 := Rlrf hT
  unfold f_K_act
  refine r_rv g0.1 h_a0 rfl ?_
  refine r_T (t_K_findSession g0.1 h_a0) (fun v23 h1 => ?_) (fun e he => ⟨_, (Rlweak (RlwX g0) (by decide +kernel) (by decide) (by decide)), Or.inr ⟨e, rfl, ((by decide +kernel : ∀ x ∈ (["java/lang/IndexOutOfBoundsException"] : List String), x ∈ (["java/lang/IllegalStateException", "java/lang/IndexOutOfBoundsException"] : List String)) e he)⟩⟩)
  refine r_rv g0.1 h_a0 rfl ?_
  refine r_T (t_K_findPerson g0.1 h_a0) (fun v26 h2 => ?_) (fun e he => ⟨_, (Rlweak (RlwX g0) (by decide +kernel) (by decide) (by decide)), Or.inr ⟨e, rfl, ((by decide +kernel : ∀ x ∈ (["java/lang/IndexOutOfBoundsException"] : List String), x ∈ (["java/lang/IllegalStateException", "java/lang/IndexOutOfBoundsException"] : List String)) e he)⟩⟩)
  refine r_gIe g0.1 h1 rfl (fun v27 b3 e4 => ?_)
  have q5 : In 0 1 v27 := b3 _ _ rfl
  refine r_if (fun c6 => ?_) (fun c6 => ?_)
  · have q7 : In 0 0 v27 := In_w (In_eq c6 (by decide : In 0 0 (0 : Int32))) (by decide) (by decide)
    exact t_K_act_B43 (Rlweak g0 (by decide +kernel) (by decide) (by decide))  h_a0 h1 h2 
  · have q8 : In 1 1 v27 := In_w (In_neL c6 q5 (by decide)) (by decide) (by decide)
    refine r_gRn g0.1 h1 rfl rfl ?_ (fun v28 h9 => ?_)
    · refine r_ifT rfl ?_
      refine r_gIe g0.1 h_a0 rfl (fun v29 b10 e11 => ?_)
      refine r_rv g0.1 h1 rfl ?_
      refine r_P (P := fun v => True) (t_Session_levelAt g0.1 h1) (fun v32 h12 => ?_)
      refine r_if (fun c13 => ?_) (fun c13 => ?_)
      · have q14 : In (-2147483648) 2 v32 := In_w (In_lt1 c13 (In_top v32) (by decide : In 3 3 (3 : Int32))) (by decide) (by decide)
        exact t_K_act_B43 (Rlweak g0 (by decide +kernel) (by decide) (by decide))  h_a0 h1 h2 
      · have q15 : In 3 2147483647 v32 := In_w (In_le2 (Int32.not_lt.mp c13) (by decide : In 3 3 (3 : Int32)) (In_top v32)) (by decide) (by decide)
        exact t_K_act_B44_3c1 (Rlweak g0 (by decide +kernel) (by decide) (by decide))  h_a0 h1 h2 
    · refine r_ifF (Tx.ne h9) ?_
      exact t_K_act_B43 (Rlweak g0 (by decide +kernel) (by decide) (by decide))  h_a0 h1 h2 
theorem t_K_consent_B20_2t8 {T : Nat → Nat} {S0 S : AS} (g : Rl T [] S0 0 0 T S) {x2 : Int32} {x3 : Int32} {y0 : Option Nat} (h_y0 : Tx T 8 y0) : Ho (f_K_consent_B20  S x2 x3 y0) (PX T kw_K71 S0 1 6 ["java/lang/IllegalArgumentException", "java/lang/IndexOutOfBoundsException"] (fun v => True)) := by
  unfold f_K_consent_B20
  refine r_aN g.1 h_y0 (by decide) rfl (by decide) (fun v1 q1 => ?_)
  have q1n : In 4 4 v1 := q1
  refine r_rI (fun p2 c3 => ?_) ⟨(Rlweak (RlwX g) (by decide +kernel) (by decide) (by decide)), Or.inr ⟨_, rfl, by decide +kernel⟩⟩
  have q4 : In 0 2147483647 x2 := ⟨p2, (In_top x2).2⟩
  have q5 : In 0 3 x2 := In_w (In_lt1 c3 q4 q1n) (by decide) (by decide)
  refine r_Kw (fun p6 p6b => ?_) ?_
  · have q7 : In 0 2147483647 x3 := In_w (In_le2 p6 (by decide : In 0 0 (0 : Int32)) (In_top x3)) (by decide) (by decide)
    have q8 : In 0 15 x3 := In_w (In_le1 p6b q7 (by decide : In 15 15 (15 : Int32))) (by decide) (by decide)
    refine r_rA (fun c9 => ?_) ⟨(Rlweak (RlwX g) (by decide +kernel) (by decide) (by decide)), Or.inr ⟨_, rfl, by decide +kernel⟩⟩
    refine r_aI g.1 h_y0 rfl rfl (In_w q5 (by decide) (by decide) : In 0 3 x2) (by decide) (fun v8 b10 => ?_)
    refine r_bI (w' := kw_K69) g h_y0 rfl rfl (In_w q5 (by decide) (by decide) : In 0 3 x2) (by decide) (fun _ _ _ q => by cases q) (fun _ => rfl) (by decide) (by decide +kernel) (fun _ => by unfold phc; omega) (fun s11 g12 => ?_)
    refine r_aI g12.1 h_y0 rfl rfl (In_w q5 (by decide) (by decide) : In 0 3 x2) (by decide) (fun v10 b13 => ?_)
    exact r_some ⟨(Rlweak g12 (by decide +kernel) (by decide) (by decide)), Or.inl ⟨_, rfl, trivial⟩⟩
  · refine r_rA (fun c14 => absurd rfl c14) ⟨(Rlweak (RlwX g) (by decide +kernel) (by decide) (by decide)), Or.inr ⟨_, rfl, by decide +kernel⟩⟩
theorem t_K_consent_B20_2t16 {T : Nat → Nat} {S0 S : AS} (g : Rl T [] S0 0 0 T S) {x2 : Int32} {x3 : Int32} {y0 : Option Nat} (h_y0 : Tx T 16 y0) : Ho (f_K_consent_B20  S x2 x3 y0) (PX T kw_K71 S0 1 6 ["java/lang/IllegalArgumentException", "java/lang/IndexOutOfBoundsException"] (fun v => True)) := by
  unfold f_K_consent_B20
  refine r_aN g.1 h_y0 (by decide) rfl (by decide) (fun v1 q1 => ?_)
  have q1n : In 4 4 v1 := q1
  refine r_rI (fun p2 c3 => ?_) ⟨(Rlweak (RlwX g) (by decide +kernel) (by decide) (by decide)), Or.inr ⟨_, rfl, by decide +kernel⟩⟩
  have q4 : In 0 2147483647 x2 := ⟨p2, (In_top x2).2⟩
  have q5 : In 0 3 x2 := In_w (In_lt1 c3 q4 q1n) (by decide) (by decide)
  refine r_Kw (fun p6 p6b => ?_) ?_
  · have q7 : In 0 2147483647 x3 := In_w (In_le2 p6 (by decide : In 0 0 (0 : Int32)) (In_top x3)) (by decide) (by decide)
    have q8 : In 0 15 x3 := In_w (In_le1 p6b q7 (by decide : In 15 15 (15 : Int32))) (by decide) (by decide)
    refine r_rA (fun c9 => ?_) ⟨(Rlweak (RlwX g) (by decide +kernel) (by decide) (by decide)), Or.inr ⟨_, rfl, by decide +kernel⟩⟩
    refine r_aI g.1 h_y0 rfl rfl (In_w q5 (by decide) (by decide) : In 0 3 x2) (by decide) (fun v8 b10 => ?_)
    refine r_bI (w' := kw_K70) g h_y0 rfl rfl (In_w q5 (by decide) (by decide) : In 0 3 x2) (by decide) (fun _ _ _ q => by cases q) (fun _ => rfl) (by decide) (by decide +kernel) (fun _ => by unfold phc; omega) (fun s11 g12 => ?_)
    refine r_aI g12.1 h_y0 rfl rfl (In_w q5 (by decide) (by decide) : In 0 3 x2) (by decide) (fun v10 b13 => ?_)
    exact r_some ⟨(Rlweak g12 (by decide +kernel) (by decide) (by decide)), Or.inl ⟨_, rfl, trivial⟩⟩
  · refine r_rA (fun c14 => absurd rfl c14) ⟨(Rlweak (RlwX g) (by decide +kernel) (by decide) (by decide)), Or.inr ⟨_, rfl, by decide +kernel⟩⟩
theorem t_K_consent {T : Nat → Nat} {S : AS} (hT : TI T S) {a0 : Option Nat} {a1 : Int32} {a2 : Int32} {a3 : Int32} (h_a0 : Tx T 1 a0) : Ho (f_K_consent  S a0 a1 a2 a3) (PX T kw_K71 S 1 6 ["java/lang/IllegalArgumentException", "java/lang/IndexOutOfBoundsException"] (fun v => True)) := by
  have g0 := Rlrf hT
  unfold f_K_consent
  refine r_if (fun c1 => ?_) (fun c1 => ?_)
  · have q2 : In (-1) (-1) a1 := In_w (In_eq c1 (by decide : In (-1) (-1) (-1 : Int32))) (by decide) (by decide)
    refine r_gR g0.1 h_a0 rfl rfl (fun v11 h3 => ?_)
    exact t_K_consent_B20_2t8 (Rlweak g0 (by decide +kernel) (by decide) (by decide))  h3 
  · refine r_rv g0.1 h_a0 rfl ?_
    refine r_T (t_K_findPerson g0.1 h_a0) (fun v14 h4 => ?_) (fun e he => ⟨(Rlweak (RlwX g0) (by decide +kernel) (by decide) (by decide)), Or.inr ⟨e, rfl, ((by decide +kernel : ∀ x ∈ (["java/lang/IndexOutOfBoundsException"] : List String), x ∈ (["java/lang/IllegalArgumentException", "java/lang/IndexOutOfBoundsException"] : List String)) e he)⟩⟩)
    refine r_gR g0.1 h4 rfl rfl (fun v15 h5 => ?_)
    exact t_K_consent_B20_2t16 (Rlweak g0 (by decide +kernel) (by decide) (by decide))  h5 
theorem t_K_withdraw_B92 {T : Nat → Nat} {S0 S : AS} (g : Rl T kw_K72 S0 0 0 T S) {x0 : Option Nat} {x2 : Int32} {x3 : Option Nat} {x4 : Int32} {x5 : Int32} {k28 : AS → Option Nat → Int32 → Option Nat → Int32 → Int32 → Option ((Int32 ⊕ String) × AS)} {n28 : Nat} (hk28 : ∀ (S' : AS) (z0 : Option Nat) (z1 : Int32) (z2 : Option Nat) (z3 : Int32) (z4 : Int32), Rl T kw_K72 S0 0 0 T S' → Tx T 1 z0 → In 0 3 z1 → Tx T 13 z2 → In 0 200 z4 → (200 + 1 : Int) ≤ z4.toInt + (n28 : Int) → Ho (k28 S' z0 z1 z2 z3 z4) (PX T kw_K72 S0 1 6 ["java/lang/IndexOutOfBoundsException"] (fun v => True))) (hm28 : (200 + 1 : Int) ≤ x5.toInt + ((n28 + 1 : Nat) : Int)) (h_x0 : Tx T 1 x0) (h_x2 : In 0 3 x2) (h_x3 : Tx T 13 x3) (h_x5 : In 0 199 x5) : Ho (f_K_withdraw_B92 k28 S x0 x2 x3 x4 x5) (PX T kw_K72 S0 1 6 ["java/lang/IndexOutOfBoundsException"] (fun v => True)) := by
  unfold f_K_withdraw_B92
  refine r_val ?_
  generalize ei1 : (x5 + (1 : Int32)) = i1
  have qi1 : In 1 200 i1 := by rw [← ei1]; exact (In_w (In_add h_x5 (by decide : In 1 1 (1 : Int32)) (by decide) (by decide)) (by decide) (by decide) : In 1 200 (x5 + (1 : Int32)))
  exact hk28 S x0 x2 x3 x4 i1 (Rlweak g (by decide +kernel) (by decide) (by decide)) h_x0 (In_w h_x2 (by decide) (by decide)) h_x3 (In_w qi1 (by decide) (by decide))  (by rw [← ei1, toInt_add1 h_x5 (by decide) (by decide)]; omega)
theorem t_K_withdraw_C28 {T : Nat → Nat} {S0 S : AS} (g : Rl T kw_K72 S0 0 0 T S) {x0 : Option Nat} {x2 : Int32} {x3 : Option Nat} {x4 : Int32} {x5 : Int32} {k28 : AS → Option Nat → Int32 → Option Nat → Int32 → Int32 → Option ((Int32 ⊕ String) × AS)} {n28 : Nat} (hk28 : ∀ (S' : AS) (z0 : Option Nat) (z1 : Int32) (z2 : Option Nat) (z3 : Int32) (z4 : Int32), Rl T kw_K72 S0 0 0 T S' → Tx T 1 z0 → In 0 3 z1 → Tx T 13 z2 → In 0 200 z4 → (200 + 1 : Int) ≤ z4.toInt + (n28 : Int) → Ho (k28 S' z0 z1 z2 z3 z4) (PX T kw_K72 S0 1 6 ["java/lang/IndexOutOfBoundsException"] (fun v => True))) (hm28 : (200 + 1 : Int) ≤ x5.toInt + ((n28 + 1 : Nat) : Int)) (h_x0 : Tx T 1 x0) (h_x2 : In 0 3 x2) (h_x3 : Tx T 13 x3) (h_x5 : In 0 200 x5) : Ho (f_K_withdraw_C28 k28 S x0 x2 x3 x4 x5) (PX T kw_K72 S0 1 6 ["java/lang/IndexOutOfBoundsException"] (fun v => True)) := by
  unfold f_K_withdraw_C28
  refine r_gR g.1 h_x0 rfl rfl (fun v2 h1 => ?_)
  refine r_rv g.1 h1 rfl ?_
  refine r_size 4 g.1 h1 (by decide) (fun v5 e2 => ?_)
  have q3 : In 0 200 v5 := by rw [e2]; exact sizeIn (q := 4) g.1 (by decide) rfl
  refine r_if (fun c4 => ?_) (fun c4 => ?_)
  · exact r_some ⟨(Rlweak g (by decide +kernel) (by decide) (by decide)), Or.inl ⟨_, rfl, trivial⟩⟩
  · have q5 : In 0 199 x5 := In_w (In_lt1 (Int32.not_le.mp c4) h_x5 q3) (by decide) (by decide)
    have q6 : In 1 200 v5 := In_w (In_lt2 (Int32.not_le.mp c4) h_x5 q3) (by decide) (by decide)
    refine r_gR g.1 h_x0 rfl rfl (fun v6 h7 => ?_)
    refine r_rv g.1 h7 rfl ?_
    refine r_P (ho_get 4 g.1 h7 (by decide) (In_w q5 (by decide) (Int.le_refl _) : In 0 199 x5).1 (sz_lt c4 e2)) (fun v9 (h8 : Tx T 44 v9) => ?_)
    refine r_cc g.1 h8 rfl ?_
    refine r_gIe g.1 h8 rfl (fun v11 b9 e10 => ?_)
    have q11 : In 0 1 v11 := b9 _ _ rfl
    refine r_if (fun c12 => ?_) (fun c12 => ?_)
    · have q13 : In 0 0 v11 := In_w (In_eq c12 (by decide : In 0 0 (0 : Int32))) (by decide) (by decide)
      exact t_K_withdraw_B92 (Rlweak g (by decide +kernel) (by decide) (by decide)) hk28 hm28 h_x0 (In_w h_x2 (by decide) (by decide)) h_x3 (In_w q5 (by decide) (by decide)) 
    · have q14 : In 1 1 v11 := In_w (In_neL c12 q11 (by decide)) (by decide) (by decide)
      refine r_gR g.1 h8 rfl rfl (fun v12 h15 => ?_)
      refine r_gR g.1 h15 rfl rfl (fun v13 h16 => ?_)
      refine r_ac g.1 h16 (by decide) ?_
      refine r_ac g.1 h_x3 (by decide) ?_
      refine r_if (fun c17 => ?_) (fun c17 => ?_)
      · refine r_gIe g.1 h8 rfl (fun v16 b18 e19 => ?_)
        refine r_if (fun c20 => ?_) (fun c20 => ?_)
        · have q21 : In 0 3 v16 := In_w (In_eq c20 h_x2) (by decide) (by decide)
          refine r_rv g.1 h_x0 rfl ?_
          refine r_X (t_K_endFamily g.1 h_x0 h8) (fun z19 s23 g24 h22 => ?_) (fun e _ gg he => ⟨(Rlweak (Rltrans g gg (w' := kw_K72) (by decide +kernel)) (by decide +kernel) (by decide) (by decide)), Or.inr ⟨e, rfl, ((by decide +kernel : ∀ x ∈ ([] : List String), x ∈ (["java/lang/IndexOutOfBoundsException"] : List String)) e he)⟩⟩)
          have g25 : Rl T kw_K72 S0 0 0 T s23 := Rltrans g g24 (by decide +kernel)
          refine r_val ?_
          generalize ei20 : (x4 + (1 : Int32)) = i20
          exact t_K_withdraw_B92 (Rlweak g25 (by decide +kernel) (by decide) (by decide)) hk28 hm28 h_x0 (In_w h_x2 (by decide) (by decide)) h_x3 (In_w q5 (by decide) (by decide)) 
        · exact t_K_withdraw_B92 (Rlweak g (by decide +kernel) (by decide) (by decide)) hk28 hm28 h_x0 (In_w h_x2 (by decide) (by decide)) h_x3 (In_w q5 (by decide) (by decide))
      · exact t_K_withdraw_B92 (Rlweak g (by decide +kernel) (by decide) (by decide)) hk28 hm28 h_x0 (In_w h_x2 (by decide) (by decide)) h_x3 (In_w q5 (by decide) (by decide))
theorem t_K_withdraw_L28 {T : Nat → Nat} {S0 : AS} : ∀ (n : Nat) (S : AS) (x0 : Option Nat) (x2 : Int32) (x3 : Option Nat) (x4 : Int32) (x5 : Int32), Rl T kw_K72 S0 0 0 T S → Tx T 1 x0 → In 0 3 x2 → Tx T 13 x3 → In 0 200 x5 → (200 + 1 : Int) ≤ x5.toInt + (n : Int) → Ho (f_K_withdraw_L28  n S x0 x2 x3 x4 x5) (PX T kw_K72 S0 1 6 ["java/lang/IndexOutOfBoundsException"] (fun v => True)) := by
  intro n
  induction n with
  | zero =>
    intro S x0 x2 x3 x4 x5 g h_x0 h_x2 h_x3 h_x5 hm
    exact absurd hm (by have := h_x5.2; omega)
  | succ n ih =>
    intro S x0 x2 x3 x4 x5 g h_x0 h_x2 h_x3 h_x5 hm
    exact t_K_withdraw_C28 g  (fun S' z0 z1 z2 z3 z4 g' a_h_x0 a_h_x2 a_h_x3 a_h_x5 am => ih S' z0 z1 z2 z3 z4 g' a_h_x0 a_h_x2 a_h_x3 a_h_x5 am) hm h_x0 h_x2 h_x3 h_x5 
theorem t_K_withdraw {T : Nat → Nat} {S : AS} (hT : TI T S) {a0 : Option Nat} {a1 : Int32} {a2 : Int32} (h_a0 : Tx T 1 a0) : Ho (f_K_withdraw  S a0 a1 a2) (PX T kw_K72 S 1 6 ["java/lang/IndexOutOfBoundsException"] (fun v => True)) := by
  have g0 := Rlrf hT
  unfold f_K_withdraw
  refine r_rv g0.1 h_a0 rfl ?_
  refine r_T (t_K_findPerson g0.1 h_a0) (fun v23 h1 => ?_) (fun e he => ⟨(Rlweak (RlwX g0) (by decide +kernel) (by decide) (by decide)), Or.inr ⟨e, rfl, ((by decide +kernel : ∀ x ∈ (["java/lang/IndexOutOfBoundsException"] : List String), x ∈ (["java/lang/IndexOutOfBoundsException"] : List String)) e he)⟩⟩)
  refine r_gR g0.1 h1 rfl rfl (fun v24 h2 => ?_)
  refine r_aN g0.1 h2 (by decide) rfl (by decide) (fun v25 q3 => ?_)
  have q3n : In 4 4 v25 := q3
  refine r_rI (fun p4 c5 => ?_) ⟨(Rlweak (RlwX g0) (by decide +kernel) (by decide) (by decide)), Or.inr ⟨_, rfl, by decide +kernel⟩⟩
  have q6 : In 0 2147483647 a2 := ⟨p4, (In_top a2).2⟩
  have q7 : In 0 3 a2 := In_w (In_lt1 c5 q6 q3n) (by decide) (by decide)
  refine r_gR g0.1 h1 rfl rfl (fun v28 h8 => ?_)
  refine r_bI (w' := kw_K70) g0 h8 rfl rfl (In_w q7 (by decide) (by decide) : In 0 3 a2) (by decide) (fun _ _ _ q => by cases q) (fun _ => rfl) (by decide) (by decide +kernel) (fun _ => by unfold phc; omega) (fun s9 g10 => ?_)
  exact t_K_withdraw_L28   kr_FU s9 a0 a2 v23 (0 : Int32) (0 : Int32) (Rlweak g10 (by decide +kernel) (by decide) (by decide)) h_a0 (In_w q7 (by decide) (by decide)) h1 (In_w (by decide : In 0 0 (0 : Int32)) (by decide) (by decide))  (by decide)
theorem t_K_need {T : Nat → Nat} {S : AS} (hT : TI T S) {a0 : Option Nat} {a1 : Int32} {a2 : Int32} (h_a0 : Tx T 1 a0) : Ho (f_K_need  S a0 a1 a2) (PX T kw_K73 S 1 6 ["java/lang/IllegalArgumentException", "java/lang/IndexOutOfBoundsException"] (fun v => True)) := by
  have g0 := Rlrf hT
  unfold f_K_need
  refine r_rv g0.1 h_a0 rfl ?_
  refine r_T (t_K_findService g0.1 h_a0) (fun v3 h1 => ?_) (fun e he => ⟨(Rlweak (RlwX g0) (by decide +kernel) (by decide) (by decide)), Or.inr ⟨e, rfl, ((by decide +kernel : ∀ x ∈ (["java/lang/IndexOutOfBoundsException"] : List String), x ∈ (["java/lang/IllegalArgumentException", "java/lang/IndexOutOfBoundsException"] : List String)) e he)⟩⟩)
  refine r_Kw (fun p2 p2b => ?_) ?_
  · have q3 : In 0 2147483647 a2 := In_w (In_le2 p2 (by decide : In 0 0 (0 : Int32)) (In_top a2)) (by decide) (by decide)
    have q4 : In 0 6 a2 := In_w (In_le1 p2b q3 (by decide : In 6 6 (6 : Int32))) (by decide) (by decide)
    refine r_rA (fun c5 => ?_) ⟨(Rlweak (RlwX g0) (by decide +kernel) (by decide) (by decide)), Or.inr ⟨_, rfl, by decide +kernel⟩⟩
    refine r_gIe g0.1 h1 rfl (fun v8 b6 e7 => ?_)
    refine r_pI (w' := kw_K73) g0 h1 rfl (by decide) (fun _ _ q => by cases q) rfl (by decide) (by decide +kernel) (by unfold phc; decide) (fun s8 g9 => ?_)
    exact r_some ⟨(Rlweak g9 (by decide +kernel) (by decide) (by decide)), Or.inl ⟨_, rfl, trivial⟩⟩
  · refine r_rA (fun c10 => absurd rfl c10) ⟨(Rlweak (RlwX g0) (by decide +kernel) (by decide) (by decide)), Or.inr ⟨_, rfl, by decide +kernel⟩⟩
theorem t_K_consentedTo {T : Nat → Nat} {S : AS} (hT : TI T S) {a0 : Option Nat} {a1 : Option Nat} {a2 : Int32} (h_a0 : Tx T 1 a0) (h_a1 : Tx T 13 a1) : Ho (f_K_consentedTo  S a0 a1 a2) (fun q => q.2 = S ∧ True) := by
  unfold f_K_consentedTo
  refine r_if (fun c1 => ?_) (fun c1 => ?_)
  · have q2 : In (-2147483648) (-1) a2 := In_w (In_lt1 c1 (In_top a2) (by decide : In 0 0 (0 : Int32))) (by decide) (by decide)
    exact r_some ⟨rfl, trivial⟩
  · have q3 : In 0 2147483647 a2 := In_w (In_le2 (Int32.not_lt.mp c1) (by decide : In 0 0 (0 : Int32)) (In_top a2)) (by decide) (by decide)
    refine r_gR hT h_a0 rfl rfl (fun v1 h4 => ?_)
    refine r_aN hT h4 (by decide) rfl (by decide) (fun v2 q5 => ?_)
    have q5n : In 4 4 v2 := q5
    refine r_if (fun c6 => ?_) (fun c6 => ?_)
    · have q7 : In 4 2147483647 a2 := In_w (In_le2 c6 q5n q3) (by decide) (by decide)
      exact r_some ⟨rfl, trivial⟩
    · have q8 : In 0 3 a2 := In_w (In_lt1 (Int32.not_le.mp c6) q3 q5n) (by decide) (by decide)
      refine r_gR hT h_a1 rfl rfl (fun v3 h9 => ?_)
      refine r_aN hT h9 (by decide) rfl (by decide) (fun v4 q10 => ?_)
      have q10n : In 4 4 v4 := q10
      refine r_if (fun c11 => ?_) (fun c11 => ?_)
      · refine r_gR hT h_a0 rfl rfl (fun v5 h12 => ?_)
        refine r_aI hT h12 rfl rfl (In_w q8 (by decide) (by decide) : In 0 3 a2) (by decide) (fun v6 b13 => ?_)
        refine r_gR hT h_a1 rfl rfl (fun v7 h14 => ?_)
        refine r_aI hT h14 rfl rfl (In_w q8 (by decide) (by decide) : In 0 3 a2) (by decide) (fun v8 b15 => ?_)
        exact r_some ⟨rfl, trivial⟩
      · have q16 : In 4 3 v4 := In_w (In_le1 (Int32.not_lt.mp c11) q10n q8) (by decide) (by decide)
        exact absurd q16.1 (by have := q16.2; omega)
theorem t_K_authorize_B55_6c1 {T0 T : Nat → Nat} {S0 S : AS} (g : Rl T0 [] S0 0 0 T S) {x0 : Option Nat} {x2 : Int32} {x3 : Int32} {x4 : Int32} {x5 : Option Nat} {x6 : Option Nat} (h_x0 : Tx T 1 x0) (h_x2 : In 0 3 x2) (h_x4 : In 1 15 x4) (h_x5 : Tx T 43 x5) (h_x6 : Tx T 17 x6) (hfszlt3 : (sI S0 (lp 3) 2).toInt < 60) : Ho (f_K_authorize_B55  S x0 x2 x3 x4 x5 x6 (1 : Int32)) (PY T0 kw_K74 S0 2 320 ["java/lang/IllegalArgumentException", "java/lang/IllegalStateException", "java/lang/IndexOutOfBoundsException"] (fun v T' => In (-3) 59 v)) := by
  unfold f_K_authorize_B55
  refine r_rS (fun c1 => ?_) ⟨_, (Rlweak (RlwX g) (by decide +kernel) (by decide) (by decide)), Or.inr ⟨_, rfl, by decide +kernel⟩⟩
  refine r_gIe g.1 h_x0 rfl (fun v3 b2 e3 => ?_)
  refine r_pI (w' := kw_K65) g h_x5 rfl (by decide) (fun _ _ q => by cases q) rfl (by decide) (by decide +kernel) (by unfold phc; decide) (fun s4 g5 => ?_)
  refine r_gR g5.1 h_x5 rfl rfl (fun v5 h6 => ?_)
  refine r_rv g5.1 h_x0 rfl ?_
  refine r_P (P := fun v => True) (t_K_consentedTo g5.1 h_x0 h6) (fun v8 h7 => ?_)
  refine r_if (fun c8 => ?_) (fun c8 => ?_)
  · refine r_gIe g5.1 h_x0 rfl (fun v9 b9 e10 => ?_)
    refine r_rv g5.1 h_x5 rfl ?_
    refine r_P (P := fun v => True) (t_Session_levelAt g5.1 h_x5) (fun v12 h11 => ?_)
    refine r_gIe g5.1 h_x6 rfl (fun v13 b12 e13 => ?_)
    refine r_if (fun c14 => ?_) (fun c14 => ?_)
    · refine r_gR g5.1 h_x0 rfl rfl (fun v14 h15 => ?_)
      refine r_nO g5 (by decide) (fun s16 g17 r18 k19 => ?_)
      refine r_gIe g17.1 h_x0 rfl (fun v16 b20 e21 => ?_)
      refine r_bind (ho_Grant g17 r18 h_x5) (fun s22 h26 => ?_)
      obtain ⟨T24, g23, m25⟩ := h26
      have g27 : Rl T0 kw_K65 S0 1 20 T24 s22 := g23
      have u28 := Tx.up h_x0 m25.2.1
      have u29 := Tx.up h_x5 m25.2.1
      have u30 := Tx.up h_x6 m25.2.1
      have u31 := Tx.up h6 m25.2.1
      have u32 := Tx.up h15 m25.2.1
      refine r_rv g27.1 u32 rfl ?_
      refine r_b2 (ho_add (w' := kw_K74) 3 g27 u32 (by decide) (⟨_, rfl, m25.1, by decide⟩ : Tx T24 44 (some (sN s4))) rfl (Int.lt_of_lt_of_le (sz1 3 g27 (by decide) (by decide +kernel) hfszlt3) (by decide)) (by decide) (by decide +kernel)) (fun v20 s33 h37 => ?_)
      obtain ⟨T34, g35, e36, e36s⟩ := h37
      have g38 : Rl T0 kw_K74 S0 2 320 T34 s33 := g35
      have u39 := Tx.up u28 e36
      have u40 := Tx.up u29 e36
      have u41 := Tx.up u30 e36
      have u42 := Tx.up u31 e36
      have u43 := Tx.up u32 e36
      have u44 := Tx.up (⟨_, rfl, m25.1, by decide⟩ : Tx T24 44 (some (sN s4))) e36
      refine r_gR g38.1 u39 rfl rfl (fun v21 h45 => ?_)
      refine r_rv g38.1 h45 rfl ?_
      refine r_size 3 g38.1 h45 (by decide) (fun v24 e46 => ?_)
      have q47 : In 0 60 v24 := by rw [e46]; exact sizeIn (q := 3) g38.1 (by decide) rfl
      exact r_some ⟨_, (Rlweak g38 (by decide +kernel) (by decide) (by decide)), Or.inl ⟨_, rfl, (In_w (In_w (In_sub q47 (by decide : In 1 1 (1 : Int32)) (by decide) (by decide)) (by decide) (by decide) : In (-1) 59 (v24 - (1 : Int32))) (by decide) (by decide))⟩⟩
    · have q48 : In (-2147483648) 2147483646 v12 := In_w (In_lt1 (Int32.not_le.mp c14) (In_top v12) (In_top v13)) (by decide) (by decide)
      have q49 : In (-2147483647) 2147483647 v13 := In_w (In_lt2 (Int32.not_le.mp c14) (In_top v12) (In_top v13)) (by decide) (by decide)
      exact r_some ⟨_, (Rlweak g5 (by decide +kernel) (by decide) (by decide)), Or.inl ⟨_, rfl, (In_w (by decide : In (-2) (-2) (-2 : Int32)) (by decide) (by decide))⟩⟩
  · exact r_some ⟨_, (Rlweak g5 (by decide +kernel) (by decide) (by decide)), Or.inl ⟨_, rfl, (In_w (by decide : In (-3) (-3) (-3 : Int32)) (by decide) (by decide))⟩⟩
theorem t_K_authorize_B55_6c0 {T0 T : Nat → Nat} {S0 S : AS} (g : Rl T0 [] S0 0 0 T S) {x0 : Option Nat} {x2 : Int32} {x3 : Int32} {x4 : Int32} {x5 : Option Nat} {x6 : Option Nat} (h_x0 : Tx T 1 x0) (h_x2 : In 0 3 x2) (h_x4 : In 1 15 x4) (h_x5 : Tx T 43 x5) (h_x6 : Tx T 17 x6) : Ho (f_K_authorize_B55  S x0 x2 x3 x4 x5 x6 (0 : Int32)) (PY T0 kw_K74 S0 2 320 ["java/lang/IllegalArgumentException", "java/lang/IllegalStateException", "java/lang/IndexOutOfBoundsException"] (fun v T' => In (-3) 59 v)) := by
  unfold f_K_authorize_B55
  refine r_rS (fun c1 => absurd rfl c1) ⟨_, (Rlweak (RlwX g) (by decide +kernel) (by decide) (by decide)), Or.inr ⟨_, rfl, by decide +kernel⟩⟩
theorem t_K_authorize_B54 {T0 T : Nat → Nat} {S0 S : AS} (g : Rl T0 [] S0 0 0 T S) {x0 : Option Nat} {x2 : Int32} {x3 : Int32} {x4 : Int32} {x5 : Option Nat} {x6 : Option Nat} (h_x0 : Tx T 1 x0) (h_x2 : In 0 3 x2) (h_x4 : In 1 15 x4) (h_x5 : Tx T 43 x5) (h_x6 : Tx T 17 x6) : Ho (f_K_authorize_B54  S x0 x2 x3 x4 x5 x6) (PY T0 kw_K74 S0 2 320 ["java/lang/IllegalArgumentException", "java/lang/IllegalStateException", "java/lang/IndexOutOfBoundsException"] (fun v T' => In (-3) 59 v)) := by
  unfold f_K_authorize_B54
  exact t_K_authorize_B55_6c0 (Rlweak g (by decide +kernel) (by decide) (by decide))  h_x0 (In_w h_x2 (by decide) (by decide)) (In_w h_x4 (by decide) (by decide)) h_x5 h_x6 
theorem t_K_authorize {T : Nat → Nat} {S : AS} (hT : TI T S) {a0 : Option Nat} {a1 : Int32} {a2 : Int32} {a3 : Int32} {a4 : Int32} (h_a0 : Tx T 1 a0) : Ho (f_K_authorize  S a0 a1 a2 a3 a4) (PY T kw_K74 S 2 320 ["java/lang/IllegalArgumentException", "java/lang/IllegalStateException", "java/lang/IndexOutOfBoundsException"] (fun v T' => In (-3) 59 v)) := by
  have g0 := Rlrf hT
  unfold f_K_authorize
  refine r_rv g0.1 h_a0 rfl ?_
  refine r_T (t_K_findSession g0.1 h_a0) (fun v27 h1 => ?_) (fun e he => ⟨_, (Rlweak (RlwX g0) (by decide +kernel) (by decide) (by decide)), Or.inr ⟨e, rfl, ((by decide +kernel : ∀ x ∈ (["java/lang/IndexOutOfBoundsException"] : List String), x ∈ (["java/lang/IllegalArgumentException", "java/lang/IllegalStateException", "java/lang/IndexOutOfBoundsException"] : List String)) e he)⟩⟩)
  refine r_rI (fun p2 c3 => ?_) ⟨_, (Rlweak (RlwX g0) (by decide +kernel) (by decide) (by decide)), Or.inr ⟨_, rfl, by decide +kernel⟩⟩
  have q4 : In 0 2147483647 a2 := ⟨p2, (In_top a2).2⟩
  have q5 : In 0 3 a2 := In_w (In_lt1 c3 q4 (by decide : In 4 4 (4 : Int32))) (by decide) (by decide)
  refine r_rv g0.1 h_a0 rfl ?_
  refine r_T (t_K_findService g0.1 h_a0) (fun v32 h6 => ?_) (fun e he => ⟨_, (Rlweak (RlwX g0) (by decide +kernel) (by decide) (by decide)), Or.inr ⟨e, rfl, ((by decide +kernel : ∀ x ∈ (["java/lang/IndexOutOfBoundsException"] : List String), x ∈ (["java/lang/IllegalArgumentException", "java/lang/IllegalStateException", "java/lang/IndexOutOfBoundsException"] : List String)) e he)⟩⟩)
  refine r_Kw (fun p7 p7b => ?_) ?_
  · have q8 : In 1 2147483647 a4 := In_w (In_le2 p7 (by decide : In 1 1 (1 : Int32)) (In_top a4)) (by decide) (by decide)
    have q9 : In 1 15 a4 := In_w (In_le1 p7b q8 (by decide : In 15 15 (15 : Int32))) (by decide) (by decide)
    refine r_rA (fun c10 => ?_) ⟨_, (Rlweak (RlwX g0) (by decide +kernel) (by decide) (by decide)), Or.inr ⟨_, rfl, by decide +kernel⟩⟩
    refine r_gIe g0.1 h1 rfl (fun v37 b11 e12 => ?_)
    have q13 : In 0 1 v37 := b11 _ _ rfl
    refine r_if (fun c14 => ?_) (fun c14 => ?_)
    · have q15 : In 0 0 v37 := In_w (In_eq c14 (by decide : In 0 0 (0 : Int32))) (by decide) (by decide)
      exact t_K_authorize_B54 (Rlweak g0 (by decide +kernel) (by decide) (by decide))  h_a0 (In_w q5 (by decide) (by decide)) (In_w q9 (by decide) (by decide)) h1 h6 
    · have q16 : In 1 1 v37 := In_w (In_neL c14 q13 (by decide)) (by decide) (by decide)
      refine r_gR g0.1 h_a0 rfl rfl (fun v38 h17 => ?_)
      refine r_rv g0.1 h17 rfl ?_
      refine r_size 3 g0.1 h17 (by decide) (fun v41 e18 => ?_)
      have q19 : In 0 60 v41 := by rw [e18]; exact sizeIn (q := 3) g0.1 (by decide) rfl
      refine r_if (fun c20 => ?_) (fun c20 => ?_)
      · have q21 : In 60 60 v41 := In_w (In_le2 c20 (by decide : In 60 60 (60 : Int32)) q19) (by decide) (by decide)
        exact t_K_authorize_B54 (Rlweak g0 (by decide +kernel) (by decide) (by decide))  h_a0 (In_w q5 (by decide) (by decide)) (In_w q9 (by decide) (by decide)) h1 h6 
      · have z22 : (sI S (lp 3) 2).toInt < (60 : Int32).toInt := sz0 3 g0 (by decide) (by decide +kernel) e18 c20
        have q23 : In 0 59 v41 := In_w (In_lt1 (Int32.not_le.mp c20) q19 (by decide : In 60 60 (60 : Int32))) (by decide) (by decide)
        exact t_K_authorize_B55_6c1 (Rlweak g0 (by decide +kernel) (by decide) (by decide))  h_a0 (In_w q5 (by decide) (by decide)) (In_w q9 (by decide) (by decide)) h1 h6 (Int.lt_of_lt_of_le (show (sI S (lp 3) 2).toInt < 60 from z22) (by decide))
  · refine r_rA (fun c24 => absurd rfl c24) ⟨_, (Rlweak (RlwX g0) (by decide +kernel) (by decide) (by decide)), Or.inr ⟨_, rfl, by decide +kernel⟩⟩
theorem t_K_addToken {T : Nat → Nat} {S : AS} (hT : TI T S) {a0 : Option Nat} {a1 : Option Nat} (h_a0 : Tx T 1 a0) (h_a1 : Tx T 45 a1) (hfszlt5 : (sI S (lp 5) 2).toInt < 200) : Ho (f_K_addToken  S a0 a1) (fun q => ∃ T', Rl T kw_K77 S 1 300 T' q) := by
  have g0 := Rlrf hT
  unfold f_K_addToken
  refine r_gR g0.1 h_a1 rfl rfl (fun v1 h1 => ?_)
  refine r_gR g0.1 h_a0 rfl rfl (fun v2 h2 => ?_)
  refine r_rv g0.1 h2 rfl ?_
  refine r_size 5 g0.1 h2 (by decide) (fun v5 e3 => ?_)
  have q4 : In 0 200 v5 := by rw [e3]; exact sizeIn (q := 5) g0.1 (by decide) rfl
  refine r_pI (w' := kw_K75) g0 h1 rfl (by decide) (fun _ _ q => by cases q) rfl (by decide) (by decide +kernel) (by unfold phc; decide) (fun s5 g6 => ?_)
  refine r_gR g6.1 h_a1 rfl rfl (fun v7 h7 => ?_)
  refine r_gIe g6.1 h7 rfl (fun v8 b8 e9 => ?_)
  refine r_gIe g6.1 h_a1 rfl (fun v9 b10 e11 => ?_)
  refine r_pI (w' := kw_K76) g6 h7 rfl (by decide) (fun _ _ q => by cases q) rfl (by decide) (by decide +kernel) (by unfold phc; decide) (fun s12 g13 => ?_)
  refine r_gR g13.1 h_a0 rfl rfl (fun v11 h14 => ?_)
  refine r_rv g13.1 h14 rfl ?_
  refine r_b2 (ho_add (w' := kw_K77) 5 g13 h14 (by decide) h_a1 rfl (Int.lt_of_lt_of_le (sz1 5 g13 (by decide) (by decide +kernel) hfszlt5) (by decide)) (by decide) (by decide +kernel)) (fun v14 s15 h19 => ?_)
  obtain ⟨T16, g17, e18, e18s⟩ := h19
  have g20 : Rl T kw_K77 S 1 300 T16 s15 := g17
  have u21 := Tx.up h_a0 e18
  have u22 := Tx.up h_a1 e18
  have u23 := Tx.up h1 e18
  have u24 := Tx.up h2 e18
  have u25 := Tx.up h7 e18
  have u26 := Tx.up h14 e18
  exact r_some ⟨_, (Rlweak g20 (by decide +kernel) (by decide) (by decide))⟩
theorem t_K_addFirstHandToken {T : Nat → Nat} {S : AS} (hT : TI T S) {a0 : Option Nat} {a1 : Option Nat} (h_a0 : Tx T 1 a0) (h_a1 : Tx T 44 a1) (hfszlt5 : (sI S (lp 5) 2).toInt < 200) : Ho (f_K_addFirstHandToken  S a0 a1) (fun q => ∃ T', Rl T kw_K77 S 2 320 T' q) := by
  have g0 := Rlrf hT
  unfold f_K_addFirstHandToken
  refine r_nO g0 (by decide) (fun s1 g2 r3 k4 => ?_)
  refine r_gIe g2.1 h_a1 rfl (fun v2 b5 e6 => ?_)
  refine r_gIe g2.1 h_a1 rfl (fun v3 b7 e8 => ?_)
  refine r_gIe g2.1 h_a1 rfl (fun v4 b9 e10 => ?_)
  refine r_gR g2.1 h_a0 rfl rfl (fun v5 h11 => ?_)
  refine r_gIe g2.1 h11 rfl (fun v6 b12 e13 => ?_)
  refine r_gIe g2.1 h_a0 rfl (fun v7 b14 e15 => ?_)
  refine r_bind (ho_Token g2 r3 h_a1) (fun s16 h20 => ?_)
  obtain ⟨T18, g17, m19⟩ := h20
  have g21 : Rl T [] S 1 20 T18 s16 := g17
  have u22 := Tx.up h_a0 m19.2.1
  have u23 := Tx.up h_a1 m19.2.1
  have u24 := Tx.up h11 m19.2.1
  refine r_rv g21.1 u22 rfl ?_
  refine r_bind (t_K_addToken g21.1 u22 (⟨_, rfl, m19.1, by decide⟩ : Tx T18 45 (some (sN S))) (Int.lt_of_lt_of_le (sz1 5 g21 (by decide) (by decide +kernel) hfszlt5) (by decide))) (fun s25 h26 => ?_)
  obtain ⟨T27, h28⟩ := h26
  have g29 : Rl T kw_K77 S 2 320 T27 s25 := Rltrans g21 h28 (by decide +kernel)
  have u30 := Tx.up u22 h28.ty
  have u31 := Tx.up u23 h28.ty
  have u32 := Tx.up u24 h28.ty
  have u33 := Tx.up (⟨_, rfl, m19.1, by decide⟩ : Tx T18 45 (some (sN S))) h28.ty
  exact r_some ⟨_, (Rlweak g29 (by decide +kernel) (by decide) (by decide))⟩
theorem t_K_makeFamily {T : Nat → Nat} {S : AS} (hT : TI T S) {a0 : Option Nat} {a1 : Option Nat} (h_a0 : Tx T 1 a0) (h_a1 : Tx T 44 a1) (hfszlt4 : (sI S (lp 4) 2).toInt < 200) (hfszlt5 : (sI S (lp 5) 2).toInt < 200) : Ho (f_K_makeFamily  S a0 a1) (fun q => ∃ T', Rl T kw_K82 S 3 620 T' q) := by
  have g0 := Rlrf hT
  unfold f_K_makeFamily
  refine r_gR g0.1 h_a0 rfl rfl (fun v1 h1 => ?_)
  refine r_rv g0.1 h1 rfl ?_
  refine r_size 4 g0.1 h1 (by decide) (fun v4 e2 => ?_)
  have q3 : In 0 200 v4 := by rw [e2]; exact sizeIn (q := 4) g0.1 (by decide) rfl
  refine r_pI (w' := kw_K78) g0 h_a1 rfl (by decide) (fun _ _ q => by cases q) rfl (by decide) (by decide +kernel) (by unfold phc; decide) (fun s4 g5 => ?_)
  refine r_pZ (w' := kw_K79) g5 h_a1 rfl (by decide) (In_w (by decide : In 1 1 (1 : Int32)) (by decide) (by decide)) (fun _ _ q => by cases q; exact (In_w (by decide : In 1 1 (1 : Int32)) (by decide) (by decide))) rfl (by decide) (by decide +kernel) (by unfold phc; decide) (fun s6 g7 => ?_)
  refine r_gR g7.1 h_a0 rfl rfl (fun v7 h8 => ?_)
  refine r_rv g7.1 h8 rfl ?_
  refine r_b2 (ho_add (w' := kw_K80) 4 g7 h8 (by decide) h_a1 rfl (Int.lt_of_lt_of_le (sz1 4 g7 (by decide) (by decide +kernel) hfszlt4) (by decide)) (by decide) (by decide +kernel)) (fun v10 s9 h13 => ?_)
  obtain ⟨T10, g11, e12, e12s⟩ := h13
  have g14 : Rl T kw_K80 S 1 300 T10 s9 := g11
  have u15 := Tx.up h_a0 e12
  have u16 := Tx.up h_a1 e12
  have u17 := Tx.up h1 e12
  have u18 := Tx.up h8 e12
  refine r_gR g14.1 u15 rfl rfl (fun v11 h19 => ?_)
  refine r_gIe g14.1 u16 rfl (fun v12 b20 e21 => ?_)
  refine r_gIe g14.1 u15 rfl (fun v13 b22 e23 => ?_)
  refine r_rv g14.1 h19 rfl ?_
  refine r_bind (t_Audit_write g14.1 h19) (fun s24 h25 => ?_)
  have g26 : Rl T kw_K81 S 1 300 T10 s24 := Rltrans g14 h25 (by decide +kernel)
  refine r_rv g26.1 u15 rfl ?_
  refine r_bind (t_K_addFirstHandToken g26.1 u15 u16 (Int.lt_of_lt_of_le (sz1 5 g26 (by decide) (by decide +kernel) hfszlt5) (by decide))) (fun s27 h28 => ?_)
  obtain ⟨T29, h30⟩ := h28
  have g31 : Rl T kw_K82 S 3 620 T29 s27 := Rltrans g26 h30 (by decide +kernel)
  have u32 := Tx.up u15 h30.ty
  have u33 := Tx.up u16 h30.ty
  have u34 := Tx.up u17 h30.ty
  have u35 := Tx.up u18 h30.ty
  have u36 := Tx.up h19 h30.ty
  exact r_some ⟨_, (Rlweak g31 (by decide +kernel) (by decide) (by decide))⟩
theorem t_K_redeem_B81_2c0 {T0 T : Nat → Nat} {S0 S : AS} (g : Rl T0 [] S0 0 0 T S) {x0 : Option Nat} {x2 : Option Nat} (h_x0 : Tx T 1 x0) (h_x2 : Tx T 44 x2) (hfszlt4 : (sI S0 (lp 4) 2).toInt < 200) : Ho (f_K_redeem_B81  S x0 x2 (0 : Int32)) (PY T0 kw_K83 S0 3 620 ["java/lang/IllegalStateException", "java/lang/IndexOutOfBoundsException"] (fun v T' => True)) := by
  unfold f_K_redeem_B81
  refine r_rS (fun c1 => absurd rfl c1) ⟨_, (Rlweak (RlwX g) (by decide +kernel) (by decide) (by decide)), Or.inr ⟨_, rfl, by decide +kernel⟩⟩
theorem t_K_redeem_B81_2c1 {T0 T : Nat → Nat} {S0 S : AS} (g : Rl T0 [] S0 0 0 T S) {x0 : Option Nat} {x2 : Option Nat} (h_x0 : Tx T 1 x0) (h_x2 : Tx T 44 x2) (hfszlt4 : (sI S0 (lp 4) 2).toInt < 200) (hfszlt5 : (sI S0 (lp 5) 2).toInt < 200) : Ho (f_K_redeem_B81  S x0 x2 (1 : Int32)) (PY T0 kw_K83 S0 3 620 ["java/lang/IllegalStateException", "java/lang/IndexOutOfBoundsException"] (fun v T' => True)) := by
  unfold f_K_redeem_B81
  refine r_rS (fun c1 => ?_) ⟨_, (Rlweak (RlwX g) (by decide +kernel) (by decide) (by decide)), Or.inr ⟨_, rfl, by decide +kernel⟩⟩
  refine r_rv g.1 h_x0 rfl ?_
  refine r_bind (t_K_makeFamily g.1 h_x0 h_x2 (Int.lt_of_lt_of_le (sz1 4 g (by decide) (by decide +kernel) hfszlt4) (by decide)) (Int.lt_of_lt_of_le (sz1 5 g (by decide) (by decide +kernel) hfszlt5) (by decide))) (fun s2 h3 => ?_)
  obtain ⟨T4, h5⟩ := h3
  have g6 : Rl T0 kw_K82 S0 3 620 T4 s2 := Rltrans g h5 (by decide +kernel)
  have u7 := Tx.up h_x0 h5.ty
  have u8 := Tx.up h_x2 h5.ty
  refine r_gIe g6.1 u8 rfl (fun v5 b9 e10 => ?_)
  exact r_some ⟨_, (Rlweak g6 (by decide +kernel) (by decide) (by decide)), Or.inl ⟨_, rfl, trivial⟩⟩
theorem t_K_redeem {T : Nat → Nat} {S : AS} (hT : TI T S) {a0 : Option Nat} {a1 : Int32} (h_a0 : Tx T 1 a0) (hfszlt4 : (sI S (lp 4) 2).toInt < 200) : Ho (f_K_redeem  S a0 a1) (PY T kw_K83 S 3 620 ["java/lang/IllegalStateException", "java/lang/IndexOutOfBoundsException"] (fun v T' => True)) := by
  have g0 := Rlrf hT
  unfold f_K_redeem
  refine r_gR g0.1 h_a0 rfl rfl (fun v6 h1 => ?_)
  refine r_rv g0.1 h1 rfl ?_
  refine r_size 3 g0.1 h1 (by decide) (fun v9 e2 => ?_)
  have q3 : In 0 60 v9 := by rw [e2]; exact sizeIn (q := 3) g0.1 (by decide) rfl
  refine r_rI (fun p4 c5 => ?_) ⟨_, (Rlweak (RlwX g0) (by decide +kernel) (by decide) (by decide)), Or.inr ⟨_, rfl, by decide +kernel⟩⟩
  have q6 : In 0 2147483647 a1 := ⟨p4, (In_top a1).2⟩
  have q7 : In 0 59 a1 := In_w (In_lt1 c5 q6 q3) (by decide) (by decide)
  refine r_gR g0.1 h_a0 rfl rfl (fun v12 h8 => ?_)
  refine r_rv g0.1 h8 rfl ?_
  refine r_P (ho_get 3 g0.1 h8 (by decide) (In_w q7 (by decide) (Int.le_refl _) : In 0 59 a1).1 (sz_lt2 c5 e2)) (fun v15 (h9 : Tx T 44 v15) => ?_)
  refine r_cc g0.1 h9 rfl ?_
  refine r_gIe g0.1 h9 rfl (fun v17 b10 e11 => ?_)
  refine r_if (fun c12 => ?_) (fun c12 => ?_)
  · have q13 : In (-1) (-1) v17 := In_w (In_eq c12 (by decide : In (-1) (-1) (-1 : Int32))) (by decide) (by decide)
    refine r_gR g0.1 h9 rfl rfl (fun v18 h14 => ?_)
    refine r_gIe g0.1 h14 rfl (fun v19 b15 e16 => ?_)
    have q17 : In 0 1 v19 := b15 _ _ rfl
    refine r_if (fun c18 => ?_) (fun c18 => ?_)
    · have q19 : In 0 0 v19 := In_w (In_eq c18 (by decide : In 0 0 (0 : Int32))) (by decide) (by decide)
      exact r_some ⟨_, (Rlweak g0 (by decide +kernel) (by decide) (by decide)), Or.inl ⟨_, rfl, trivial⟩⟩
    · have q20 : In 1 1 v19 := In_w (In_neL c18 q17 (by decide)) (by decide) (by decide)
      refine r_gIe g0.1 h_a0 rfl (fun v20 b21 e22 => ?_)
      refine r_gIe g0.1 h9 rfl (fun v21 b23 e24 => ?_)
      refine r_if (fun c25 => ?_) (fun c25 => ?_)
      · refine r_gR g0.1 h_a0 rfl rfl (fun v22 h26 => ?_)
        refine r_rv g0.1 h26 rfl ?_
        refine r_size 5 g0.1 h26 (by decide) (fun v25 e27 => ?_)
        have q28 : In 0 200 v25 := by rw [e27]; exact sizeIn (q := 5) g0.1 (by decide) rfl
        refine r_if (fun c29 => ?_) (fun c29 => ?_)
        · have q30 : In 200 200 v25 := In_w (In_le2 c29 (by decide : In 200 200 (200 : Int32)) q28) (by decide) (by decide)
          exact t_K_redeem_B81_2c0 (Rlweak g0 (by decide +kernel) (by decide) (by decide))  h_a0 h9 (Int.lt_of_lt_of_le hfszlt4 (by decide))
        · have z31 : (sI S (lp 5) 2).toInt < (200 : Int32).toInt := sz0 5 g0 (by decide) (by decide +kernel) e27 c29
          have q32 : In 0 199 v25 := In_w (In_lt1 (Int32.not_le.mp c29) q28 (by decide : In 200 200 (200 : Int32))) (by decide) (by decide)
          exact t_K_redeem_B81_2c1 (Rlweak g0 (by decide +kernel) (by decide) (by decide))  h_a0 h9 (Int.lt_of_lt_of_le hfszlt4 (by decide)) (Int.lt_of_lt_of_le (show (sI S (lp 5) 2).toInt < 200 from z31) (by decide))
      · exact r_some ⟨_, (Rlweak g0 (by decide +kernel) (by decide) (by decide)), Or.inl ⟨_, rfl, trivial⟩⟩
  · refine r_rv g0.1 h_a0 rfl ?_
    refine r_X (t_K_endFamily g0.1 h_a0 h9) (fun z28 s34 g35 h33 => ?_) (fun e _ gg he => ⟨_, (Rlweak (Rltrans g0 gg (w' := kw_K37) (by decide +kernel)) (by decide +kernel) (by decide) (by decide)), Or.inr ⟨e, rfl, ((by decide +kernel : ∀ x ∈ ([] : List String), x ∈ (["java/lang/IllegalStateException", "java/lang/IndexOutOfBoundsException"] : List String)) e he)⟩⟩)
    have g36 : Rl T kw_K37 S 0 0 T s34 := Rltrans g0 g35 (by decide +kernel)
    exact r_some ⟨_, (Rlweak g36 (by decide +kernel) (by decide) (by decide)), Or.inl ⟨_, rfl, trivial⟩⟩
theorem t_K_findFamily {T : Nat → Nat} {S : AS} (hT : TI T S) {a0 : Option Nat} {a1 : Int32} (h_a0 : Tx T 1 a0) : Ho (f_K_findFamily  S a0 a1) (PT S ["java/lang/IndexOutOfBoundsException"] (fun v => Tx T 44 v)) := by
  unfold f_K_findFamily
  refine r_gR hT h_a0 rfl rfl (fun v1 h1 => ?_)
  refine r_rv hT h1 rfl ?_
  refine r_size 4 hT h1 (by decide) (fun v4 e2 => ?_)
  have q3 : In 0 200 v4 := by rw [e2]; exact sizeIn (q := 4) hT (by decide) rfl
  refine r_rI (fun p4 c5 => ?_) (Or.inr ⟨_, rfl, rfl, by decide +kernel⟩)
  have q6 : In 0 2147483647 a1 := ⟨p4, (In_top a1).2⟩
  have q7 : In 0 199 a1 := In_w (In_lt1 c5 q6 q3) (by decide) (by decide)
  refine r_gR hT h_a0 rfl rfl (fun v7 h8 => ?_)
  refine r_rv hT h8 rfl ?_
  refine r_P (ho_get 4 hT h8 (by decide) (In_w q7 (by decide) (Int.le_refl _) : In 0 199 a1).1 (sz_lt2 c5 e2)) (fun v10 (h9 : Tx T 44 v10) => ?_)
  refine r_cc hT h9 rfl ?_
  exact r_some (Or.inl ⟨_, rfl, rfl, h9⟩)
theorem t_K_rotate {T : Nat → Nat} {S : AS} (hT : TI T S) {a0 : Option Nat} {a1 : Option Nat} (h_a0 : Tx T 1 a0) (h_a1 : Tx T 44 a1) (hfszlt5 : (sI S (lp 5) 2).toInt < 200) : Ho (f_K_rotate  S a0 a1) (fun q => ∃ T', Rl T kw_K87 S 2 320 T' q) := by
  have g0 := Rlrf hT
  unfold f_K_rotate
  refine r_gIe g0.1 h_a1 rfl (fun v1 b1 e2 => ?_)
  refine r_pI (w' := kw_K84) g0 h_a1 rfl (by decide) (fun _ _ q => by cases q) rfl (by decide) (by decide +kernel) (by unfold phc; decide) (fun s3 g4 => ?_)
  refine r_gIe g4.1 h_a0 rfl (fun v3 b5 e6 => ?_)
  refine r_pI (w' := kw_K85) g4 h_a1 rfl (by decide) (fun _ _ q => by cases q) rfl (by decide) (by decide +kernel) (by unfold phc; decide) (fun s7 g8 => ?_)
  refine r_gR g8.1 h_a1 rfl rfl (fun v5 h9 => ?_)
  refine r_gIe g8.1 h_a0 rfl (fun v6 b10 e11 => ?_)
  refine r_pI (w' := kw_K86) g8 h9 rfl (by decide) (fun _ _ q => by cases q) rfl (by decide) (by decide +kernel) (by unfold phc; decide) (fun s12 g13 => ?_)
  refine r_rv g13.1 h_a0 rfl ?_
  refine r_bind (t_K_addFirstHandToken g13.1 h_a0 h_a1 (Int.lt_of_lt_of_le (sz1 5 g13 (by decide) (by decide +kernel) hfszlt5) (by decide))) (fun s14 h15 => ?_)
  obtain ⟨T16, h17⟩ := h15
  have g18 : Rl T kw_K87 S 2 320 T16 s14 := Rltrans g13 h17 (by decide +kernel)
  have u19 := Tx.up h_a0 h17.ty
  have u20 := Tx.up h_a1 h17.ty
  have u21 := Tx.up h9 h17.ty
  exact r_some ⟨_, (Rlweak g18 (by decide +kernel) (by decide) (by decide))⟩
theorem t_K_refresh_B63_2c0 {T0 T : Nat → Nat} {S0 S : AS} (g : Rl T0 [] S0 0 0 T S) {x0 : Option Nat} {x3 : Option Nat} (h_x0 : Tx T 1 x0) (h_x3 : Tx T 44 x3) : Ho (f_K_refresh_B63  S x0 x3 (0 : Int32)) (PY T0 kw_K88 S0 2 320 ["java/lang/IllegalArgumentException", "java/lang/IllegalStateException", "java/lang/IndexOutOfBoundsException"] (fun v T' => True)) := by
  unfold f_K_refresh_B63
  refine r_rS (fun c1 => absurd rfl c1) ⟨_, (Rlweak (RlwX g) (by decide +kernel) (by decide) (by decide)), Or.inr ⟨_, rfl, by decide +kernel⟩⟩
theorem t_K_refresh_B63_2c1 {T0 T : Nat → Nat} {S0 S : AS} (g : Rl T0 [] S0 0 0 T S) {x0 : Option Nat} {x3 : Option Nat} (h_x0 : Tx T 1 x0) (h_x3 : Tx T 44 x3) (hfszlt5 : (sI S0 (lp 5) 2).toInt < 200) : Ho (f_K_refresh_B63  S x0 x3 (1 : Int32)) (PY T0 kw_K88 S0 2 320 ["java/lang/IllegalArgumentException", "java/lang/IllegalStateException", "java/lang/IndexOutOfBoundsException"] (fun v T' => True)) := by
  unfold f_K_refresh_B63
  refine r_rS (fun c1 => ?_) ⟨_, (Rlweak (RlwX g) (by decide +kernel) (by decide) (by decide)), Or.inr ⟨_, rfl, by decide +kernel⟩⟩
  refine r_rv g.1 h_x0 rfl ?_
  refine r_bind (t_K_rotate g.1 h_x0 h_x3 (Int.lt_of_lt_of_le (sz1 5 g (by decide) (by decide +kernel) hfszlt5) (by decide))) (fun s2 h3 => ?_)
  obtain ⟨T4, h5⟩ := h3
  have g6 : Rl T0 kw_K87 S0 2 320 T4 s2 := Rltrans g h5 (by decide +kernel)
  have u7 := Tx.up h_x0 h5.ty
  have u8 := Tx.up h_x3 h5.ty
  refine r_gIe g6.1 u8 rfl (fun v5 b9 e10 => ?_)
  exact r_some ⟨_, (Rlweak g6 (by decide +kernel) (by decide) (by decide)), Or.inl ⟨_, rfl, trivial⟩⟩
theorem t_K_refresh_B104 {T0 T : Nat → Nat} {S0 S : AS} (g : Rl T0 [] S0 0 0 T S) {x0 : Option Nat} {x3 : Option Nat} (h_x0 : Tx T 1 x0) (h_x3 : Tx T 44 x3) : Ho (f_K_refresh_B104  S x0 x3) (PY T0 kw_K88 S0 2 320 ["java/lang/IllegalArgumentException", "java/lang/IllegalStateException", "java/lang/IndexOutOfBoundsException"] (fun v T' => True)) := by
  unfold f_K_refresh_B104
  refine r_rv g.1 h_x0 rfl ?_
  refine r_X (t_K_endFamily g.1 h_x0 h_x3) (fun z8 s2 g3 h1 => ?_) (fun e _ gg he => ⟨_, (Rlweak (Rltrans g gg (w' := kw_K37) (by decide +kernel)) (by decide +kernel) (by decide) (by decide)), Or.inr ⟨e, rfl, ((by decide +kernel : ∀ x ∈ ([] : List String), x ∈ (["java/lang/IllegalArgumentException", "java/lang/IllegalStateException", "java/lang/IndexOutOfBoundsException"] : List String)) e he)⟩⟩)
  have g4 : Rl T0 kw_K37 S0 0 0 T s2 := Rltrans g g3 (by decide +kernel)
  exact r_some ⟨_, (Rlweak g4 (by decide +kernel) (by decide) (by decide)), Or.inl ⟨_, rfl, trivial⟩⟩
theorem t_K_refresh {T : Nat → Nat} {S : AS} (hT : TI T S) {a0 : Option Nat} {a1 : Int32} {a2 : Int32} (h_a0 : Tx T 1 a0) : Ho (f_K_refresh  S a0 a1 a2) (PY T kw_K88 S 2 320 ["java/lang/IllegalArgumentException", "java/lang/IllegalStateException", "java/lang/IndexOutOfBoundsException"] (fun v T' => True)) := by
  have g0 := Rlrf hT
  unfold f_K_refresh
  refine r_rv g0.1 h_a0 rfl ?_
  refine r_T (t_K_findFamily g0.1 h_a0) (fun v11 h1 => ?_) (fun e he => ⟨_, (Rlweak (RlwX g0) (by decide +kernel) (by decide) (by decide)), Or.inr ⟨e, rfl, ((by decide +kernel : ∀ x ∈ (["java/lang/IndexOutOfBoundsException"] : List String), x ∈ (["java/lang/IllegalArgumentException", "java/lang/IllegalStateException", "java/lang/IndexOutOfBoundsException"] : List String)) e he)⟩⟩)
  refine r_gIe g0.1 h1 rfl (fun v12 b2 e3 => ?_)
  refine r_Kw (fun p4 p4b => ?_) ?_
  · have q5 : In 0 2147483647 a2 := In_w (In_le2 p4 (by decide : In 0 0 (0 : Int32)) (In_top a2)) (by decide) (by decide)
    refine r_rA (fun c6 => ?_) ⟨_, (Rlweak (RlwX g0) (by decide +kernel) (by decide) (by decide)), Or.inr ⟨_, rfl, by decide +kernel⟩⟩
    refine r_gIe g0.1 h1 rfl (fun v17 b7 e8 => ?_)
    have q9 : In 0 1 v17 := b7 _ _ rfl
    refine r_if (fun c10 => ?_) (fun c10 => ?_)
    · have q11 : In 0 0 v17 := In_w (In_eq c10 (by decide : In 0 0 (0 : Int32))) (by decide) (by decide)
      exact r_some ⟨_, (Rlweak g0 (by decide +kernel) (by decide) (by decide)), Or.inl ⟨_, rfl, trivial⟩⟩
    · have q12 : In 1 1 v17 := In_w (In_neL c10 q9 (by decide)) (by decide) (by decide)
      refine r_gR g0.1 h1 rfl rfl (fun v18 h13 => ?_)
      refine r_gIe g0.1 h13 rfl (fun v19 b14 e15 => ?_)
      have q16 : In 0 1 v19 := b14 _ _ rfl
      refine r_if (fun c17 => ?_) (fun c17 => ?_)
      · have q18 : In 0 0 v19 := In_w (In_eq c17 (by decide : In 0 0 (0 : Int32))) (by decide) (by decide)
        exact r_some ⟨_, (Rlweak g0 (by decide +kernel) (by decide) (by decide)), Or.inl ⟨_, rfl, trivial⟩⟩
      · have q19 : In 1 1 v19 := In_w (In_neL c17 q16 (by decide)) (by decide) (by decide)
        refine r_gIe g0.1 h1 rfl (fun v20 b20 e21 => ?_)
        refine r_if (fun c22 => ?_) (fun c22 => ?_)
        · refine r_gR g0.1 h_a0 rfl rfl (fun v21 h23 => ?_)
          refine r_rv g0.1 h23 rfl ?_
          refine r_size 5 g0.1 h23 (by decide) (fun v24 e24 => ?_)
          have q25 : In 0 200 v24 := by rw [e24]; exact sizeIn (q := 5) g0.1 (by decide) rfl
          refine r_if (fun c26 => ?_) (fun c26 => ?_)
          · have q27 : In 200 200 v24 := In_w (In_le2 c26 (by decide : In 200 200 (200 : Int32)) q25) (by decide) (by decide)
            exact t_K_refresh_B63_2c0 (Rlweak g0 (by decide +kernel) (by decide) (by decide))  h_a0 h1 
          · have z28 : (sI S (lp 5) 2).toInt < (200 : Int32).toInt := sz0 5 g0 (by decide) (by decide +kernel) e24 c26
            have q29 : In 0 199 v24 := In_w (In_lt1 (Int32.not_le.mp c26) q25 (by decide : In 200 200 (200 : Int32))) (by decide) (by decide)
            exact t_K_refresh_B63_2c1 (Rlweak g0 (by decide +kernel) (by decide) (by decide))  h_a0 h1 (Int.lt_of_lt_of_le (show (sI S (lp 5) 2).toInt < 200 from z28) (by decide))
        · refine r_gIe g0.1 h1 rfl (fun v25 b30 e31 => ?_)
          refine r_if (fun c32 => ?_) (fun c32 => ?_)
          · refine r_gIe g0.1 h_a0 rfl (fun v26 b33 e34 => ?_)
            refine r_gIe g0.1 h1 rfl (fun v27 b35 e36 => ?_)
            refine r_if (fun c37 => ?_) (fun c37 => ?_)
            · exact t_K_refresh_B104 (Rlweak g0 (by decide +kernel) (by decide) (by decide))  h_a0 h1
            · refine r_gIe g0.1 h1 rfl (fun v28 b38 e39 => ?_)
              exact r_some ⟨_, (Rlweak g0 (by decide +kernel) (by decide) (by decide)), Or.inl ⟨_, rfl, trivial⟩⟩
          · exact t_K_refresh_B104 (Rlweak g0 (by decide +kernel) (by decide) (by decide))  h_a0 h1
  · refine r_rA (fun c40 => absurd rfl c40) ⟨_, (Rlweak (RlwX g0) (by decide +kernel) (by decide) (by decide)), Or.inr ⟨_, rfl, by decide +kernel⟩⟩
theorem t_K_isGood {T : Nat → Nat} {S : AS} (hT : TI T S) {a0 : Option Nat} {a1 : Int32} (h_a0 : Tx T 1 a0) : Ho (f_K_isGood  S a0 a1) (PT S ["java/lang/IndexOutOfBoundsException"] (fun v => In 0 1 v)) := by
  unfold f_K_isGood
  refine r_rv hT h_a0 rfl ?_
  refine r_T (t_K_findFamily hT h_a0) (fun v3 h1 => ?_) (fun e he => Or.inr ⟨e, rfl, rfl, ((by decide +kernel : ∀ x ∈ (["java/lang/IndexOutOfBoundsException"] : List String), x ∈ (["java/lang/IndexOutOfBoundsException"] : List String)) e he)⟩)
  refine r_gIe hT h1 rfl (fun v4 b2 e3 => ?_)
  have q4 : In 0 1 v4 := b2 _ _ rfl
  refine r_z (In_w q4 (by decide) (by decide)) ?_
  exact r_some (Or.inl ⟨_, rfl, rfl, (In_w q4 (by decide) (by decide))⟩)
theorem t_K_tokenOf {T : Nat → Nat} {S : AS} (hT : TI T S) {a0 : Option Nat} {a1 : Int32} (h_a0 : Tx T 1 a0) : Ho (f_K_tokenOf  S a0 a1) (PT S ["java/lang/IndexOutOfBoundsException"] (fun v => True)) := by
  unfold f_K_tokenOf
  refine r_rv hT h_a0 rfl ?_
  refine r_T (t_K_findFamily hT h_a0) (fun v3 h1 => ?_) (fun e he => Or.inr ⟨e, rfl, rfl, ((by decide +kernel : ∀ x ∈ (["java/lang/IndexOutOfBoundsException"] : List String), x ∈ (["java/lang/IndexOutOfBoundsException"] : List String)) e he)⟩)
  refine r_gIe hT h1 rfl (fun v4 b2 e3 => ?_)
  exact r_some (Or.inl ⟨_, rfl, rfl, trivial⟩)
theorem t_K_findToken {T : Nat → Nat} {S : AS} (hT : TI T S) {a0 : Option Nat} {a1 : Int32} (h_a0 : Tx T 1 a0) : Ho (f_K_findToken  S a0 a1) (PT S ["java/lang/IndexOutOfBoundsException"] (fun v => Tx T 45 v)) := by
  unfold f_K_findToken
  refine r_gR hT h_a0 rfl rfl (fun v1 h1 => ?_)
  refine r_rv hT h1 rfl ?_
  refine r_size 5 hT h1 (by decide) (fun v4 e2 => ?_)
  have q3 : In 0 200 v4 := by rw [e2]; exact sizeIn (q := 5) hT (by decide) rfl
  refine r_rI (fun p4 c5 => ?_) (Or.inr ⟨_, rfl, rfl, by decide +kernel⟩)
  have q6 : In 0 2147483647 a1 := ⟨p4, (In_top a1).2⟩
  have q7 : In 0 199 a1 := In_w (In_lt1 c5 q6 q3) (by decide) (by decide)
  refine r_gR hT h_a0 rfl rfl (fun v7 h8 => ?_)
  refine r_rv hT h8 rfl ?_
  refine r_P (ho_get 5 hT h8 (by decide) (In_w q7 (by decide) (Int.le_refl _) : In 0 199 a1).1 (sz_lt2 c5 e2)) (fun v10 (h9 : Tx T 45 v10) => ?_)
  refine r_cc hT h9 rfl ?_
  exact r_some (Or.inl ⟨_, rfl, rfl, h9⟩)
theorem t_K_exchange_B102_5c0 {T0 T : Nat → Nat} {S0 S : AS} (g : Rl T0 [] S0 0 0 T S) {x0 : Option Nat} {x2 : Int32} {x3 : Int32} {x4 : Option Nat} {x5 : Option Nat} (h_x0 : Tx T 1 x0) (h_x3 : In 1 15 x3) (h_x4 : Tx T 45 x4) (h_x5 : Tx T 17 x5) : Ho (f_K_exchange_B102  S x0 x2 x3 x4 x5 (0 : Int32)) (PY T0 kw_K77 S0 2 320 ["java/lang/IllegalArgumentException", "java/lang/IllegalStateException", "java/lang/IndexOutOfBoundsException"] (fun v T' => In (-2) 199 v)) := by
  unfold f_K_exchange_B102
  refine r_rS (fun c1 => absurd rfl c1) ⟨_, (Rlweak (RlwX g) (by decide +kernel) (by decide) (by decide)), Or.inr ⟨_, rfl, by decide +kernel⟩⟩
theorem t_K_exchange_B102_5c1 {T0 T : Nat → Nat} {S0 S : AS} (g : Rl T0 [] S0 0 0 T S) {x0 : Option Nat} {x2 : Int32} {x3 : Int32} {x4 : Option Nat} {x5 : Option Nat} (h_x0 : Tx T 1 x0) (h_x3 : In 1 15 x3) (h_x4 : Tx T 45 x4) (h_x5 : Tx T 17 x5) (hfszlt5 : (sI S0 (lp 5) 2).toInt < 200) : Ho (f_K_exchange_B102  S x0 x2 x3 x4 x5 (1 : Int32)) (PY T0 kw_K77 S0 2 320 ["java/lang/IllegalArgumentException", "java/lang/IllegalStateException", "java/lang/IndexOutOfBoundsException"] (fun v T' => In (-2) 199 v)) := by
  unfold f_K_exchange_B102
  refine r_rS (fun c1 => ?_) ⟨_, (Rlweak (RlwX g) (by decide +kernel) (by decide) (by decide)), Or.inr ⟨_, rfl, by decide +kernel⟩⟩
  refine r_gR g.1 h_x4 rfl rfl (fun v3 h2 => ?_)
  refine r_gR g.1 h2 rfl rfl (fun v4 h3 => ?_)
  refine r_gIe g.1 h_x0 rfl (fun v5 b4 e5 => ?_)
  refine r_rv g.1 h3 rfl ?_
  refine r_P (P := fun v => True) (t_Session_levelAt g.1 h3) (fun v8 h6 => ?_)
  refine r_gIe g.1 h_x5 rfl (fun v9 b7 e8 => ?_)
  refine r_if (fun c9 => ?_) (fun c9 => ?_)
  · refine r_nO g (by decide) (fun s10 g11 r12 k13 => ?_)
    refine r_gR g11.1 h_x4 rfl rfl (fun v11 h14 => ?_)
    refine r_gIe g11.1 h_x4 rfl (fun v12 b15 e16 => ?_)
    refine r_gIe g11.1 h_x4 rfl (fun v13 b17 e18 => ?_)
    refine r_gR g11.1 h_x0 rfl rfl (fun v14 h19 => ?_)
    refine r_gIe g11.1 h19 rfl (fun v15 b20 e21 => ?_)
    refine r_gIe g11.1 h_x4 rfl (fun v16 b22 e23 => ?_)
    refine r_bind (ho_Token g11 r12 h14) (fun s24 h28 => ?_)
    obtain ⟨T26, g25, m27⟩ := h28
    have g29 : Rl T0 [] S0 1 20 T26 s24 := g25
    have u30 := Tx.up h_x0 m27.2.1
    have u31 := Tx.up h_x4 m27.2.1
    have u32 := Tx.up h_x5 m27.2.1
    have u33 := Tx.up h2 m27.2.1
    have u34 := Tx.up h3 m27.2.1
    have u35 := Tx.up h14 m27.2.1
    have u36 := Tx.up h19 m27.2.1
    refine r_rv g29.1 u30 rfl ?_
    refine r_bind (t_K_addToken g29.1 u30 (⟨_, rfl, m27.1, by decide⟩ : Tx T26 45 (some (sN S))) (Int.lt_of_lt_of_le (sz1 5 g29 (by decide) (by decide +kernel) hfszlt5) (by decide))) (fun s37 h38 => ?_)
    obtain ⟨T39, h40⟩ := h38
    have g41 : Rl T0 kw_K77 S0 2 320 T39 s37 := Rltrans g29 h40 (by decide +kernel)
    have u42 := Tx.up u30 h40.ty
    have u43 := Tx.up u31 h40.ty
    have u44 := Tx.up u32 h40.ty
    have u45 := Tx.up u33 h40.ty
    have u46 := Tx.up u34 h40.ty
    have u47 := Tx.up u35 h40.ty
    have u48 := Tx.up u36 h40.ty
    have u49 := Tx.up (⟨_, rfl, m27.1, by decide⟩ : Tx T26 45 (some (sN S))) h40.ty
    refine r_gR g41.1 u42 rfl rfl (fun v20 h50 => ?_)
    refine r_rv g41.1 h50 rfl ?_
    refine r_size 5 g41.1 h50 (by decide) (fun v23 e51 => ?_)
    have q52 : In 0 200 v23 := by rw [e51]; exact sizeIn (q := 5) g41.1 (by decide) rfl
    exact r_some ⟨_, (Rlweak g41 (by decide +kernel) (by decide) (by decide)), Or.inl ⟨_, rfl, (In_w (In_w (In_sub q52 (by decide : In 1 1 (1 : Int32)) (by decide) (by decide)) (by decide) (by decide) : In (-1) 199 (v23 - (1 : Int32))) (by decide) (by decide))⟩⟩
  · have q53 : In (-2147483648) 2147483646 v8 := In_w (In_lt1 (Int32.not_le.mp c9) (In_top v8) (In_top v9)) (by decide) (by decide)
    have q54 : In (-2147483647) 2147483647 v9 := In_w (In_lt2 (Int32.not_le.mp c9) (In_top v8) (In_top v9)) (by decide) (by decide)
    exact r_some ⟨_, (Rlweak g (by decide +kernel) (by decide) (by decide)), Or.inl ⟨_, rfl, (In_w (by decide : In (-2) (-2) (-2 : Int32)) (by decide) (by decide))⟩⟩
theorem t_K_exchange_B81_5c1 {T0 T : Nat → Nat} {S0 S : AS} (g : Rl T0 [] S0 0 0 T S) {x0 : Option Nat} {x2 : Int32} {x3 : Int32} {x4 : Option Nat} {x5 : Option Nat} (h_x0 : Tx T 1 x0) (h_x3 : In 1 15 x3) (h_x4 : Tx T 45 x4) (h_x5 : Tx T 17 x5) : Ho (f_K_exchange_B81  S x0 x2 x3 x4 x5 (1 : Int32)) (PY T0 kw_K77 S0 2 320 ["java/lang/IllegalArgumentException", "java/lang/IllegalStateException", "java/lang/IndexOutOfBoundsException"] (fun v T' => In (-2) 199 v)) := by
  unfold f_K_exchange_B81
  refine r_rS (fun c1 => ?_) ⟨_, (Rlweak (RlwX g) (by decide +kernel) (by decide) (by decide)), Or.inr ⟨_, rfl, by decide +kernel⟩⟩
  refine r_gR g.1 h_x0 rfl rfl (fun v26 h2 => ?_)
  refine r_rv g.1 h2 rfl ?_
  refine r_size 5 g.1 h2 (by decide) (fun v29 e3 => ?_)
  have q4 : In 0 200 v29 := by rw [e3]; exact sizeIn (q := 5) g.1 (by decide) rfl
  refine r_if (fun c5 => ?_) (fun c5 => ?_)
  · have q6 : In 200 200 v29 := In_w (In_le2 c5 (by decide : In 200 200 (200 : Int32)) q4) (by decide) (by decide)
    exact t_K_exchange_B102_5c0 (Rlweak g (by decide +kernel) (by decide) (by decide))  h_x0 (In_w h_x3 (by decide) (by decide)) h_x4 h_x5 
  · have z7 : (sI S0 (lp 5) 2).toInt < (200 : Int32).toInt := sz0 5 g (by decide) (by decide +kernel) e3 c5
    have q8 : In 0 199 v29 := In_w (In_lt1 (Int32.not_le.mp c5) q4 (by decide : In 200 200 (200 : Int32))) (by decide) (by decide)
    exact t_K_exchange_B102_5c1 (Rlweak g (by decide +kernel) (by decide) (by decide))  h_x0 (In_w h_x3 (by decide) (by decide)) h_x4 h_x5 (Int.lt_of_lt_of_le (show (sI S0 (lp 5) 2).toInt < 200 from z7) (by decide))
theorem t_K_exchange_B81_5c0 {T0 T : Nat → Nat} {S0 S : AS} (g : Rl T0 [] S0 0 0 T S) {x0 : Option Nat} {x2 : Int32} {x3 : Int32} {x4 : Option Nat} {x5 : Option Nat} (h_x0 : Tx T 1 x0) (h_x3 : In 1 15 x3) (h_x4 : Tx T 45 x4) (h_x5 : Tx T 17 x5) : Ho (f_K_exchange_B81  S x0 x2 x3 x4 x5 (0 : Int32)) (PY T0 kw_K77 S0 2 320 ["java/lang/IllegalArgumentException", "java/lang/IllegalStateException", "java/lang/IndexOutOfBoundsException"] (fun v T' => In (-2) 199 v)) := by
  unfold f_K_exchange_B81
  refine r_rS (fun c1 => absurd rfl c1) ⟨_, (Rlweak (RlwX g) (by decide +kernel) (by decide) (by decide)), Or.inr ⟨_, rfl, by decide +kernel⟩⟩
theorem t_K_exchange_B80 {T0 T : Nat → Nat} {S0 S : AS} (g : Rl T0 [] S0 0 0 T S) {x0 : Option Nat} {x2 : Int32} {x3 : Int32} {x4 : Option Nat} {x5 : Option Nat} (h_x0 : Tx T 1 x0) (h_x3 : In 1 15 x3) (h_x4 : Tx T 45 x4) (h_x5 : Tx T 17 x5) : Ho (f_K_exchange_B80  S x0 x2 x3 x4 x5) (PY T0 kw_K77 S0 2 320 ["java/lang/IllegalArgumentException", "java/lang/IllegalStateException", "java/lang/IndexOutOfBoundsException"] (fun v T' => In (-2) 199 v)) := by
  unfold f_K_exchange_B80
  exact t_K_exchange_B81_5c0 (Rlweak g (by decide +kernel) (by decide) (by decide))  h_x0 (In_w h_x3 (by decide) (by decide)) h_x4 h_x5 
theorem t_K_exchange_B41_5c1 {T0 T : Nat → Nat} {S0 S : AS} (g : Rl T0 [] S0 0 0 T S) {x0 : Option Nat} {x2 : Int32} {x3 : Int32} {x4 : Option Nat} {x5 : Option Nat} (h_x0 : Tx T 1 x0) (h_x3 : In 1 15 x3) (h_x4 : Tx T 45 x4) (h_x5 : Tx T 17 x5) : Ho (f_K_exchange_B41  S x0 x2 x3 x4 x5 (1 : Int32)) (PY T0 kw_K77 S0 2 320 ["java/lang/IllegalArgumentException", "java/lang/IllegalStateException", "java/lang/IndexOutOfBoundsException"] (fun v T' => In (-2) 199 v)) := by
  unfold f_K_exchange_B41
  refine r_rA (fun c1 => ?_) ⟨_, (Rlweak (RlwX g) (by decide +kernel) (by decide) (by decide)), Or.inr ⟨_, rfl, by decide +kernel⟩⟩
  refine r_gIe g.1 h_x0 rfl (fun v32 b2 e3 => ?_)
  refine r_gIe g.1 h_x4 rfl (fun v33 b4 e5 => ?_)
  refine r_if (fun c6 => ?_) (fun c6 => ?_)
  · have q7 : In (-2147483648) 2147483646 v33 := In_w (In_lt1 c6 (In_top v33) (In_top v32)) (by decide) (by decide)
    have q8 : In (-2147483647) 2147483647 v32 := In_w (In_lt2 c6 (In_top v33) (In_top v32)) (by decide) (by decide)
    exact t_K_exchange_B80 (Rlweak g (by decide +kernel) (by decide) (by decide))  h_x0 (In_w h_x3 (by decide) (by decide)) h_x4 h_x5 
  · refine r_gR g.1 h_x4 rfl rfl (fun v34 h9 => ?_)
    refine r_gIe g.1 h9 rfl (fun v35 b10 e11 => ?_)
    have q12 : In 0 1 v35 := b10 _ _ rfl
    refine r_if (fun c13 => ?_) (fun c13 => ?_)
    · have q14 : In 0 0 v35 := In_w (In_eq c13 (by decide : In 0 0 (0 : Int32))) (by decide) (by decide)
      exact t_K_exchange_B80 (Rlweak g (by decide +kernel) (by decide) (by decide))  h_x0 (In_w h_x3 (by decide) (by decide)) h_x4 h_x5 
    · have q15 : In 1 1 v35 := In_w (In_neL c13 q12 (by decide)) (by decide) (by decide)
      refine r_gIe g.1 h_x4 rfl (fun v36 b16 e17 => ?_)
      refine r_if (fun c18 => ?_) (fun c18 => ?_)
      · have q19 : In 3 2147483647 v36 := In_w (In_le2 c18 (by decide : In 3 3 (3 : Int32)) (In_top v36)) (by decide) (by decide)
        exact t_K_exchange_B80 (Rlweak g (by decide +kernel) (by decide) (by decide))  h_x0 (In_w h_x3 (by decide) (by decide)) h_x4 h_x5 
      · have q20 : In (-2147483648) 2 v36 := In_w (In_lt1 (Int32.not_le.mp c18) (In_top v36) (by decide : In 3 3 (3 : Int32))) (by decide) (by decide)
        exact t_K_exchange_B81_5c1 (Rlweak g (by decide +kernel) (by decide) (by decide))  h_x0 (In_w h_x3 (by decide) (by decide)) h_x4 h_x5 
theorem t_K_exchange_B41_5c0 {T0 T : Nat → Nat} {S0 S : AS} (g : Rl T0 [] S0 0 0 T S) {x0 : Option Nat} {x2 : Int32} {x3 : Int32} {x4 : Option Nat} {x5 : Option Nat} (h_x0 : Tx T 1 x0) (h_x4 : Tx T 45 x4) (h_x5 : Tx T 17 x5) : Ho (f_K_exchange_B41  S x0 x2 x3 x4 x5 (0 : Int32)) (PY T0 kw_K77 S0 2 320 ["java/lang/IllegalArgumentException", "java/lang/IllegalStateException", "java/lang/IndexOutOfBoundsException"] (fun v T' => In (-2) 199 v)) := by
  unfold f_K_exchange_B41
  refine r_rA (fun c1 => absurd rfl c1) ⟨_, (Rlweak (RlwX g) (by decide +kernel) (by decide) (by decide)), Or.inr ⟨_, rfl, by decide +kernel⟩⟩
theorem t_K_exchange_B40 {T0 T : Nat → Nat} {S0 S : AS} (g : Rl T0 [] S0 0 0 T S) {x0 : Option Nat} {x2 : Int32} {x3 : Int32} {x4 : Option Nat} {x5 : Option Nat} (h_x0 : Tx T 1 x0) (h_x4 : Tx T 45 x4) (h_x5 : Tx T 17 x5) : Ho (f_K_exchange_B40  S x0 x2 x3 x4 x5) (PY T0 kw_K77 S0 2 320 ["java/lang/IllegalArgumentException", "java/lang/IllegalStateException", "java/lang/IndexOutOfBoundsException"] (fun v T' => In (-2) 199 v)) := by
  unfold f_K_exchange_B40
  exact t_K_exchange_B41_5c0 (Rlweak g (by decide +kernel) (by decide) (by decide))  h_x0 h_x4 h_x5 
theorem t_K_exchange {T : Nat → Nat} {S : AS} (hT : TI T S) {a0 : Option Nat} {a1 : Int32} {a2 : Int32} {a3 : Int32} (h_a0 : Tx T 1 a0) : Ho (f_K_exchange  S a0 a1 a2 a3) (PY T kw_K77 S 2 320 ["java/lang/IllegalArgumentException", "java/lang/IllegalStateException", "java/lang/IndexOutOfBoundsException"] (fun v T' => In (-2) 199 v)) := by
  have g0 := Rlrf hT
  unfold f_K_exchange
  refine r_rv g0.1 h_a0 rfl ?_
  refine r_T (t_K_findToken g0.1 h_a0) (fun v39 h1 => ?_) (fun e he => ⟨_, (Rlweak (RlwX g0) (by decide +kernel) (by decide) (by decide)), Or.inr ⟨e, rfl, ((by decide +kernel : ∀ x ∈ (["java/lang/IndexOutOfBoundsException"] : List String), x ∈ (["java/lang/IllegalArgumentException", "java/lang/IllegalStateException", "java/lang/IndexOutOfBoundsException"] : List String)) e he)⟩⟩)
  refine r_rv g0.1 h_a0 rfl ?_
  refine r_T (t_K_findService g0.1 h_a0) (fun v42 h2 => ?_) (fun e he => ⟨_, (Rlweak (RlwX g0) (by decide +kernel) (by decide) (by decide)), Or.inr ⟨e, rfl, ((by decide +kernel : ∀ x ∈ (["java/lang/IndexOutOfBoundsException"] : List String), x ∈ (["java/lang/IllegalArgumentException", "java/lang/IllegalStateException", "java/lang/IndexOutOfBoundsException"] : List String)) e he)⟩⟩)
  refine r_Kw (fun p3 p3b => ?_) ?_
  · have q4 : In 1 2147483647 a3 := In_w (In_le2 p3 (by decide : In 1 1 (1 : Int32)) (In_top a3)) (by decide) (by decide)
    have q5 : In 1 15 a3 := In_w (In_le1 p3b q4 (by decide : In 15 15 (15 : Int32))) (by decide) (by decide)
    refine r_ifF (by decide) ?_
    refine r_gIe g0.1 h1 rfl (fun v45 b6 e7 => ?_)
    refine r_if (fun c8 => ?_) (fun c8 => ?_)
    · exact t_K_exchange_B41_5c1 (Rlweak g0 (by decide +kernel) (by decide) (by decide))  h_a0 (In_w q5 (by decide) (by decide)) h1 h2
    · exact t_K_exchange_B40 (Rlweak g0 (by decide +kernel) (by decide) (by decide))  h_a0 h1 h2
  · refine r_ifT (by decide) ?_
    exact t_K_exchange_B40 (Rlweak g0 (by decide +kernel) (by decide) (by decide))  h_a0 h1 h2 
theorem t_K_token {T : Nat → Nat} {S : AS} (hT : TI T S) {a0 : Option Nat} {a1 : Int32} (h_a0 : Tx T 1 a0) : Ho (f_K_token  S a0 a1) (PT S ["java/lang/IndexOutOfBoundsException"] (fun v => True)) := by
  unfold f_K_token
  refine r_rv hT h_a0 rfl ?_
  refine r_T (t_K_findToken hT h_a0) (fun v3 h1 => ?_) (fun e he => Or.inr ⟨e, rfl, rfl, ((by decide +kernel : ∀ x ∈ (["java/lang/IndexOutOfBoundsException"] : List String), x ∈ (["java/lang/IndexOutOfBoundsException"] : List String)) e he)⟩)
  refine r_gIe hT h1 rfl (fun v4 b2 e3 => ?_)
  refine r_gIe hT h1 rfl (fun v5 b4 e5 => ?_)
  refine r_gIe hT h1 rfl (fun v6 b6 e7 => ?_)
  refine r_gIe hT h1 rfl (fun v7 b8 e9 => ?_)
  exact r_some (Or.inl ⟨_, rfl, rfl, trivial⟩)
theorem t_K_turn_B28_1c1 {T : Nat → Nat} {S0 S : AS} (g : Rl T [] S0 0 0 T S) {x0 : Option Nat} (h_x0 : Tx T 1 x0) : Ho (f_K_turn_B28  S x0 (1 : Int32)) (PX T kw_K27 S0 1 6 ["java/lang/IllegalStateException"] (fun v => True)) := by
  unfold f_K_turn_B28
  refine r_rS (fun c1 => ?_) ⟨(Rlweak (RlwX g) (by decide +kernel) (by decide) (by decide)), Or.inr ⟨_, rfl, by decide +kernel⟩⟩
  refine r_gR g.1 h_x0 rfl rfl (fun v3 h2 => ?_)
  refine r_gIe g.1 h_x0 rfl (fun v4 b3 e4 => ?_)
  refine r_rv g.1 h2 rfl ?_
  refine r_b2 (t_Keyring_publishWaiting g.1 h2) (fun v7 s6 h5 => ?_)
  obtain ⟨g7, h5r⟩ := h5
  have g8 : Rl T kw_K27 S0 0 0 T s6 := Rltrans g g7 (by decide +kernel)
  exact r_some ⟨(Rlweak g8 (by decide +kernel) (by decide) (by decide)), Or.inl ⟨_, rfl, trivial⟩⟩
theorem t_K_turn_B28_1c0 {T : Nat → Nat} {S0 S : AS} (g : Rl T [] S0 0 0 T S) {x0 : Option Nat} (h_x0 : Tx T 1 x0) : Ho (f_K_turn_B28  S x0 (0 : Int32)) (PX T kw_K27 S0 1 6 ["java/lang/IllegalStateException"] (fun v => True)) := by
  unfold f_K_turn_B28
  refine r_rS (fun c1 => absurd rfl c1) ⟨(Rlweak (RlwX g) (by decide +kernel) (by decide) (by decide)), Or.inr ⟨_, rfl, by decide +kernel⟩⟩
theorem t_K_turn_B27 {T : Nat → Nat} {S0 S : AS} (g : Rl T [] S0 0 0 T S) {x0 : Option Nat} (h_x0 : Tx T 1 x0) : Ho (f_K_turn_B27  S x0) (PX T kw_K27 S0 1 6 ["java/lang/IllegalStateException"] (fun v => True)) := by
  unfold f_K_turn_B27
  exact t_K_turn_B28_1c0 (Rlweak g (by decide +kernel) (by decide) (by decide))  h_x0 
theorem t_K_turn {T : Nat → Nat} {S : AS} (hT : TI T S) {a0 : Option Nat} (h_a0 : Tx T 1 a0) : Ho (f_K_turn  S a0) (PX T kw_K27 S 1 6 ["java/lang/IllegalStateException"] (fun v => True)) := by
  have g0 := Rlrf hT
  unfold f_K_turn
  refine r_gR g0.1 h_a0 rfl rfl (fun v8 h1 => ?_)
  refine r_gIe g0.1 h1 rfl (fun v9 b2 e3 => ?_)
  refine r_if (fun c4 => ?_) (fun c4 => ?_)
  · have q5 : In (-1) (-1) v9 := In_w (In_eq c4 (by decide : In (-1) (-1) (-1 : Int32))) (by decide) (by decide)
    refine r_gR g0.1 h_a0 rfl rfl (fun v10 h6 => ?_)
    refine r_gIe g0.1 h6 rfl (fun v11 b7 e8 => ?_)
    refine r_if (fun c9 => ?_) (fun c9 => ?_)
    · have q10 : In 20 2147483647 v11 := In_w (In_le2 c9 (by decide : In 20 20 (20 : Int32)) (In_top v11)) (by decide) (by decide)
      exact t_K_turn_B27 (Rlweak g0 (by decide +kernel) (by decide) (by decide))  h_a0 
    · have q11 : In (-2147483648) 19 v11 := In_w (In_lt1 (Int32.not_le.mp c9) (In_top v11) (by decide : In 20 20 (20 : Int32))) (by decide) (by decide)
      exact t_K_turn_B28_1c1 (Rlweak g0 (by decide +kernel) (by decide) (by decide))  h_a0 
  · exact t_K_turn_B27 (Rlweak g0 (by decide +kernel) (by decide) (by decide))  h_a0
theorem t_K_emergency_B28_1c0 {T : Nat → Nat} {S0 S : AS} (g : Rl T [] S0 0 0 T S) {x0 : Option Nat} (h_x0 : Tx T 1 x0) : Ho (f_K_emergency_B28  S x0 (0 : Int32)) (PX T kw_K89 S0 1 6 ["java/lang/IllegalStateException"] (fun v => True)) := by
  unfold f_K_emergency_B28
  refine r_rS (fun c1 => absurd rfl c1) ⟨(Rlweak (RlwX g) (by decide +kernel) (by decide) (by decide)), Or.inr ⟨_, rfl, by decide +kernel⟩⟩
theorem t_K_emergency_B28_1c1 {T : Nat → Nat} {S0 S : AS} (g : Rl T [] S0 0 0 T S) {x0 : Option Nat} (h_x0 : Tx T 1 x0) : Ho (f_K_emergency_B28  S x0 (1 : Int32)) (PX T kw_K89 S0 1 6 ["java/lang/IllegalStateException"] (fun v => True)) := by
  unfold f_K_emergency_B28
  refine r_rS (fun c1 => ?_) ⟨(Rlweak (RlwX g) (by decide +kernel) (by decide) (by decide)), Or.inr ⟨_, rfl, by decide +kernel⟩⟩
  refine r_gR g.1 h_x0 rfl rfl (fun v3 h2 => ?_)
  refine r_rv g.1 h2 rfl ?_
  refine r_bind (t_Keyring_replaceSigner g.1 h2) (fun s3 h4 => ?_)
  have g5 : Rl T kw_K29 S0 0 0 T s3 := Rltrans g h4 (by decide +kernel)
  refine r_gR g5.1 h_x0 rfl rfl (fun v6 h6 => ?_)
  refine r_gR g5.1 h_x0 rfl rfl (fun v7 h7 => ?_)
  refine r_gIe g5.1 h7 rfl (fun v8 b8 e9 => ?_)
  refine r_gIe g5.1 h_x0 rfl (fun v9 b10 e11 => ?_)
  refine r_rv g5.1 h6 rfl ?_
  refine r_bind (t_Audit_write g5.1 h6) (fun s12 h13 => ?_)
  have g14 : Rl T kw_K89 S0 0 0 T s12 := Rltrans g5 h13 (by decide +kernel)
  refine r_gR g14.1 h_x0 rfl rfl (fun v12 h15 => ?_)
  refine r_gIe g14.1 h15 rfl (fun v13 b16 e17 => ?_)
  exact r_some ⟨(Rlweak g14 (by decide +kernel) (by decide) (by decide)), Or.inl ⟨_, rfl, trivial⟩⟩
theorem t_K_emergency_B23 {T : Nat → Nat} {S0 S : AS} (g : Rl T [] S0 0 0 T S) {x0 : Option Nat} (h_x0 : Tx T 1 x0) : Ho (f_K_emergency_B23  S x0) (PX T kw_K89 S0 1 6 ["java/lang/IllegalStateException"] (fun v => True)) := by
  unfold f_K_emergency_B23
  exact t_K_emergency_B28_1c1 (Rlweak g (by decide +kernel) (by decide) (by decide))  h_x0 
theorem t_K_emergency {T : Nat → Nat} {S : AS} (hT : TI T S) {a0 : Option Nat} (h_a0 : Tx T 1 a0) : Ho (f_K_emergency  S a0) (PX T kw_K89 S 1 6 ["java/lang/IllegalStateException"] (fun v => True)) := by
  have g0 := Rlrf hT
  unfold f_K_emergency
  refine r_gR g0.1 h_a0 rfl rfl (fun v14 h1 => ?_)
  refine r_gIe g0.1 h1 rfl (fun v15 b2 e3 => ?_)
  refine r_if (fun c4 => ?_) (fun c4 => ?_)
  · have q5 : In (-1) (-1) v15 := In_w (In_eq c4 (by decide : In (-1) (-1) (-1 : Int32))) (by decide) (by decide)
    refine r_gR g0.1 h_a0 rfl rfl (fun v16 h6 => ?_)
    refine r_gIe g0.1 h6 rfl (fun v17 b7 e8 => ?_)
    refine r_if (fun c9 => ?_) (fun c9 => ?_)
    · have q10 : In 20 2147483647 v17 := In_w (In_le2 c9 (by decide : In 20 20 (20 : Int32)) (In_top v17)) (by decide) (by decide)
      exact t_K_emergency_B28_1c0 (Rlweak g0 (by decide +kernel) (by decide) (by decide))  h_a0 
    · have q11 : In (-2147483648) 19 v17 := In_w (In_lt1 (Int32.not_le.mp c9) (In_top v17) (by decide : In 20 20 (20 : Int32))) (by decide) (by decide)
      exact t_K_emergency_B23 (Rlweak g0 (by decide +kernel) (by decide) (by decide))  h_a0 
  · exact t_K_emergency_B23 (Rlweak g0 (by decide +kernel) (by decide) (by decide))  h_a0
theorem t_K_signing {T : Nat → Nat} {S : AS} (hT : TI T S) {a0 : Option Nat} (h_a0 : Tx T 1 a0) : Ho (f_K_signing  S a0) (fun q => q.2 = S ∧ True) := by
  unfold f_K_signing
  refine r_gR hT h_a0 rfl rfl (fun v1 h1 => ?_)
  refine r_gIe hT h1 rfl (fun v2 b2 e3 => ?_)
  exact r_some ⟨rfl, trivial⟩
theorem t_K_isPublished {T : Nat → Nat} {S : AS} (hT : TI T S) {a0 : Option Nat} {a1 : Int32} (h_a0 : Tx T 1 a0) : Ho (f_K_isPublished  S a0 a1) (PT S ["java/lang/IndexOutOfBoundsException"] (fun v => In 0 1 v)) := by
  unfold f_K_isPublished
  refine r_gR hT h_a0 rfl rfl (fun v1 h1 => ?_)
  refine r_gIe hT h1 rfl (fun v2 b2 e3 => ?_)
  refine r_rI (fun p4 c5 => ?_) (Or.inr ⟨_, rfl, rfl, by decide +kernel⟩)
  have q6 : In 0 2147483647 a1 := ⟨p4, (In_top a1).2⟩
  have q7 : In 0 2147483646 a1 := In_w (In_lt1 c5 q6 (In_top v2)) (by decide) (by decide)
  refine r_gR hT h_a0 rfl rfl (fun v5 h8 => ?_)
  refine r_gIe hT h8 rfl (fun v6 b9 e10 => ?_)
  refine r_P (P := fun v => In 0 1 v) (t_K_isIn hT ) (fun v8 h11 => ?_)
  refine r_z (In_w h11 (by decide) (by decide)) ?_
  exact r_some (Or.inl ⟨_, rfl, rfl, (In_w h11 (by decide) (by decide))⟩)
theorem t_K_tellOfEnded_B48 {T : Nat → Nat} {S0 S : AS} (g : Rl T kw_K8 S0 0 0 T S) {x0 : Option Nat} {x1 : Int32} {x2 : Int32} {x3 : Int32} {k4 : AS → Option Nat → Int32 → Int32 → Int32 → Option (Int32 × AS)} {n4 : Nat} (hk4 : ∀ (S' : AS) (z0 : Option Nat) (z1 : Int32) (z2 : Int32) (z3 : Int32), Rl T kw_K8 S0 0 0 T S' → Tx T 1 z0 → In 0 200 z3 → (200 + 1 : Int) ≤ z3.toInt + (n4 : Int) → Ho (k4 S' z0 z1 z2 z3) (fun q => Rl T kw_K8 S0 0 0 T q.2 ∧ True)) (hm4 : (200 + 1 : Int) ≤ x3.toInt + ((n4 + 1 : Nat) : Int)) (h_x0 : Tx T 1 x0) (h_x3 : In 0 199 x3) : Ho (f_K_tellOfEnded_B48 k4 S x0 x1 x2 x3) (fun q => Rl T kw_K8 S0 0 0 T q.2 ∧ True) := by
  unfold f_K_tellOfEnded_B48
  refine r_val ?_
  generalize ei1 : (x3 + (1 : Int32)) = i1
  have qi1 : In 1 200 i1 := by rw [← ei1]; exact (In_w (In_add h_x3 (by decide : In 1 1 (1 : Int32)) (by decide) (by decide)) (by decide) (by decide) : In 1 200 (x3 + (1 : Int32)))
  exact hk4 S x0 x1 x2 i1 (Rlweak g (by decide +kernel) (by decide) (by decide)) h_x0 (In_w qi1 (by decide) (by decide))  (by rw [← ei1, toInt_add1 h_x3 (by decide) (by decide)]; omega)
theorem t_K_tellOfEnded_C4 {T : Nat → Nat} {S0 S : AS} (g : Rl T kw_K8 S0 0 0 T S) {x0 : Option Nat} {x1 : Int32} {x2 : Int32} {x3 : Int32} {k4 : AS → Option Nat → Int32 → Int32 → Int32 → Option (Int32 × AS)} {n4 : Nat} (hk4 : ∀ (S' : AS) (z0 : Option Nat) (z1 : Int32) (z2 : Int32) (z3 : Int32), Rl T kw_K8 S0 0 0 T S' → Tx T 1 z0 → In 0 200 z3 → (200 + 1 : Int) ≤ z3.toInt + (n4 : Int) → Ho (k4 S' z0 z1 z2 z3) (fun q => Rl T kw_K8 S0 0 0 T q.2 ∧ True)) (hm4 : (200 + 1 : Int) ≤ x3.toInt + ((n4 + 1 : Nat) : Int)) (h_x0 : Tx T 1 x0) (h_x3 : In 0 200 x3) : Ho (f_K_tellOfEnded_C4 k4 S x0 x1 x2 x3) (fun q => Rl T kw_K8 S0 0 0 T q.2 ∧ True) := by
  unfold f_K_tellOfEnded_C4
  refine r_gR g.1 h_x0 rfl rfl (fun v2 h1 => ?_)
  refine r_rv g.1 h1 rfl ?_
  refine r_size 4 g.1 h1 (by decide) (fun v5 e2 => ?_)
  have q3 : In 0 200 v5 := by rw [e2]; exact sizeIn (q := 4) g.1 (by decide) rfl
  refine r_if (fun c4 => ?_) (fun c4 => ?_)
  · exact r_some ⟨(Rlweak g (by decide +kernel) (by decide) (by decide)), trivial⟩
  · have q5 : In 0 199 x3 := In_w (In_lt1 (Int32.not_le.mp c4) h_x3 q3) (by decide) (by decide)
    have q6 : In 1 200 v5 := In_w (In_lt2 (Int32.not_le.mp c4) h_x3 q3) (by decide) (by decide)
    refine r_gR g.1 h_x0 rfl rfl (fun v6 h7 => ?_)
    refine r_rv g.1 h7 rfl ?_
    refine r_P (ho_get 4 g.1 h7 (by decide) (In_w q5 (by decide) (Int.le_refl _) : In 0 199 x3).1 (sz_lt c4 e2)) (fun v9 (h8 : Tx T 44 v9) => ?_)
    refine r_cc g.1 h8 rfl ?_
    refine r_gIe g.1 h8 rfl (fun v11 b9 e10 => ?_)
    have q11 : In 0 1 v11 := b9 _ _ rfl
    refine r_if (fun c12 => ?_) (fun c12 => ?_)
    · have q13 : In 0 0 v11 := In_w (In_eq c12 (by decide : In 0 0 (0 : Int32))) (by decide) (by decide)
      refine r_rv g.1 h8 rfl ?_
      refine r_b2 (t_Grant_tell g.1 h8) (fun v14 s15 h14 => ?_)
      obtain ⟨g16, h14r⟩ := h14
      have g17 : Rl T kw_K8 S0 0 0 T s15 := Rltrans g g16 (by decide +kernel)
      refine r_if (fun c18 => ?_) (fun c18 => ?_)
      · have q19 : In 0 0 v14 := In_w (In_eq c18 (by decide : In 0 0 (0 : Int32))) (by decide) (by decide)
        exact t_K_tellOfEnded_B48 (Rlweak g17 (by decide +kernel) (by decide) (by decide)) hk4 hm4 h_x0 (In_w q5 (by decide) (by decide)) 
      · have q20 : In 1 1 v14 := In_w (In_neL c18 h14r (by decide)) (by decide) (by decide)
        refine r_val ?_
        generalize ei15 : (x2 + (1 : Int32)) = i15
        exact t_K_tellOfEnded_B48 (Rlweak g17 (by decide +kernel) (by decide) (by decide)) hk4 hm4 h_x0 (In_w q5 (by decide) (by decide)) 
    · have q21 : In 1 1 v11 := In_w (In_neL c12 q11 (by decide)) (by decide) (by decide)
      exact t_K_tellOfEnded_B48 (Rlweak g (by decide +kernel) (by decide) (by decide)) hk4 hm4 h_x0 (In_w q5 (by decide) (by decide)) 
theorem t_K_tellOfEnded_L4 {T : Nat → Nat} {S0 : AS} : ∀ (n : Nat) (S : AS) (x0 : Option Nat) (x1 : Int32) (x2 : Int32) (x3 : Int32), Rl T kw_K8 S0 0 0 T S → Tx T 1 x0 → In 0 200 x3 → (200 + 1 : Int) ≤ x3.toInt + (n : Int) → Ho (f_K_tellOfEnded_L4  n S x0 x1 x2 x3) (fun q => Rl T kw_K8 S0 0 0 T q.2 ∧ True) := by
  intro n
  induction n with
  | zero =>
    intro S x0 x1 x2 x3 g h_x0 h_x3 hm
    exact absurd hm (by have := h_x3.2; omega)
  | succ n ih =>
    intro S x0 x1 x2 x3 g h_x0 h_x3 hm
    exact t_K_tellOfEnded_C4 g  (fun S' z0 z1 z2 z3 g' a_h_x0 a_h_x3 am => ih S' z0 z1 z2 z3 g' a_h_x0 a_h_x3 am) hm h_x0 h_x3 
theorem t_K_tellOfEnded {T : Nat → Nat} {S : AS} (hT : TI T S) {a0 : Option Nat} {a1 : Int32} (h_a0 : Tx T 1 a0) : Ho (f_K_tellOfEnded  S a0 a1) (fun q => Rl T kw_K8 S 0 0 T q.2 ∧ True) := by
  have g0 := Rlrf hT
  unfold f_K_tellOfEnded
  exact t_K_tellOfEnded_L4   kr_FU S a0 a1 (0 : Int32) (0 : Int32) (Rlweak g0 (by decide +kernel) (by decide) (by decide)) h_a0 (In_w (by decide : In 0 0 (0 : Int32)) (by decide) (by decide))  (by decide)
theorem t_K_line_B19_3t17_4c1 {T : Nat → Nat} {S0 S : AS} (g : Rl T [] S0 0 0 T S) {x0 : Option Nat} {x1 : Int32} {x2 : Option Nat} {y0 : Option Nat} (h_x0 : Tx T 1 x0) (h_x2 : Tx T 17 x2) (h_y0 : Tx T 17 y0) : Ho (f_K_line_B19  S x0 x1 x2 y0 (1 : Int32)) (PX T kw_K91 S0 1 6 ["java/lang/IndexOutOfBoundsException"] (fun v => True)) := by
  unfold f_K_line_B19
  refine r_pZ (w' := kw_K90) g h_y0 rfl (by decide) (In_w (by decide : In 1 1 (1 : Int32)) (by decide) (by decide)) (fun _ _ q => by cases q; exact (In_w (by decide : In 1 1 (1 : Int32)) (by decide) (by decide))) rfl (by decide) (by decide +kernel) (by unfold phc; decide) (fun s1 g2 => ?_)
  refine r_gIe g2.1 h_x2 rfl (fun v2 b3 e4 => ?_)
  have q5 : In 0 1 v2 := b3 _ _ rfl
  refine r_if (fun c6 => ?_) (fun c6 => ?_)
  · have q7 : In 0 0 v2 := In_w (In_eq c6 (by decide : In 0 0 (0 : Int32))) (by decide) (by decide)
    exact r_some ⟨(Rlweak g2 (by decide +kernel) (by decide) (by decide)), Or.inl ⟨_, rfl, trivial⟩⟩
  · have q8 : In 1 1 v2 := In_w (In_neL c6 q5 (by decide)) (by decide) (by decide)
    refine r_rv g2.1 h_x0 rfl ?_
    refine r_b2 (t_K_tellOfEnded g2.1 h_x0) (fun v5 s10 h9 => ?_)
    obtain ⟨g11, h9r⟩ := h9
    have g12 : Rl T kw_K91 S0 0 0 T s10 := Rltrans g2 g11 (by decide +kernel)
    exact r_some ⟨(Rlweak g12 (by decide +kernel) (by decide) (by decide)), Or.inl ⟨_, rfl, trivial⟩⟩
theorem t_K_line_B19_3t17_4c0 {T : Nat → Nat} {S0 S : AS} (g : Rl T [] S0 0 0 T S) {x0 : Option Nat} {x1 : Int32} {x2 : Option Nat} {y0 : Option Nat} (h_x0 : Tx T 1 x0) (h_x2 : Tx T 17 x2) (h_y0 : Tx T 17 y0) : Ho (f_K_line_B19  S x0 x1 x2 y0 (0 : Int32)) (PX T kw_K91 S0 1 6 ["java/lang/IndexOutOfBoundsException"] (fun v => True)) := by
  unfold f_K_line_B19
  refine r_pZ (w' := kw_K90) g h_y0 rfl (by decide) (In_w (by decide : In 0 0 (0 : Int32)) (by decide) (by decide)) (fun _ _ q => by cases q; exact (In_w (by decide : In 0 0 (0 : Int32)) (by decide) (by decide))) rfl (by decide) (by decide +kernel) (by unfold phc; decide) (fun s1 g2 => ?_)
  refine r_gIe g2.1 h_x2 rfl (fun v2 b3 e4 => ?_)
  have q5 : In 0 1 v2 := b3 _ _ rfl
  refine r_if (fun c6 => ?_) (fun c6 => ?_)
  · have q7 : In 0 0 v2 := In_w (In_eq c6 (by decide : In 0 0 (0 : Int32))) (by decide) (by decide)
    exact r_some ⟨(Rlweak g2 (by decide +kernel) (by decide) (by decide)), Or.inl ⟨_, rfl, trivial⟩⟩
  · have q8 : In 1 1 v2 := In_w (In_neL c6 q5 (by decide)) (by decide) (by decide)
    refine r_rv g2.1 h_x0 rfl ?_
    refine r_b2 (t_K_tellOfEnded g2.1 h_x0) (fun v5 s10 h9 => ?_)
    obtain ⟨g11, h9r⟩ := h9
    have g12 : Rl T kw_K91 S0 0 0 T s10 := Rltrans g2 g11 (by decide +kernel)
    exact r_some ⟨(Rlweak g12 (by decide +kernel) (by decide) (by decide)), Or.inl ⟨_, rfl, trivial⟩⟩
theorem t_K_line {T : Nat → Nat} {S : AS} (hT : TI T S) {a0 : Option Nat} {a1 : Int32} (h_a0 : Tx T 1 a0) : Ho (f_K_line  S a0 a1) (PX T kw_K91 S 1 6 ["java/lang/IndexOutOfBoundsException"] (fun v => True)) := by
  have g0 := Rlrf hT
  unfold f_K_line
  refine r_rv g0.1 h_a0 rfl ?_
  refine r_T (t_K_findService g0.1 h_a0) (fun v8 h1 => ?_) (fun e he => ⟨(Rlweak (RlwX g0) (by decide +kernel) (by decide) (by decide)), Or.inr ⟨e, rfl, ((by decide +kernel : ∀ x ∈ (["java/lang/IndexOutOfBoundsException"] : List String), x ∈ (["java/lang/IndexOutOfBoundsException"] : List String)) e he)⟩⟩)
  refine r_gIe g0.1 h1 rfl (fun v9 b2 e3 => ?_)
  have q4 : In 0 1 v9 := b2 _ _ rfl
  refine r_if (fun c5 => ?_) (fun c5 => ?_)
  · have q6 : In 0 0 v9 := In_w (In_eq c5 (by decide : In 0 0 (0 : Int32))) (by decide) (by decide)
    exact t_K_line_B19_3t17_4c1 (Rlweak g0 (by decide +kernel) (by decide) (by decide))  h_a0 h1 h1 
  · have q7 : In 1 1 v9 := In_w (In_neL c5 q4 (by decide)) (by decide) (by decide)
    exact t_K_line_B19_3t17_4c0 (Rlweak g0 (by decide +kernel) (by decide) (by decide))  h_a0 h1 h1 
theorem t_K_fetchKeys_B30_2c0 {T : Nat → Nat} {S0 S : AS} (g : Rl T [] S0 0 0 T S) {x0 : Option Nat} {x1 : Option Nat} (h_x0 : Tx T 1 x0) (h_x1 : Tx T 17 x1) : Ho (f_K_fetchKeys_B30  S x0 x1 (0 : Int32)) (fun q => Rl T kw_K93 S0 0 0 T q) := by
  unfold f_K_fetchKeys_B30
  refine r_gIe g.1 h_x1 rfl (fun v1 b1 e2 => ?_)
  have q3 : In 0 1 v1 := b1 _ _ rfl
  refine r_if (fun c4 => ?_) (fun c4 => ?_)
  · have q5 : In 0 0 v1 := In_w (In_eq c4 (by decide : In 0 0 (0 : Int32))) (by decide) (by decide)
    exact r_some (Rlweak g (by decide +kernel) (by decide) (by decide))
  · have q6 : In 1 1 v1 := In_w (In_neL c4 q3 (by decide)) (by decide) (by decide)
    refine r_ifT (by decide) ?_
    exact r_some (Rlweak g (by decide +kernel) (by decide) (by decide))
theorem t_K_fetchKeys_B30_2c1 {T : Nat → Nat} {S0 S : AS} (g : Rl T [] S0 0 0 T S) {x0 : Option Nat} {x1 : Option Nat} (h_x0 : Tx T 1 x0) (h_x1 : Tx T 17 x1) : Ho (f_K_fetchKeys_B30  S x0 x1 (1 : Int32)) (fun q => Rl T kw_K93 S0 0 0 T q) := by
  unfold f_K_fetchKeys_B30
  refine r_gIe g.1 h_x1 rfl (fun v1 b1 e2 => ?_)
  have q3 : In 0 1 v1 := b1 _ _ rfl
  refine r_if (fun c4 => ?_) (fun c4 => ?_)
  · have q5 : In 0 0 v1 := In_w (In_eq c4 (by decide : In 0 0 (0 : Int32))) (by decide) (by decide)
    exact r_some (Rlweak g (by decide +kernel) (by decide) (by decide))
  · have q6 : In 1 1 v1 := In_w (In_neL c4 q3 (by decide)) (by decide) (by decide)
    refine r_ifF (by decide) ?_
    refine r_gR g.1 h_x0 rfl rfl (fun v2 h7 => ?_)
    refine r_gIe g.1 h7 rfl (fun v3 b8 e9 => ?_)
    refine r_pI (w' := kw_K92) g h_x1 rfl (by decide) (fun _ _ q => by cases q) rfl (by decide) (by decide +kernel) (by unfold phc; decide) (fun s10 g11 => ?_)
    refine r_gIe g11.1 h_x0 rfl (fun v5 b12 e13 => ?_)
    refine r_pI (w' := kw_K93) g11 h_x1 rfl (by decide) (fun _ _ q => by cases q) rfl (by decide) (by decide +kernel) (by unfold phc; decide) (fun s14 g15 => ?_)
    exact r_some (Rlweak g15 (by decide +kernel) (by decide) (by decide))
theorem t_K_fetchKeys_B25 {T : Nat → Nat} {S0 S : AS} (g : Rl T [] S0 0 0 T S) {x0 : Option Nat} {x1 : Option Nat} (h_x0 : Tx T 1 x0) (h_x1 : Tx T 17 x1) : Ho (f_K_fetchKeys_B25  S x0 x1) (fun q => Rl T kw_K93 S0 0 0 T q) := by
  unfold f_K_fetchKeys_B25
  exact t_K_fetchKeys_B30_2c1 (Rlweak g (by decide +kernel) (by decide) (by decide))  h_x0 h_x1 
theorem t_K_fetchKeys {T : Nat → Nat} {S : AS} (hT : TI T S) {a0 : Option Nat} {a1 : Option Nat} {a2 : Int32} (h_a0 : Tx T 1 a0) (h_a1 : Tx T 17 a1) : Ho (f_K_fetchKeys  S a0 a1 a2) (fun q => Rl T kw_K93 S 0 0 T q) := by
  have g0 := Rlrf hT
  unfold f_K_fetchKeys
  refine r_gIe g0.1 h_a0 rfl (fun v7 b1 e2 => ?_)
  refine r_gIe g0.1 h_a1 rfl (fun v8 b3 e4 => ?_)
  refine r_if (fun c5 => ?_) (fun c5 => ?_)
  · exact t_K_fetchKeys_B25 (Rlweak g0 (by decide +kernel) (by decide) (by decide))  h_a0 h_a1
  · refine r_gIe g0.1 h_a1 rfl (fun v9 b6 e7 => ?_)
    refine r_P (P := fun v => In 0 1 v) (t_K_isIn g0.1 ) (fun v11 h8 => ?_)
    refine r_if (fun c9 => ?_) (fun c9 => ?_)
    · have q10 : In 0 0 v11 := In_w (In_eq c9 (by decide : In 0 0 (0 : Int32))) (by decide) (by decide)
      exact t_K_fetchKeys_B25 (Rlweak g0 (by decide +kernel) (by decide) (by decide))  h_a0 h_a1 
    · have q11 : In 1 1 v11 := In_w (In_neL c9 h8 (by decide)) (by decide) (by decide)
      exact t_K_fetchKeys_B30_2c0 (Rlweak g0 (by decide +kernel) (by decide) (by decide))  h_a0 h_a1 
theorem t_K_check {T : Nat → Nat} {S : AS} (hT : TI T S) {a0 : Option Nat} {a1 : Int32} {a2 : Int32} {a3 : Int32} (h_a0 : Tx T 1 a0) : Ho (f_K_check  S a0 a1 a2 a3) (PX T kw_K93 S 1 6 ["java/lang/IllegalArgumentException", "java/lang/IndexOutOfBoundsException"] (fun v => In 0 5 v)) := by
  have g0 := Rlrf hT
  unfold f_K_check
  refine r_rv g0.1 h_a0 rfl ?_
  refine r_T (t_K_findService g0.1 h_a0) (fun v3 h1 => ?_) (fun e he => ⟨(Rlweak (RlwX g0) (by decide +kernel) (by decide) (by decide)), Or.inr ⟨e, rfl, ((by decide +kernel : ∀ x ∈ (["java/lang/IndexOutOfBoundsException"] : List String), x ∈ (["java/lang/IllegalArgumentException", "java/lang/IndexOutOfBoundsException"] : List String)) e he)⟩⟩)
  refine r_rv g0.1 h_a0 rfl ?_
  refine r_T (t_K_findToken g0.1 h_a0) (fun v6 h2 => ?_) (fun e he => ⟨(Rlweak (RlwX g0) (by decide +kernel) (by decide) (by decide)), Or.inr ⟨e, rfl, ((by decide +kernel : ∀ x ∈ (["java/lang/IndexOutOfBoundsException"] : List String), x ∈ (["java/lang/IllegalArgumentException", "java/lang/IndexOutOfBoundsException"] : List String)) e he)⟩⟩)
  refine r_Kw (fun p3 p3b => ?_) ?_
  · have q4 : In 0 2147483647 a3 := In_w (In_le2 p3 (by decide : In 0 0 (0 : Int32)) (In_top a3)) (by decide) (by decide)
    have q5 : In 0 3 a3 := In_w (In_le1 p3b q4 (by decide : In 3 3 (3 : Int32))) (by decide) (by decide)
    refine r_rA (fun c6 => ?_) ⟨(Rlweak (RlwX g0) (by decide +kernel) (by decide) (by decide)), Or.inr ⟨_, rfl, by decide +kernel⟩⟩
    refine r_gIe g0.1 h2 rfl (fun v11 b7 e8 => ?_)
    refine r_if (fun c9 => ?_) (fun c9 => ?_)
    · refine r_gIe g0.1 h_a0 rfl (fun v12 b10 e11 => ?_)
      refine r_gIe g0.1 h2 rfl (fun v13 b12 e13 => ?_)
      refine r_if (fun c14 => ?_) (fun c14 => ?_)
      · refine r_gIe g0.1 h2 rfl (fun v14 b15 e16 => ?_)
        refine r_rv g0.1 h_a0 rfl ?_
        refine r_bind (t_K_fetchKeys g0.1 h_a0 h1) (fun s17 h18 => ?_)
        have g19 : Rl T kw_K93 S 0 0 T s17 := Rltrans g0 h18 (by decide +kernel)
        refine r_gIe g19.1 h2 rfl (fun v17 b20 e21 => ?_)
        refine r_gIe g19.1 h1 rfl (fun v18 b22 e23 => ?_)
        refine r_P (P := fun v => In 0 1 v) (t_K_isIn g19.1 ) (fun v20 h24 => ?_)
        refine r_if (fun c25 => ?_) (fun c25 => ?_)
        · have q26 : In 0 0 v20 := In_w (In_eq c25 (by decide : In 0 0 (0 : Int32))) (by decide) (by decide)
          exact r_some ⟨(Rlweak g19 (by decide +kernel) (by decide) (by decide)), Or.inl ⟨_, rfl, (In_w (by decide : In 3 3 (3 : Int32)) (by decide) (by decide))⟩⟩
        · have q27 : In 1 1 v20 := In_w (In_neL c25 h24 (by decide)) (by decide) (by decide)
          refine r_gR g19.1 h2 rfl rfl (fun v21 h28 => ?_)
          refine r_gIe g19.1 h28 rfl (fun v22 b29 e30 => ?_)
          refine r_P (P := fun v => In 0 1 v) (t_K_isIn g19.1 ) (fun v24 h31 => ?_)
          refine r_if (fun c32 => ?_) (fun c32 => ?_)
          · have q33 : In 0 0 v24 := In_w (In_eq c32 (by decide : In 0 0 (0 : Int32))) (by decide) (by decide)
            refine r_gIe g19.1 h2 rfl (fun v25 b34 e35 => ?_)
            refine r_P (P := fun v => In 0 1 v) (t_K_isIn g19.1 ) (fun v27 h36 => ?_)
            refine r_if (fun c37 => ?_) (fun c37 => ?_)
            · have q38 : In 0 0 v27 := In_w (In_eq c37 (by decide : In 0 0 (0 : Int32))) (by decide) (by decide)
              exact r_some ⟨(Rlweak g19 (by decide +kernel) (by decide) (by decide)), Or.inl ⟨_, rfl, (In_w (by decide : In 5 5 (5 : Int32)) (by decide) (by decide))⟩⟩
            · have q39 : In 1 1 v27 := In_w (In_neL c37 h36 (by decide)) (by decide) (by decide)
              exact r_some ⟨(Rlweak g19 (by decide +kernel) (by decide) (by decide)), Or.inl ⟨_, rfl, (In_w (by decide : In 0 0 (0 : Int32)) (by decide) (by decide))⟩⟩
          · have q40 : In 1 1 v24 := In_w (In_neL c32 h31 (by decide)) (by decide) (by decide)
            exact r_some ⟨(Rlweak g19 (by decide +kernel) (by decide) (by decide)), Or.inl ⟨_, rfl, (In_w (by decide : In 4 4 (4 : Int32)) (by decide) (by decide))⟩⟩
      · have q41 : In (-2147483648) 2147483646 v13 := In_w (In_lt1 (Int32.not_le.mp c14) (In_top v13) (In_top v12)) (by decide) (by decide)
        have q42 : In (-2147483647) 2147483647 v12 := In_w (In_lt2 (Int32.not_le.mp c14) (In_top v13) (In_top v12)) (by decide) (by decide)
        exact r_some ⟨(Rlweak g0 (by decide +kernel) (by decide) (by decide)), Or.inl ⟨_, rfl, (In_w (by decide : In 2 2 (2 : Int32)) (by decide) (by decide))⟩⟩
    · exact r_some ⟨(Rlweak g0 (by decide +kernel) (by decide) (by decide)), Or.inl ⟨_, rfl, (In_w (by decide : In 1 1 (1 : Int32)) (by decide) (by decide))⟩⟩
  · refine r_rA (fun c43 => absurd rfl c43) ⟨(Rlweak (RlwX g0) (by decide +kernel) (by decide) (by decide)), Or.inr ⟨_, rfl, by decide +kernel⟩⟩
theorem t_K_lag {T : Nat → Nat} {S : AS} (hT : TI T S) {a0 : Option Nat} {a1 : Int32} (h_a0 : Tx T 1 a0) : Ho (f_K_lag  S a0 a1) (PT S ["java/lang/IndexOutOfBoundsException"] (fun v => True)) := by
  unfold f_K_lag
  refine r_rv hT h_a0 rfl ?_
  refine r_T (t_K_findToken hT h_a0) (fun v3 h1 => ?_) (fun e he => Or.inr ⟨e, rfl, rfl, ((by decide +kernel : ∀ x ∈ (["java/lang/IndexOutOfBoundsException"] : List String), x ∈ (["java/lang/IndexOutOfBoundsException"] : List String)) e he)⟩)
  refine r_gR hT h1 rfl rfl (fun v4 h2 => ?_)
  refine r_gIe hT h2 rfl (fun v5 b3 e4 => ?_)
  have q5 : In 0 1 v5 := b3 _ _ rfl
  refine r_if (fun c6 => ?_) (fun c6 => ?_)
  · have q7 : In 0 0 v5 := In_w (In_eq c6 (by decide : In 0 0 (0 : Int32))) (by decide) (by decide)
    refine r_gIe hT h1 rfl (fun v6 b8 e9 => ?_)
    refine r_gR hT h1 rfl rfl (fun v7 h10 => ?_)
    refine r_gIe hT h10 rfl (fun v8 b11 e12 => ?_)
    refine r_P (P := fun v => In 0 1 v) (t_K_isIn hT ) (fun v10 h13 => ?_)
    refine r_if (fun c14 => ?_) (fun c14 => ?_)
    · have q15 : In 0 0 v10 := In_w (In_eq c14 (by decide : In 0 0 (0 : Int32))) (by decide) (by decide)
      refine r_gIe hT h1 rfl (fun v11 b16 e17 => ?_)
      refine r_gIe hT h_a0 rfl (fun v12 b18 e19 => ?_)
      exact r_some (Or.inl ⟨_, rfl, rfl, trivial⟩)
    · have q20 : In 1 1 v10 := In_w (In_neL c14 h13 (by decide)) (by decide) (by decide)
      exact r_some (Or.inl ⟨_, rfl, rfl, trivial⟩)
  · have q21 : In 1 1 v5 := In_w (In_neL c6 q5 (by decide)) (by decide) (by decide)
    exact r_some (Or.inl ⟨_, rfl, rfl, trivial⟩)
theorem t_K_hasOpenRecovery_B42 {T : Nat → Nat} {S : AS} (hT : TI T S) {x0 : Option Nat} {x1 : Option Nat} {x2 : Int32} {k2 : AS → Option Nat → Option Nat → Int32 → Option (Int32 × AS)} {n2 : Nat} (hk2 : ∀ (z0 : Option Nat) (z1 : Option Nat) (z2 : Int32), Tx T 1 z0 → Tx T 13 z1 → In 0 20 z2 → (20 + 1 : Int) ≤ z2.toInt + (n2 : Int) → Ho (k2 S z0 z1 z2) (fun q => q.2 = S ∧ In 0 1 q.1)) (hm2 : (20 + 1 : Int) ≤ x2.toInt + ((n2 + 1 : Nat) : Int)) (h_x0 : Tx T 1 x0) (h_x1 : Tx T 13 x1) (h_x2 : In 0 19 x2) : Ho (f_K_hasOpenRecovery_B42 k2 S x0 x1 x2) (fun q => q.2 = S ∧ In 0 1 q.1) := by
  unfold f_K_hasOpenRecovery_B42
  refine r_val ?_
  generalize ei1 : (x2 + (1 : Int32)) = i1
  have qi1 : In 1 20 i1 := by rw [← ei1]; exact (In_w (In_add h_x2 (by decide : In 1 1 (1 : Int32)) (by decide) (by decide)) (by decide) (by decide) : In 1 20 (x2 + (1 : Int32)))
  exact hk2  x0 x1 i1  h_x0 h_x1 (In_w qi1 (by decide) (by decide))  (by rw [← ei1, toInt_add1 h_x2 (by decide) (by decide)]; omega)
theorem t_K_hasOpenRecovery_C2 {T : Nat → Nat} {S : AS} (hT : TI T S) {x0 : Option Nat} {x1 : Option Nat} {x2 : Int32} {k2 : AS → Option Nat → Option Nat → Int32 → Option (Int32 × AS)} {n2 : Nat} (hk2 : ∀ (z0 : Option Nat) (z1 : Option Nat) (z2 : Int32), Tx T 1 z0 → Tx T 13 z1 → In 0 20 z2 → (20 + 1 : Int) ≤ z2.toInt + (n2 : Int) → Ho (k2 S z0 z1 z2) (fun q => q.2 = S ∧ In 0 1 q.1)) (hm2 : (20 + 1 : Int) ≤ x2.toInt + ((n2 + 1 : Nat) : Int)) (h_x0 : Tx T 1 x0) (h_x1 : Tx T 13 x1) (h_x2 : In 0 20 x2) : Ho (f_K_hasOpenRecovery_C2 k2 S x0 x1 x2) (fun q => q.2 = S ∧ In 0 1 q.1) := by
  unfold f_K_hasOpenRecovery_C2
  refine r_gR hT h_x0 rfl rfl (fun v2 h1 => ?_)
  refine r_rv hT h1 rfl ?_
  refine r_size 6 hT h1 (by decide) (fun v5 e2 => ?_)
  have q3 : In 0 20 v5 := by rw [e2]; exact sizeIn (q := 6) hT (by decide) rfl
  refine r_if (fun c4 => ?_) (fun c4 => ?_)
  · exact r_some ⟨rfl, (In_w (by decide : In 0 0 (0 : Int32)) (by decide) (by decide))⟩
  · have q5 : In 0 19 x2 := In_w (In_lt1 (Int32.not_le.mp c4) h_x2 q3) (by decide) (by decide)
    have q6 : In 1 20 v5 := In_w (In_lt2 (Int32.not_le.mp c4) h_x2 q3) (by decide) (by decide)
    refine r_gR hT h_x0 rfl rfl (fun v6 h7 => ?_)
    refine r_rv hT h7 rfl ?_
    refine r_P (ho_get 6 hT h7 (by decide) (In_w q5 (by decide) (Int.le_refl _) : In 0 19 x2).1 (sz_lt c4 e2)) (fun v9 (h8 : Tx T 46 v9) => ?_)
    refine r_cc hT h8 rfl ?_
    refine r_gIe hT h8 rfl (fun v11 b9 e10 => ?_)
    have q11 : In 0 1 v11 := b9 _ _ rfl
    refine r_if (fun c12 => ?_) (fun c12 => ?_)
    · have q13 : In 0 0 v11 := In_w (In_eq c12 (by decide : In 0 0 (0 : Int32))) (by decide) (by decide)
      exact t_K_hasOpenRecovery_B42 hT hk2 hm2 h_x0 h_x1 (In_w q5 (by decide) (by decide)) 
    · have q14 : In 1 1 v11 := In_w (In_neL c12 q11 (by decide)) (by decide) (by decide)
      refine r_gR hT h8 rfl rfl (fun v12 h15 => ?_)
      refine r_ac hT h15 (by decide) ?_
      refine r_ac hT h_x1 (by decide) ?_
      refine r_if (fun c16 => ?_) (fun c16 => ?_)
      · exact r_some ⟨rfl, (In_w (by decide : In 1 1 (1 : Int32)) (by decide) (by decide))⟩
      · exact t_K_hasOpenRecovery_B42 hT hk2 hm2 h_x0 h_x1 (In_w q5 (by decide) (by decide))
theorem t_K_hasOpenRecovery_L2 {T : Nat → Nat} {S : AS} (hT : TI T S) : ∀ (n : Nat) (x0 : Option Nat) (x1 : Option Nat) (x2 : Int32), Tx T 1 x0 → Tx T 13 x1 → In 0 20 x2 → (20 + 1 : Int) ≤ x2.toInt + (n : Int) → Ho (f_K_hasOpenRecovery_L2  n S x0 x1 x2) (fun q => q.2 = S ∧ In 0 1 q.1) := by
  intro n
  induction n with
  | zero =>
    intro x0 x1 x2 h_x0 h_x1 h_x2 hm
    exact absurd hm (by have := h_x2.2; omega)
  | succ n ih =>
    intro x0 x1 x2 h_x0 h_x1 h_x2 hm
    exact t_K_hasOpenRecovery_C2 hT  (fun z0 z1 z2 a_h_x0 a_h_x1 a_h_x2 am => ih z0 z1 z2 a_h_x0 a_h_x1 a_h_x2 am) hm h_x0 h_x1 h_x2 
theorem t_K_hasOpenRecovery {T : Nat → Nat} {S : AS} (hT : TI T S) {a0 : Option Nat} {a1 : Option Nat} (h_a0 : Tx T 1 a0) (h_a1 : Tx T 13 a1) : Ho (f_K_hasOpenRecovery  S a0 a1) (fun q => q.2 = S ∧ In 0 1 q.1) := by
  unfold f_K_hasOpenRecovery
  exact t_K_hasOpenRecovery_L2 hT   kr_FU  a0 a1 (0 : Int32)  h_a0 h_a1 (In_w (by decide : In 0 0 (0 : Int32)) (by decide) (by decide))  (by decide)
theorem t_K_recover_B38_2c1 {T0 T : Nat → Nat} {S0 S : AS} (g : Rl T0 [] S0 0 0 T S) {x0 : Option Nat} {x2 : Option Nat} (h_x0 : Tx T 1 x0) (h_x2 : Tx T 13 x2) (hfszlt6 : (sI S0 (lp 6) 2).toInt < 20) : Ho (f_K_recover_B38  S x0 x2 (1 : Int32)) (PY T0 kw_K94 S0 2 320 ["java/lang/IllegalStateException", "java/lang/IndexOutOfBoundsException"] (fun v T' => In (-1) 19 v)) := by
  unfold f_K_recover_B38
  refine r_rS (fun c1 => ?_) ⟨_, (Rlweak (RlwX g) (by decide +kernel) (by decide) (by decide)), Or.inr ⟨_, rfl, by decide +kernel⟩⟩
  refine r_gR g.1 h_x0 rfl rfl (fun v3 h2 => ?_)
  refine r_nO g (by decide) (fun s3 g4 r5 k6 => ?_)
  refine r_gIe g4.1 h_x0 rfl (fun v5 b7 e8 => ?_)
  refine r_bind (ho_Recovery g4 r5 h_x2) (fun s9 h13 => ?_)
  obtain ⟨T11, g10, m12⟩ := h13
  have g14 : Rl T0 [] S0 1 20 T11 s9 := g10
  have u15 := Tx.up h_x0 m12.2.1
  have u16 := Tx.up h_x2 m12.2.1
  have u17 := Tx.up h2 m12.2.1
  refine r_rv g14.1 u17 rfl ?_
  refine r_b2 (ho_add (w' := kw_K94) 6 g14 u17 (by decide) (⟨_, rfl, m12.1, by decide⟩ : Tx T11 46 (some (sN S))) rfl (Int.lt_of_lt_of_le (sz1 6 g14 (by decide) (by decide +kernel) hfszlt6) (by decide)) (by decide) (by decide +kernel)) (fun v9 s18 h22 => ?_)
  obtain ⟨T19, g20, e21, e21s⟩ := h22
  have g23 : Rl T0 kw_K94 S0 2 320 T19 s18 := g20
  have u24 := Tx.up u15 e21
  have u25 := Tx.up u16 e21
  have u26 := Tx.up u17 e21
  have u27 := Tx.up (⟨_, rfl, m12.1, by decide⟩ : Tx T11 46 (some (sN S))) e21
  refine r_gR g23.1 u24 rfl rfl (fun v10 h28 => ?_)
  refine r_rv g23.1 h28 rfl ?_
  refine r_size 6 g23.1 h28 (by decide) (fun v13 e29 => ?_)
  have q30 : In 0 20 v13 := by rw [e29]; exact sizeIn (q := 6) g23.1 (by decide) rfl
  exact r_some ⟨_, (Rlweak g23 (by decide +kernel) (by decide) (by decide)), Or.inl ⟨_, rfl, (In_w (In_w (In_sub q30 (by decide : In 1 1 (1 : Int32)) (by decide) (by decide)) (by decide) (by decide) : In (-1) 19 (v13 - (1 : Int32))) (by decide) (by decide))⟩⟩
theorem t_K_recover_B38_2c0 {T0 T : Nat → Nat} {S0 S : AS} (g : Rl T0 [] S0 0 0 T S) {x0 : Option Nat} {x2 : Option Nat} (h_x0 : Tx T 1 x0) (h_x2 : Tx T 13 x2) : Ho (f_K_recover_B38  S x0 x2 (0 : Int32)) (PY T0 kw_K94 S0 2 320 ["java/lang/IllegalStateException", "java/lang/IndexOutOfBoundsException"] (fun v T' => In (-1) 19 v)) := by
  unfold f_K_recover_B38
  refine r_rS (fun c1 => absurd rfl c1) ⟨_, (Rlweak (RlwX g) (by decide +kernel) (by decide) (by decide)), Or.inr ⟨_, rfl, by decide +kernel⟩⟩
theorem t_K_recover_B37 {T0 T : Nat → Nat} {S0 S : AS} (g : Rl T0 [] S0 0 0 T S) {x0 : Option Nat} {x2 : Option Nat} (h_x0 : Tx T 1 x0) (h_x2 : Tx T 13 x2) : Ho (f_K_recover_B37  S x0 x2) (PY T0 kw_K94 S0 2 320 ["java/lang/IllegalStateException", "java/lang/IndexOutOfBoundsException"] (fun v T' => In (-1) 19 v)) := by
  unfold f_K_recover_B37
  exact t_K_recover_B38_2c0 (Rlweak g (by decide +kernel) (by decide) (by decide))  h_x0 h_x2 
theorem t_K_recover {T : Nat → Nat} {S : AS} (hT : TI T S) {a0 : Option Nat} {a1 : Int32} (h_a0 : Tx T 1 a0) : Ho (f_K_recover  S a0 a1) (PY T kw_K94 S 2 320 ["java/lang/IllegalStateException", "java/lang/IndexOutOfBoundsException"] (fun v T' => In (-1) 19 v)) := by
  have g0 := Rlrf hT
  unfold f_K_recover
  refine r_rv g0.1 h_a0 rfl ?_
  refine r_T (t_K_findPerson g0.1 h_a0) (fun v16 h1 => ?_) (fun e he => ⟨_, (Rlweak (RlwX g0) (by decide +kernel) (by decide) (by decide)), Or.inr ⟨e, rfl, ((by decide +kernel : ∀ x ∈ (["java/lang/IndexOutOfBoundsException"] : List String), x ∈ (["java/lang/IllegalStateException", "java/lang/IndexOutOfBoundsException"] : List String)) e he)⟩⟩)
  refine r_gIe g0.1 h1 rfl (fun v17 b2 e3 => ?_)
  have q4 : In 0 1 v17 := b2 _ _ rfl
  refine r_if (fun c5 => ?_) (fun c5 => ?_)
  · have q6 : In 0 0 v17 := In_w (In_eq c5 (by decide : In 0 0 (0 : Int32))) (by decide) (by decide)
    refine r_rv g0.1 h_a0 rfl ?_
    refine r_P (P := fun v => In 0 1 v) (t_K_hasOpenRecovery g0.1 h_a0 h1) (fun v20 h7 => ?_)
    refine r_if (fun c8 => ?_) (fun c8 => ?_)
    · have q9 : In 0 0 v20 := In_w (In_eq c8 (by decide : In 0 0 (0 : Int32))) (by decide) (by decide)
      refine r_gR g0.1 h_a0 rfl rfl (fun v21 h10 => ?_)
      refine r_rv g0.1 h10 rfl ?_
      refine r_size 6 g0.1 h10 (by decide) (fun v24 e11 => ?_)
      have q12 : In 0 20 v24 := by rw [e11]; exact sizeIn (q := 6) g0.1 (by decide) rfl
      refine r_if (fun c13 => ?_) (fun c13 => ?_)
      · have q14 : In 20 20 v24 := In_w (In_le2 c13 (by decide : In 20 20 (20 : Int32)) q12) (by decide) (by decide)
        exact t_K_recover_B37 (Rlweak g0 (by decide +kernel) (by decide) (by decide))  h_a0 h1 
      · have z15 : (sI S (lp 6) 2).toInt < (20 : Int32).toInt := sz0 6 g0 (by decide) (by decide +kernel) e11 c13
        have q16 : In 0 19 v24 := In_w (In_lt1 (Int32.not_le.mp c13) q12 (by decide : In 20 20 (20 : Int32))) (by decide) (by decide)
        exact t_K_recover_B38_2c1 (Rlweak g0 (by decide +kernel) (by decide) (by decide))  h_a0 h1 (Int.lt_of_lt_of_le (show (sI S (lp 6) 2).toInt < 20 from z15) (by decide))
    · have q17 : In 1 1 v20 := In_w (In_neL c8 h7 (by decide)) (by decide) (by decide)
      exact t_K_recover_B37 (Rlweak g0 (by decide +kernel) (by decide) (by decide))  h_a0 h1 
  · have q18 : In 1 1 v17 := In_w (In_neL c5 q4 (by decide)) (by decide) (by decide)
    exact t_K_recover_B37 (Rlweak g0 (by decide +kernel) (by decide) (by decide))  h_a0 h1 
theorem t_K_findRecovery {T : Nat → Nat} {S : AS} (hT : TI T S) {a0 : Option Nat} {a1 : Int32} (h_a0 : Tx T 1 a0) : Ho (f_K_findRecovery  S a0 a1) (PT S ["java/lang/IndexOutOfBoundsException"] (fun v => Tx T 46 v)) := by
  unfold f_K_findRecovery
  refine r_gR hT h_a0 rfl rfl (fun v1 h1 => ?_)
  refine r_rv hT h1 rfl ?_
  refine r_size 6 hT h1 (by decide) (fun v4 e2 => ?_)
  have q3 : In 0 20 v4 := by rw [e2]; exact sizeIn (q := 6) hT (by decide) rfl
  refine r_rI (fun p4 c5 => ?_) (Or.inr ⟨_, rfl, rfl, by decide +kernel⟩)
  have q6 : In 0 2147483647 a1 := ⟨p4, (In_top a1).2⟩
  have q7 : In 0 19 a1 := In_w (In_lt1 c5 q6 q3) (by decide) (by decide)
  refine r_gR hT h_a0 rfl rfl (fun v7 h8 => ?_)
  refine r_rv hT h8 rfl ?_
  refine r_P (ho_get 6 hT h8 (by decide) (In_w q7 (by decide) (Int.le_refl _) : In 0 19 a1).1 (sz_lt2 c5 e2)) (fun v10 (h9 : Tx T 46 v10) => ?_)
  refine r_cc hT h9 rfl ?_
  exact r_some (Or.inl ⟨_, rfl, rfl, h9⟩)
theorem t_K_vouch_B92_3c1 {T : Nat → Nat} {S0 S : AS} (g : Rl T [] S0 0 0 T S) {x0 : Option Nat} {x3 : Option Nat} {x4 : Option Nat} (h_x0 : Tx T 1 x0) (h_x3 : Tx T 46 x3) (h_x4 : Tx T 43 x4) : Ho (f_K_vouch_B92  S x0 x3 x4 (1 : Int32)) (PX T kw_K96 S0 1 6 ["java/lang/IllegalStateException", "java/lang/IndexOutOfBoundsException"] (fun v => True)) := by
  unfold f_K_vouch_B92
  refine r_rS (fun c1 => ?_) ⟨(Rlweak (RlwX g) (by decide +kernel) (by decide) (by decide)), Or.inr ⟨_, rfl, by decide +kernel⟩⟩
  refine r_gIe g.1 h_x3 rfl (fun v3 b2 e3 => ?_)
  refine r_gR g.1 h_x4 rfl rfl (fun v4 h4 => ?_)
  refine r_gIe g.1 h4 rfl (fun v5 b5 e6 => ?_)
  refine r_pI (w' := kw_K95) g h_x3 rfl (by decide) (fun _ _ q => by cases q) rfl (by decide) (by decide +kernel) (by unfold phc; decide) (fun s7 g8 => ?_)
  refine r_gIe g8.1 h_x3 rfl (fun v7 b9 e10 => ?_)
  refine r_gIe g8.1 h_x0 rfl (fun v8 b11 e12 => ?_)
  refine r_rv g8.1 h_x4 rfl ?_
  refine r_P (P := fun v => True) (t_Session_levelAt g8.1 h_x4) (fun v11 h13 => ?_)
  refine r_pI (w' := kw_K96) g8 h_x3 rfl (by decide) (fun _ _ q => by cases q) rfl (by decide) (by decide +kernel) (by unfold phc; decide) (fun s14 g15 => ?_)
  refine r_gIe g15.1 h_x3 rfl (fun v13 b16 e17 => ?_)
  exact r_some ⟨(Rlweak g15 (by decide +kernel) (by decide) (by decide)), Or.inl ⟨_, rfl, trivial⟩⟩
theorem t_K_vouch_B92_3c0 {T : Nat → Nat} {S0 S : AS} (g : Rl T [] S0 0 0 T S) {x0 : Option Nat} {x3 : Option Nat} {x4 : Option Nat} (h_x0 : Tx T 1 x0) (h_x3 : Tx T 46 x3) (h_x4 : Tx T 43 x4) : Ho (f_K_vouch_B92  S x0 x3 x4 (0 : Int32)) (PX T kw_K96 S0 1 6 ["java/lang/IllegalStateException", "java/lang/IndexOutOfBoundsException"] (fun v => True)) := by
  unfold f_K_vouch_B92
  refine r_rS (fun c1 => absurd rfl c1) ⟨(Rlweak (RlwX g) (by decide +kernel) (by decide) (by decide)), Or.inr ⟨_, rfl, by decide +kernel⟩⟩
theorem t_K_vouch_B91 {T : Nat → Nat} {S0 S : AS} (g : Rl T [] S0 0 0 T S) {x0 : Option Nat} {x3 : Option Nat} {x4 : Option Nat} (h_x0 : Tx T 1 x0) (h_x3 : Tx T 46 x3) (h_x4 : Tx T 43 x4) : Ho (f_K_vouch_B91  S x0 x3 x4) (PX T kw_K96 S0 1 6 ["java/lang/IllegalStateException", "java/lang/IndexOutOfBoundsException"] (fun v => True)) := by
  unfold f_K_vouch_B91
  exact t_K_vouch_B92_3c0 (Rlweak g (by decide +kernel) (by decide) (by decide))  h_x0 h_x3 h_x4 
theorem t_K_vouch_B53_3c1 {T : Nat → Nat} {S0 S : AS} (g : Rl T [] S0 0 0 T S) {x0 : Option Nat} {x3 : Option Nat} {x4 : Option Nat} (h_x0 : Tx T 1 x0) (h_x3 : Tx T 46 x3) (h_x4 : Tx T 43 x4) : Ho (f_K_vouch_B53  S x0 x3 x4 (1 : Int32)) (PX T kw_K96 S0 1 6 ["java/lang/IllegalStateException", "java/lang/IndexOutOfBoundsException"] (fun v => True)) := by
  unfold f_K_vouch_B53
  refine r_rS (fun c1 => ?_) ⟨(Rlweak (RlwX g) (by decide +kernel) (by decide) (by decide)), Or.inr ⟨_, rfl, by decide +kernel⟩⟩
  refine r_gIe g.1 h_x0 rfl (fun v16 b2 e3 => ?_)
  refine r_rv g.1 h_x4 rfl ?_
  refine r_P (P := fun v => True) (t_Session_levelAt g.1 h_x4) (fun v19 h4 => ?_)
  refine r_if (fun c5 => ?_) (fun c5 => ?_)
  · have q6 : In (-2147483648) 2 v19 := In_w (In_lt1 c5 (In_top v19) (by decide : In 3 3 (3 : Int32))) (by decide) (by decide)
    exact t_K_vouch_B91 (Rlweak g (by decide +kernel) (by decide) (by decide))  h_x0 h_x3 h_x4 
  · have q7 : In 3 2147483647 v19 := In_w (In_le2 (Int32.not_lt.mp c5) (by decide : In 3 3 (3 : Int32)) (In_top v19)) (by decide) (by decide)
    refine r_gR g.1 h_x4 rfl rfl (fun v20 h8 => ?_)
    refine r_gIe g.1 h8 rfl (fun v21 b9 e10 => ?_)
    refine r_gIe g.1 h_x3 rfl (fun v22 b11 e12 => ?_)
    refine r_P (P := fun v => In 0 1 v) (t_K_isIn g.1 ) (fun v24 h13 => ?_)
    refine r_if (fun c14 => ?_) (fun c14 => ?_)
    · have q15 : In 0 0 v24 := In_w (In_eq c14 (by decide : In 0 0 (0 : Int32))) (by decide) (by decide)
      exact t_K_vouch_B92_3c1 (Rlweak g (by decide +kernel) (by decide) (by decide))  h_x0 h_x3 h_x4 
    · have q16 : In 1 1 v24 := In_w (In_neL c14 h13 (by decide)) (by decide) (by decide)
      exact t_K_vouch_B91 (Rlweak g (by decide +kernel) (by decide) (by decide))  h_x0 h_x3 h_x4 
theorem t_K_vouch_B53_3c0 {T : Nat → Nat} {S0 S : AS} (g : Rl T [] S0 0 0 T S) {x0 : Option Nat} {x3 : Option Nat} {x4 : Option Nat} (h_x0 : Tx T 1 x0) (h_x3 : Tx T 46 x3) (h_x4 : Tx T 43 x4) : Ho (f_K_vouch_B53  S x0 x3 x4 (0 : Int32)) (PX T kw_K96 S0 1 6 ["java/lang/IllegalStateException", "java/lang/IndexOutOfBoundsException"] (fun v => True)) := by
  unfold f_K_vouch_B53
  refine r_rS (fun c1 => absurd rfl c1) ⟨(Rlweak (RlwX g) (by decide +kernel) (by decide) (by decide)), Or.inr ⟨_, rfl, by decide +kernel⟩⟩
theorem t_K_vouch_B52 {T : Nat → Nat} {S0 S : AS} (g : Rl T [] S0 0 0 T S) {x0 : Option Nat} {x3 : Option Nat} {x4 : Option Nat} (h_x0 : Tx T 1 x0) (h_x3 : Tx T 46 x3) (h_x4 : Tx T 43 x4) : Ho (f_K_vouch_B52  S x0 x3 x4) (PX T kw_K96 S0 1 6 ["java/lang/IllegalStateException", "java/lang/IndexOutOfBoundsException"] (fun v => True)) := by
  unfold f_K_vouch_B52
  exact t_K_vouch_B53_3c0 (Rlweak g (by decide +kernel) (by decide) (by decide))  h_x0 h_x3 h_x4 
theorem t_K_vouch {T : Nat → Nat} {S : AS} (hT : TI T S) {a0 : Option Nat} {a1 : Int32} {a2 : Int32} (h_a0 : Tx T 1 a0) : Ho (f_K_vouch  S a0 a1 a2) (PX T kw_K96 S 1 6 ["java/lang/IllegalStateException", "java/lang/IndexOutOfBoundsException"] (fun v => True)) := by
  have g0 := Rlrf hT
  unfold f_K_vouch
  refine r_rv g0.1 h_a0 rfl ?_
  refine r_T (t_K_findRecovery g0.1 h_a0) (fun v27 h1 => ?_) (fun e he => ⟨(Rlweak (RlwX g0) (by decide +kernel) (by decide) (by decide)), Or.inr ⟨e, rfl, ((by decide +kernel : ∀ x ∈ (["java/lang/IndexOutOfBoundsException"] : List String), x ∈ (["java/lang/IllegalStateException", "java/lang/IndexOutOfBoundsException"] : List String)) e he)⟩⟩)
  refine r_rv g0.1 h_a0 rfl ?_
  refine r_T (t_K_findSession g0.1 h_a0) (fun v30 h2 => ?_) (fun e he => ⟨(Rlweak (RlwX g0) (by decide +kernel) (by decide) (by decide)), Or.inr ⟨e, rfl, ((by decide +kernel : ∀ x ∈ (["java/lang/IndexOutOfBoundsException"] : List String), x ∈ (["java/lang/IllegalStateException", "java/lang/IndexOutOfBoundsException"] : List String)) e he)⟩⟩)
  refine r_gIe g0.1 h1 rfl (fun v31 b3 e4 => ?_)
  have q5 : In 0 1 v31 := b3 _ _ rfl
  refine r_if (fun c6 => ?_) (fun c6 => ?_)
  · have q7 : In 0 0 v31 := In_w (In_eq c6 (by decide : In 0 0 (0 : Int32))) (by decide) (by decide)
    exact t_K_vouch_B52 (Rlweak g0 (by decide +kernel) (by decide) (by decide))  h_a0 h1 h2 
  · have q8 : In 1 1 v31 := In_w (In_neL c6 q5 (by decide)) (by decide) (by decide)
    refine r_gIe g0.1 h2 rfl (fun v32 b9 e10 => ?_)
    have q11 : In 0 1 v32 := b9 _ _ rfl
    refine r_if (fun c12 => ?_) (fun c12 => ?_)
    · have q13 : In 0 0 v32 := In_w (In_eq c12 (by decide : In 0 0 (0 : Int32))) (by decide) (by decide)
      exact t_K_vouch_B52 (Rlweak g0 (by decide +kernel) (by decide) (by decide))  h_a0 h1 h2 
    · have q14 : In 1 1 v32 := In_w (In_neL c12 q11 (by decide)) (by decide) (by decide)
      refine r_gRn g0.1 h2 rfl rfl ?_ (fun v33 h15 => ?_)
      · refine r_ifT rfl ?_
        refine r_gR g0.1 h2 rfl rfl (fun v34 h16 => ?_)
        refine r_gR g0.1 h1 rfl rfl (fun v35 h17 => ?_)
        refine r_ac g0.1 h16 (by decide) ?_
        refine r_ac g0.1 h17 (by decide) ?_
        refine r_if (fun c18 => ?_) (fun c18 => ?_)
        · exact t_K_vouch_B52 (Rlweak g0 (by decide +kernel) (by decide) (by decide))  h_a0 h1 h2
        · exact t_K_vouch_B53_3c1 (Rlweak g0 (by decide +kernel) (by decide) (by decide))  h_a0 h1 h2
      · refine r_ifF (Tx.ne h15) ?_
        exact t_K_vouch_B52 (Rlweak g0 (by decide +kernel) (by decide) (by decide))  h_a0 h1 h2 
theorem t_K_stop_B53_1c1 {T : Nat → Nat} {S0 S : AS} (g : Rl T [] S0 0 0 T S) {x3 : Option Nat} (h_x3 : Tx T 46 x3) : Ho (f_K_stop_B53  S x3 (1 : Int32)) (PX T kw_K97 S0 1 6 ["java/lang/IllegalStateException", "java/lang/IndexOutOfBoundsException"] (fun v => True)) := by
  unfold f_K_stop_B53
  refine r_rS (fun c1 => ?_) ⟨(Rlweak (RlwX g) (by decide +kernel) (by decide) (by decide)), Or.inr ⟨_, rfl, by decide +kernel⟩⟩
  refine r_pZ (w' := kw_K97) g h_x3 rfl (by decide) (In_w (by decide : In 0 0 (0 : Int32)) (by decide) (by decide)) (fun _ _ q => by cases q; exact (In_w (by decide : In 0 0 (0 : Int32)) (by decide) (by decide))) rfl (by decide) (by decide +kernel) (by unfold phc; decide) (fun s2 g3 => ?_)
  refine r_rv g3.1 h_x3 rfl ?_
  refine r_P (P := fun v => True) (t_Recovery_countVouchers g3.1 h_x3) (fun v6 h4 => ?_)
  exact r_some ⟨(Rlweak g3 (by decide +kernel) (by decide) (by decide)), Or.inl ⟨_, rfl, trivial⟩⟩
theorem t_K_stop_B53_1c0 {T : Nat → Nat} {S0 S : AS} (g : Rl T [] S0 0 0 T S) {x3 : Option Nat} (h_x3 : Tx T 46 x3) : Ho (f_K_stop_B53  S x3 (0 : Int32)) (PX T kw_K97 S0 1 6 ["java/lang/IllegalStateException", "java/lang/IndexOutOfBoundsException"] (fun v => True)) := by
  unfold f_K_stop_B53
  refine r_rS (fun c1 => absurd rfl c1) ⟨(Rlweak (RlwX g) (by decide +kernel) (by decide) (by decide)), Or.inr ⟨_, rfl, by decide +kernel⟩⟩
theorem t_K_stop_B52 {T : Nat → Nat} {S0 S : AS} (g : Rl T [] S0 0 0 T S) {x3 : Option Nat} (h_x3 : Tx T 46 x3) : Ho (f_K_stop_B52  S x3) (PX T kw_K97 S0 1 6 ["java/lang/IllegalStateException", "java/lang/IndexOutOfBoundsException"] (fun v => True)) := by
  unfold f_K_stop_B52
  exact t_K_stop_B53_1c0 (Rlweak g (by decide +kernel) (by decide) (by decide))  h_x3 
theorem t_K_stop {T : Nat → Nat} {S : AS} (hT : TI T S) {a0 : Option Nat} {a1 : Int32} {a2 : Int32} (h_a0 : Tx T 1 a0) : Ho (f_K_stop  S a0 a1 a2) (PX T kw_K97 S 1 6 ["java/lang/IllegalStateException", "java/lang/IndexOutOfBoundsException"] (fun v => True)) := by
  have g0 := Rlrf hT
  unfold f_K_stop
  refine r_rv g0.1 h_a0 rfl ?_
  refine r_T (t_K_findRecovery g0.1 h_a0) (fun v9 h1 => ?_) (fun e he => ⟨(Rlweak (RlwX g0) (by decide +kernel) (by decide) (by decide)), Or.inr ⟨e, rfl, ((by decide +kernel : ∀ x ∈ (["java/lang/IndexOutOfBoundsException"] : List String), x ∈ (["java/lang/IllegalStateException", "java/lang/IndexOutOfBoundsException"] : List String)) e he)⟩⟩)
  refine r_rv g0.1 h_a0 rfl ?_
  refine r_T (t_K_findSession g0.1 h_a0) (fun v12 h2 => ?_) (fun e he => ⟨(Rlweak (RlwX g0) (by decide +kernel) (by decide) (by decide)), Or.inr ⟨e, rfl, ((by decide +kernel : ∀ x ∈ (["java/lang/IndexOutOfBoundsException"] : List String), x ∈ (["java/lang/IllegalStateException", "java/lang/IndexOutOfBoundsException"] : List String)) e he)⟩⟩)
  refine r_gIe g0.1 h1 rfl (fun v13 b3 e4 => ?_)
  have q5 : In 0 1 v13 := b3 _ _ rfl
  refine r_if (fun c6 => ?_) (fun c6 => ?_)
  · have q7 : In 0 0 v13 := In_w (In_eq c6 (by decide : In 0 0 (0 : Int32))) (by decide) (by decide)
    exact t_K_stop_B52 (Rlweak g0 (by decide +kernel) (by decide) (by decide))  h1 
  · have q8 : In 1 1 v13 := In_w (In_neL c6 q5 (by decide)) (by decide) (by decide)
    refine r_gIe g0.1 h2 rfl (fun v14 b9 e10 => ?_)
    have q11 : In 0 1 v14 := b9 _ _ rfl
    refine r_if (fun c12 => ?_) (fun c12 => ?_)
    · have q13 : In 0 0 v14 := In_w (In_eq c12 (by decide : In 0 0 (0 : Int32))) (by decide) (by decide)
      exact t_K_stop_B52 (Rlweak g0 (by decide +kernel) (by decide) (by decide))  h1 
    · have q14 : In 1 1 v14 := In_w (In_neL c12 q11 (by decide)) (by decide) (by decide)
      refine r_gRn g0.1 h2 rfl rfl ?_ (fun v15 h15 => ?_)
      · refine r_ifT rfl ?_
        refine r_gR g0.1 h2 rfl rfl (fun v16 h16 => ?_)
        refine r_gR g0.1 h1 rfl rfl (fun v17 h17 => ?_)
        refine r_ac g0.1 h16 (by decide) ?_
        refine r_ac g0.1 h17 (by decide) ?_
        refine r_if (fun c18 => ?_) (fun c18 => ?_)
        · exact t_K_stop_B53_1c1 (Rlweak g0 (by decide +kernel) (by decide) (by decide))  h1
        · exact t_K_stop_B52 (Rlweak g0 (by decide +kernel) (by decide) (by decide))  h1
      · refine r_ifF (Tx.ne h15) ?_
        exact t_K_stop_B52 (Rlweak g0 (by decide +kernel) (by decide) (by decide))  h1 
theorem t_K_endSessionsOf_B54 {T : Nat → Nat} {S0 S : AS} (g : Rl T kw_K38 S0 0 0 T S) {x0 : Option Nat} {x1 : Option Nat} {x2 : Int32} {x3 : Int32} {k7 : AS → Option Nat → Option Nat → Int32 → Int32 → Option ((Int32 ⊕ String) × AS)} {n7 : Nat} (hk7 : ∀ (S' : AS) (z0 : Option Nat) (z1 : Option Nat) (z2 : Int32) (z3 : Int32), Rl T kw_K38 S0 0 0 T S' → Tx T 1 z0 → Tx T 13 z1 → In 0 60 z3 → (60 + 1 : Int) ≤ z3.toInt + (n7 : Int) → Ho (k7 S' z0 z1 z2 z3) (PX T kw_K38 S0 0 0 [] (fun v => True))) (hm7 : (60 + 1 : Int) ≤ x3.toInt + ((n7 + 1 : Nat) : Int)) (h_x0 : Tx T 1 x0) (h_x1 : Tx T 13 x1) (h_x3 : In 0 59 x3) : Ho (f_K_endSessionsOf_B54 k7 S x0 x1 x2 x3) (PX T kw_K38 S0 0 0 [] (fun v => True)) := by
  unfold f_K_endSessionsOf_B54
  refine r_val ?_
  generalize ei1 : (x3 + (1 : Int32)) = i1
  have qi1 : In 1 60 i1 := by rw [← ei1]; exact (In_w (In_add h_x3 (by decide : In 1 1 (1 : Int32)) (by decide) (by decide)) (by decide) (by decide) : In 1 60 (x3 + (1 : Int32)))
  exact hk7 S x0 x1 x2 i1 (Rlweak g (by decide +kernel) (by decide) (by decide)) h_x0 h_x1 (In_w qi1 (by decide) (by decide))  (by rw [← ei1, toInt_add1 h_x3 (by decide) (by decide)]; omega)
theorem t_K_endSessionsOf_C7 {T : Nat → Nat} {S0 S : AS} (g : Rl T kw_K38 S0 0 0 T S) {x0 : Option Nat} {x1 : Option Nat} {x2 : Int32} {x3 : Int32} {k7 : AS → Option Nat → Option Nat → Int32 → Int32 → Option ((Int32 ⊕ String) × AS)} {n7 : Nat} (hk7 : ∀ (S' : AS) (z0 : Option Nat) (z1 : Option Nat) (z2 : Int32) (z3 : Int32), Rl T kw_K38 S0 0 0 T S' → Tx T 1 z0 → Tx T 13 z1 → In 0 60 z3 → (60 + 1 : Int) ≤ z3.toInt + (n7 : Int) → Ho (k7 S' z0 z1 z2 z3) (PX T kw_K38 S0 0 0 [] (fun v => True))) (hm7 : (60 + 1 : Int) ≤ x3.toInt + ((n7 + 1 : Nat) : Int)) (h_x0 : Tx T 1 x0) (h_x1 : Tx T 13 x1) (h_x3 : In 0 60 x3) : Ho (f_K_endSessionsOf_C7 k7 S x0 x1 x2 x3) (PX T kw_K38 S0 0 0 [] (fun v => True)) := by
  unfold f_K_endSessionsOf_C7
  refine r_gR g.1 h_x0 rfl rfl (fun v2 h1 => ?_)
  refine r_rv g.1 h1 rfl ?_
  refine r_size 2 g.1 h1 (by decide) (fun v5 e2 => ?_)
  have q3 : In 0 60 v5 := by rw [e2]; exact sizeIn (q := 2) g.1 (by decide) rfl
  refine r_if (fun c4 => ?_) (fun c4 => ?_)
  · refine r_gIe g.1 h_x0 rfl (fun v6 b5 e6 => ?_)
    exact r_some ⟨(Rlweak g (by decide +kernel) (by decide) (by decide)), Or.inl ⟨_, rfl, trivial⟩⟩
  · have q7 : In 0 59 x3 := In_w (In_lt1 (Int32.not_le.mp c4) h_x3 q3) (by decide) (by decide)
    have q8 : In 1 60 v5 := In_w (In_lt2 (Int32.not_le.mp c4) h_x3 q3) (by decide) (by decide)
    refine r_gR g.1 h_x0 rfl rfl (fun v7 h9 => ?_)
    refine r_rv g.1 h9 rfl ?_
    refine r_P (ho_get 2 g.1 h9 (by decide) (In_w q7 (by decide) (Int.le_refl _) : In 0 59 x3).1 (sz_lt c4 e2)) (fun v10 (h10 : Tx T 43 v10) => ?_)
    refine r_cc g.1 h10 rfl ?_
    refine r_gR g.1 h10 rfl rfl (fun v12 h11 => ?_)
    refine r_ac g.1 h11 (by decide) ?_
    refine r_ac g.1 h_x1 (by decide) ?_
    refine r_if (fun c12 => ?_) (fun c12 => ?_)
    · refine r_gIe g.1 h10 rfl (fun v15 b13 e14 => ?_)
      have q15 : In 0 1 v15 := b13 _ _ rfl
      refine r_if (fun c16 => ?_) (fun c16 => ?_)
      · have q17 : In 0 0 v15 := In_w (In_eq c16 (by decide : In 0 0 (0 : Int32))) (by decide) (by decide)
        exact t_K_endSessionsOf_B54 (Rlweak g (by decide +kernel) (by decide) (by decide)) hk7 hm7 h_x0 h_x1 (In_w q7 (by decide) (by decide)) 
      · have q18 : In 1 1 v15 := In_w (In_neL c16 q15 (by decide)) (by decide) (by decide)
        refine r_rv g.1 h_x0 rfl ?_
        refine r_X (t_K_endSession g.1 h_x0 h10) (fun z18 s20 g21 h19 => ?_) (fun e _ gg he => ⟨(Rlweak (Rltrans g gg (w' := kw_K38) (by decide +kernel)) (by decide +kernel) (by decide) (by decide)), Or.inr ⟨e, rfl, ((by decide +kernel : ∀ x ∈ ([] : List String), x ∈ ([] : List String)) e he)⟩⟩)
        have g22 : Rl T kw_K38 S0 0 0 T s20 := Rltrans g g21 (by decide +kernel)
        exact t_K_endSessionsOf_B54 (Rlweak g22 (by decide +kernel) (by decide) (by decide)) hk7 hm7 h_x0 h_x1 (In_w q7 (by decide) (by decide)) 
    · exact t_K_endSessionsOf_B54 (Rlweak g (by decide +kernel) (by decide) (by decide)) hk7 hm7 h_x0 h_x1 (In_w q7 (by decide) (by decide))
theorem t_K_endSessionsOf_L7 {T : Nat → Nat} {S0 : AS} : ∀ (n : Nat) (S : AS) (x0 : Option Nat) (x1 : Option Nat) (x2 : Int32) (x3 : Int32), Rl T kw_K38 S0 0 0 T S → Tx T 1 x0 → Tx T 13 x1 → In 0 60 x3 → (60 + 1 : Int) ≤ x3.toInt + (n : Int) → Ho (f_K_endSessionsOf_L7  n S x0 x1 x2 x3) (PX T kw_K38 S0 0 0 [] (fun v => True)) := by
  intro n
  induction n with
  | zero =>
    intro S x0 x1 x2 x3 g h_x0 h_x1 h_x3 hm
    exact absurd hm (by have := h_x3.2; omega)
  | succ n ih =>
    intro S x0 x1 x2 x3 g h_x0 h_x1 h_x3 hm
    exact t_K_endSessionsOf_C7 g  (fun S' z0 z1 z2 z3 g' a_h_x0 a_h_x1 a_h_x3 am => ih S' z0 z1 z2 z3 g' a_h_x0 a_h_x1 a_h_x3 am) hm h_x0 h_x1 h_x3 
theorem t_K_endSessionsOf {T : Nat → Nat} {S : AS} (hT : TI T S) {a0 : Option Nat} {a1 : Option Nat} (h_a0 : Tx T 1 a0) (h_a1 : Tx T 13 a1) : Ho (f_K_endSessionsOf  S a0 a1) (PX T kw_K38 S 0 0 [] (fun v => True)) := by
  have g0 := Rlrf hT
  unfold f_K_endSessionsOf
  refine r_gIe g0.1 h_a0 rfl (fun v19 b1 e2 => ?_)
  exact t_K_endSessionsOf_L7   kr_FU S a0 a1 v19 (0 : Int32) (Rlweak g0 (by decide +kernel) (by decide) (by decide)) h_a0 h_a1 (In_w (by decide : In 0 0 (0 : Int32)) (by decide) (by decide))  (by decide)
theorem t_K_finish_B70_3c0 {T : Nat → Nat} {S0 S : AS} (g : Rl T [] S0 0 0 T S) {x0 : Option Nat} {x1 : Int32} {x2 : Option Nat} (h_x0 : Tx T 1 x0) (h_x2 : Tx T 46 x2) : Ho (f_K_finish_B70  S x0 x1 x2 (0 : Int32)) (PX T kw_K101 S0 1 6 ["java/lang/IllegalStateException", "java/lang/IndexOutOfBoundsException"] (fun v => True)) := by
  unfold f_K_finish_B70
  refine r_rS (fun c1 => absurd rfl c1) ⟨(Rlweak (RlwX g) (by decide +kernel) (by decide) (by decide)), Or.inr ⟨_, rfl, by decide +kernel⟩⟩
theorem t_K_finish_B70_3c1 {T : Nat → Nat} {S0 S : AS} (g : Rl T [] S0 0 0 T S) {x0 : Option Nat} {x1 : Int32} {x2 : Option Nat} (h_x0 : Tx T 1 x0) (h_x2 : Tx T 46 x2) : Ho (f_K_finish_B70  S x0 x1 x2 (1 : Int32)) (PX T kw_K101 S0 1 6 ["java/lang/IllegalStateException", "java/lang/IndexOutOfBoundsException"] (fun v => True)) := by
  unfold f_K_finish_B70
  refine r_rS (fun c1 => ?_) ⟨(Rlweak (RlwX g) (by decide +kernel) (by decide) (by decide)), Or.inr ⟨_, rfl, by decide +kernel⟩⟩
  refine r_pZ (w' := kw_K97) g h_x2 rfl (by decide) (In_w (by decide : In 0 0 (0 : Int32)) (by decide) (by decide)) (fun _ _ q => by cases q; exact (In_w (by decide : In 0 0 (0 : Int32)) (by decide) (by decide))) rfl (by decide) (by decide +kernel) (by unfold phc; decide) (fun s2 g3 => ?_)
  refine r_gR g3.1 h_x0 rfl rfl (fun v4 h4 => ?_)
  refine r_gIe g3.1 h_x0 rfl (fun v5 b5 e6 => ?_)
  refine r_rv g3.1 h4 rfl ?_
  refine r_bind (t_Audit_write g3.1 h4) (fun s7 h8 => ?_)
  have g9 : Rl T kw_K98 S0 0 0 T s7 := Rltrans g3 h8 (by decide +kernel)
  refine r_gR g9.1 h_x2 rfl rfl (fun v8 h10 => ?_)
  refine r_rv g9.1 h_x0 rfl ?_
  refine r_X (t_K_endSessionsOf g9.1 h_x0 h10) (fun v11 s12 g13 h11 => ?_) (fun e _ gg he => ⟨(Rlweak (Rltrans g9 gg (w' := kw_K99) (by decide +kernel)) (by decide +kernel) (by decide) (by decide)), Or.inr ⟨e, rfl, ((by decide +kernel : ∀ x ∈ ([] : List String), x ∈ (["java/lang/IllegalStateException", "java/lang/IndexOutOfBoundsException"] : List String)) e he)⟩⟩)
  have g14 : Rl T kw_K99 S0 0 0 T s12 := Rltrans g9 g13 (by decide +kernel)
  refine r_gR g14.1 h_x2 rfl rfl (fun v12 h15 => ?_)
  refine r_rv g14.1 h15 rfl ?_
  refine r_bind (t_Person_loseFactors g14.1 h15) (fun s16 h17 => ?_)
  have g18 : Rl T kw_K100 S0 0 0 T s16 := Rltrans g14 h17 (by decide +kernel)
  refine r_gR g18.1 h_x2 rfl rfl (fun v15 h19 => ?_)
  refine r_rv g18.1 h19 rfl ?_
  refine r_bind (t_Person_makeReady g18.1 h19) (fun s20 h21 => ?_)
  have g22 : Rl T kw_K101 S0 0 0 T s20 := Rltrans g18 h21 (by decide +kernel)
  exact r_some ⟨(Rlweak g22 (by decide +kernel) (by decide) (by decide)), Or.inl ⟨_, rfl, trivial⟩⟩
theorem t_K_finish_B48_3c0 {T : Nat → Nat} {S0 S : AS} (g : Rl T [] S0 0 0 T S) {x0 : Option Nat} {x1 : Int32} {x2 : Option Nat} (h_x0 : Tx T 1 x0) (h_x2 : Tx T 46 x2) : Ho (f_K_finish_B48  S x0 x1 x2 (0 : Int32)) (PX T kw_K101 S0 1 6 ["java/lang/IllegalStateException", "java/lang/IndexOutOfBoundsException"] (fun v => True)) := by
  unfold f_K_finish_B48
  refine r_rS (fun c1 => absurd rfl c1) ⟨(Rlweak (RlwX g) (by decide +kernel) (by decide) (by decide)), Or.inr ⟨_, rfl, by decide +kernel⟩⟩
theorem t_K_finish_B48_3c1 {T : Nat → Nat} {S0 S : AS} (g : Rl T [] S0 0 0 T S) {x0 : Option Nat} {x1 : Int32} {x2 : Option Nat} (h_x0 : Tx T 1 x0) (h_x2 : Tx T 46 x2) : Ho (f_K_finish_B48  S x0 x1 x2 (1 : Int32)) (PX T kw_K101 S0 1 6 ["java/lang/IllegalStateException", "java/lang/IndexOutOfBoundsException"] (fun v => True)) := by
  unfold f_K_finish_B48
  refine r_rS (fun c1 => ?_) ⟨(Rlweak (RlwX g) (by decide +kernel) (by decide) (by decide)), Or.inr ⟨_, rfl, by decide +kernel⟩⟩
  refine r_gIe g.1 h_x2 rfl (fun v20 b2 e3 => ?_)
  refine r_gR g.1 h_x2 rfl rfl (fun v21 h4 => ?_)
  refine r_rv g.1 h4 rfl ?_
  refine r_P (P := fun v => True) (t_Person_levelOfEnrolled g.1 h4) (fun v24 h5 => ?_)
  refine r_if (fun c6 => ?_) (fun c6 => ?_)
  · have q7 : In (-2147483648) 2147483646 v20 := In_w (In_lt1 c6 (In_top v20) (In_top v24)) (by decide) (by decide)
    have q8 : In (-2147483647) 2147483647 v24 := In_w (In_lt2 c6 (In_top v20) (In_top v24)) (by decide) (by decide)
    exact t_K_finish_B70_3c0 (Rlweak g (by decide +kernel) (by decide) (by decide))  h_x0 h_x2 
  · exact t_K_finish_B70_3c1 (Rlweak g (by decide +kernel) (by decide) (by decide))  h_x0 h_x2
theorem t_K_finish_B32_3c1 {T : Nat → Nat} {S0 S : AS} (g : Rl T [] S0 0 0 T S) {x0 : Option Nat} {x1 : Int32} {x2 : Option Nat} (h_x0 : Tx T 1 x0) (h_x2 : Tx T 46 x2) : Ho (f_K_finish_B32  S x0 x1 x2 (1 : Int32)) (PX T kw_K101 S0 1 6 ["java/lang/IllegalStateException", "java/lang/IndexOutOfBoundsException"] (fun v => True)) := by
  unfold f_K_finish_B32
  refine r_rS (fun c1 => ?_) ⟨(Rlweak (RlwX g) (by decide +kernel) (by decide) (by decide)), Or.inr ⟨_, rfl, by decide +kernel⟩⟩
  refine r_rv g.1 h_x2 rfl ?_
  refine r_P (P := fun v => True) (t_Recovery_countVouchers g.1 h_x2) (fun v29 h2 => ?_)
  refine r_if (fun c3 => ?_) (fun c3 => ?_)
  · have q4 : In (-2147483648) 1 v29 := In_w (In_lt1 c3 (In_top v29) (by decide : In 2 2 (2 : Int32))) (by decide) (by decide)
    exact t_K_finish_B48_3c0 (Rlweak g (by decide +kernel) (by decide) (by decide))  h_x0 h_x2 
  · have q5 : In 2 2147483647 v29 := In_w (In_le2 (Int32.not_lt.mp c3) (by decide : In 2 2 (2 : Int32)) (In_top v29)) (by decide) (by decide)
    exact t_K_finish_B48_3c1 (Rlweak g (by decide +kernel) (by decide) (by decide))  h_x0 h_x2 
theorem t_K_finish_B32_3c0 {T : Nat → Nat} {S0 S : AS} (g : Rl T [] S0 0 0 T S) {x0 : Option Nat} {x1 : Int32} {x2 : Option Nat} (h_x0 : Tx T 1 x0) (h_x2 : Tx T 46 x2) : Ho (f_K_finish_B32  S x0 x1 x2 (0 : Int32)) (PX T kw_K101 S0 1 6 ["java/lang/IllegalStateException", "java/lang/IndexOutOfBoundsException"] (fun v => True)) := by
  unfold f_K_finish_B32
  refine r_rS (fun c1 => absurd rfl c1) ⟨(Rlweak (RlwX g) (by decide +kernel) (by decide) (by decide)), Or.inr ⟨_, rfl, by decide +kernel⟩⟩
theorem t_K_finish_B31 {T : Nat → Nat} {S0 S : AS} (g : Rl T [] S0 0 0 T S) {x0 : Option Nat} {x1 : Int32} {x2 : Option Nat} (h_x0 : Tx T 1 x0) (h_x2 : Tx T 46 x2) : Ho (f_K_finish_B31  S x0 x1 x2) (PX T kw_K101 S0 1 6 ["java/lang/IllegalStateException", "java/lang/IndexOutOfBoundsException"] (fun v => True)) := by
  unfold f_K_finish_B31
  exact t_K_finish_B32_3c0 (Rlweak g (by decide +kernel) (by decide) (by decide))  h_x0 h_x2 
theorem t_K_finish {T : Nat → Nat} {S : AS} (hT : TI T S) {a0 : Option Nat} {a1 : Int32} (h_a0 : Tx T 1 a0) : Ho (f_K_finish  S a0 a1) (PX T kw_K101 S 1 6 ["java/lang/IllegalStateException", "java/lang/IndexOutOfBoundsException"] (fun v => True)) := by
  have g0 := Rlrf hT
  unfold f_K_finish
  refine r_rv g0.1 h_a0 rfl ?_
  refine r_T (t_K_findRecovery g0.1 h_a0) (fun v32 h1 => ?_) (fun e he => ⟨(Rlweak (RlwX g0) (by decide +kernel) (by decide) (by decide)), Or.inr ⟨e, rfl, ((by decide +kernel : ∀ x ∈ (["java/lang/IndexOutOfBoundsException"] : List String), x ∈ (["java/lang/IllegalStateException", "java/lang/IndexOutOfBoundsException"] : List String)) e he)⟩⟩)
  refine r_gIe g0.1 h1 rfl (fun v33 b2 e3 => ?_)
  have q4 : In 0 1 v33 := b2 _ _ rfl
  refine r_if (fun c5 => ?_) (fun c5 => ?_)
  · have q6 : In 0 0 v33 := In_w (In_eq c5 (by decide : In 0 0 (0 : Int32))) (by decide) (by decide)
    exact t_K_finish_B31 (Rlweak g0 (by decide +kernel) (by decide) (by decide))  h_a0 h1 
  · have q7 : In 1 1 v33 := In_w (In_neL c5 q4 (by decide)) (by decide) (by decide)
    refine r_gIe g0.1 h_a0 rfl (fun v34 b8 e9 => ?_)
    refine r_gIe g0.1 h1 rfl (fun v35 b10 e11 => ?_)
    refine r_if (fun c12 => ?_) (fun c12 => ?_)
    · exact t_K_finish_B31 (Rlweak g0 (by decide +kernel) (by decide) (by decide))  h_a0 h1
    · exact t_K_finish_B32_3c1 (Rlweak g0 (by decide +kernel) (by decide) (by decide))  h_a0 h1
theorem t_K_link_B47_4c0 {T : Nat → Nat} {S0 S : AS} (g : Rl T [] S0 0 0 T S) {x0 : Option Nat} {x1 : Int32} {x2 : Int32} {x3 : Int32} (h_x0 : Tx T 1 x0) (h_x1 : In 0 5 x1) (h_x2 : In 0 5 x2) : Ho (f_K_link_B47  S x0 x1 x2 x3 (0 : Int32)) (PX T kw_K102 S0 1 6 ["java/lang/IllegalStateException", "java/lang/IndexOutOfBoundsException"] (fun v => True)) := by
  unfold f_K_link_B47
  refine r_rS (fun c1 => absurd rfl c1) ⟨(Rlweak (RlwX g) (by decide +kernel) (by decide) (by decide)), Or.inr ⟨_, rfl, by decide +kernel⟩⟩
theorem t_K_link_B47_4c1 {T : Nat → Nat} {S0 S : AS} (g : Rl T [] S0 0 0 T S) {x0 : Option Nat} {x1 : Int32} {x2 : Int32} {x3 : Int32} (h_x0 : Tx T 1 x0) (h_x1 : In 0 5 x1) (h_x2 : In (-1) 5 x2) : Ho (f_K_link_B47  S x0 x1 x2 x3 (1 : Int32)) (PX T kw_K102 S0 1 6 ["java/lang/IllegalStateException", "java/lang/IndexOutOfBoundsException"] (fun v => True)) := by
  unfold f_K_link_B47
  refine r_rS (fun c1 => ?_) ⟨(Rlweak (RlwX g) (by decide +kernel) (by decide) (by decide)), Or.inr ⟨_, rfl, by decide +kernel⟩⟩
  refine r_gR g.1 h_x0 rfl rfl (fun v3 h2 => ?_)
  refine r_bI (w' := kw_K102) g h2 rfl rfl (In_w h_x1 (by decide) (by decide) : In 0 5 x1) (by decide) (fun _ _ _ q => by cases q) (fun _ => rfl) (by decide) (by decide +kernel) (fun _ => by unfold phc; omega) (fun s3 g4 => ?_)
  exact r_some ⟨(Rlweak g4 (by decide +kernel) (by decide) (by decide)), Or.inl ⟨_, rfl, trivial⟩⟩
theorem t_K_link_B42 {T : Nat → Nat} {S0 S : AS} (g : Rl T [] S0 0 0 T S) {x0 : Option Nat} {x1 : Int32} {x2 : Int32} {x3 : Int32} (h_x0 : Tx T 1 x0) (h_x1 : In 0 5 x1) (h_x2 : In (-1) 5 x2) : Ho (f_K_link_B42  S x0 x1 x2 x3) (PX T kw_K102 S0 1 6 ["java/lang/IllegalStateException", "java/lang/IndexOutOfBoundsException"] (fun v => True)) := by
  unfold f_K_link_B42
  exact t_K_link_B47_4c1 (Rlweak g (by decide +kernel) (by decide) (by decide))  h_x0 (In_w h_x1 (by decide) (by decide)) (In_w h_x2 (by decide) (by decide)) 
theorem t_K_link_B20 {T : Nat → Nat} {S0 S : AS} (g : Rl T [] S0 0 0 T S) {x0 : Option Nat} {x1 : Int32} {x2 : Int32} (h_x0 : Tx T 1 x0) (h_x1 : In 0 5 x1) (h_x2 : In (-1) 5 x2) : Ho (f_K_link_B20  S x0 x1 x2) (PX T kw_K102 S0 1 6 ["java/lang/IllegalStateException", "java/lang/IndexOutOfBoundsException"] (fun v => True)) := by
  unfold f_K_link_B20
  refine r_gR g.1 h_x0 rfl rfl (fun v5 h1 => ?_)
  refine r_aI g.1 h1 rfl rfl (In_w h_x1 (by decide) (by decide) : In 0 5 x1) (by decide) (fun v6 b2 => ?_)
  refine r_if (fun c3 => ?_) (fun c3 => ?_)
  · have q4 : In (-1) (-1) x2 := In_w (In_eq c3 (by decide : In (-1) (-1) (-1 : Int32))) (by decide) (by decide)
    exact t_K_link_B42 (Rlweak g (by decide +kernel) (by decide) (by decide))  h_x0 (In_w h_x1 (by decide) (by decide)) (In_w q4 (by decide) (by decide)) 
  · have q5 : In 0 5 x2 := In_w (In_neL c3 h_x2 (by decide)) (by decide) (by decide)
    refine r_if (fun c6 => ?_) (fun c6 => ?_)
    · have q7 : In (-1) (-1) v6 := In_w (In_eq c6 (by decide : In (-1) (-1) (-1 : Int32))) (by decide) (by decide)
      exact t_K_link_B42 (Rlweak g (by decide +kernel) (by decide) (by decide))  h_x0 (In_w h_x1 (by decide) (by decide)) (In_w q5 (by decide) (by decide)) 
    · refine r_if (fun c8 => ?_) (fun c8 => ?_)
      · have q9 : In 0 5 v6 := In_w (In_eq c8 q5) (by decide) (by decide)
        exact t_K_link_B42 (Rlweak g (by decide +kernel) (by decide) (by decide))  h_x0 (In_w h_x1 (by decide) (by decide)) (In_w q5 (by decide) (by decide)) 
      · exact t_K_link_B47_4c0 (Rlweak g (by decide +kernel) (by decide) (by decide))  h_x0 (In_w h_x1 (by decide) (by decide)) (In_w q5 (by decide) (by decide))
theorem t_K_link {T : Nat → Nat} {S : AS} (hT : TI T S) {a0 : Option Nat} {a1 : Int32} {a2 : Int32} (h_a0 : Tx T 1 a0) : Ho (f_K_link  S a0 a1 a2) (PX T kw_K102 S 1 6 ["java/lang/IllegalStateException", "java/lang/IndexOutOfBoundsException"] (fun v => True)) := by
  have g0 := Rlrf hT
  unfold f_K_link
  refine r_gR g0.1 h_a0 rfl rfl (fun v7 h1 => ?_)
  refine r_aN g0.1 h1 (by decide) rfl (by decide) (fun v8 q2 => ?_)
  have q2n : In 6 6 v8 := q2
  refine r_rI (fun p3 c4 => ?_) ⟨(Rlweak (RlwX g0) (by decide +kernel) (by decide) (by decide)), Or.inr ⟨_, rfl, by decide +kernel⟩⟩
  have q5 : In 0 2147483647 a1 := ⟨p3, (In_top a1).2⟩
  have q6 : In 0 5 a1 := In_w (In_lt1 c4 q5 q2n) (by decide) (by decide)
  refine r_if (fun c7 => ?_) (fun c7 => ?_)
  · have q8 : In (-1) (-1) a2 := In_w (In_eq c7 (by decide : In (-1) (-1) (-1 : Int32))) (by decide) (by decide)
    exact t_K_link_B20 (Rlweak g0 (by decide +kernel) (by decide) (by decide))  h_a0 (In_w q6 (by decide) (by decide)) (In_w q8 (by decide) (by decide)) 
  · refine r_rI (fun p9 c10 => ?_) ⟨(Rlweak (RlwX g0) (by decide +kernel) (by decide) (by decide)), Or.inr ⟨_, rfl, by decide +kernel⟩⟩
    have q11 : In 0 2147483647 a2 := ⟨p9, (In_top a2).2⟩
    have q12 : In 0 5 a2 := In_w (In_lt1 c10 q11 (by decide : In 6 6 (6 : Int32))) (by decide) (by decide)
    exact t_K_link_B20 (Rlweak g0 (by decide +kernel) (by decide) (by decide))  h_a0 (In_w q6 (by decide) (by decide)) (In_w q12 (by decide) (by decide)) 
theorem t_K_foreign_B59_2c1 {T0 T : Nat → Nat} {S0 S : AS} (g : Rl T0 [] S0 0 0 T S) {x0 : Option Nat} {x3 : Option Nat} (h_x0 : Tx T 1 x0) (h_x3 : Tx T 13 x3) (hfszlt2 : (sI S0 (lp 2) 2).toInt < 60) : Ho (f_K_foreign_B59  S x0 x3 (1 : Int32)) (PY T0 kw_K50 S0 6 366 ["java/lang/IllegalStateException", "java/lang/IndexOutOfBoundsException"] (fun v T' => In 0 60 v)) := by
  unfold f_K_foreign_B59
  refine r_rS (fun c1 => ?_) ⟨_, (Rlweak (RlwX g) (by decide +kernel) (by decide) (by decide)), Or.inr ⟨_, rfl, by decide +kernel⟩⟩
  refine r_nO g (by decide) (fun s2 g3 r4 k5 => ?_)
  refine r_bind (ho_Shown1 g3 r4 ) (fun s6 h10 => ?_)
  obtain ⟨T8, g7, m9⟩ := h10
  have g11 : Rl T0 [] S0 2 23 T8 s6 := g7
  have u12 := Tx.up h_x0 m9.2.1
  have u13 := Tx.up h_x3 m9.2.1
  refine r_rv g11.1 u12 rfl ?_
  refine r_b2 (t_K_beginSession g11.1 u12 u13 (Or.inl rfl) (⟨_, rfl, m9.1, by decide⟩ : Tx T8 47 (some (sN S))) (Int.lt_of_lt_of_le (sz1 2 g11 (by decide) (by decide +kernel) hfszlt2) (by decide))) (fun v7 s15 h14 => ?_)
  obtain ⟨T17, g16, h14r⟩ := h14
  have g18 : Rl T0 kw_K50 S0 6 366 T17 s15 := Rltrans g11 g16 (by decide +kernel)
  have u19 := Tx.up u12 g16.ty
  have u20 := Tx.up u13 g16.ty
  have u21 := Tx.up (⟨_, rfl, m9.1, by decide⟩ : Tx T8 47 (some (sN S))) g16.ty
  exact r_some ⟨_, (Rlweak g18 (by decide +kernel) (by decide) (by decide)), Or.inl ⟨_, rfl, (In_w h14r (by decide) (by decide))⟩⟩
theorem t_K_foreign_B59_2c0 {T0 T : Nat → Nat} {S0 S : AS} (g : Rl T0 [] S0 0 0 T S) {x0 : Option Nat} {x3 : Option Nat} (h_x0 : Tx T 1 x0) (h_x3 : Tx T 13 x3) (hfszlt2 : (sI S0 (lp 2) 2).toInt < 60) : Ho (f_K_foreign_B59  S x0 x3 (0 : Int32)) (PY T0 kw_K50 S0 6 366 ["java/lang/IllegalStateException", "java/lang/IndexOutOfBoundsException"] (fun v T' => In 0 60 v)) := by
  unfold f_K_foreign_B59
  refine r_rS (fun c1 => absurd rfl c1) ⟨_, (Rlweak (RlwX g) (by decide +kernel) (by decide) (by decide)), Or.inr ⟨_, rfl, by decide +kernel⟩⟩
theorem t_K_foreign_B38_2c1 {T0 T : Nat → Nat} {S0 S : AS} (g : Rl T0 [] S0 0 0 T S) {x0 : Option Nat} {x2 : Int32} (h_x0 : Tx T 1 x0) (hfszlt2 : (sI S0 (lp 2) 2).toInt < 60) : Ho (f_K_foreign_B38  S x0 x2 (1 : Int32)) (PY T0 kw_K50 S0 6 366 ["java/lang/IllegalStateException", "java/lang/IndexOutOfBoundsException"] (fun v T' => In 0 60 v)) := by
  unfold f_K_foreign_B38
  refine r_rS (fun c1 => ?_) ⟨_, (Rlweak (RlwX g) (by decide +kernel) (by decide) (by decide)), Or.inr ⟨_, rfl, by decide +kernel⟩⟩
  refine r_rv g.1 h_x0 rfl ?_
  refine r_T (t_K_findPerson g.1 h_x0) (fun v12 h2 => ?_) (fun e he => ⟨_, (Rlweak (RlwX g) (by decide +kernel) (by decide) (by decide)), Or.inr ⟨e, rfl, ((by decide +kernel : ∀ x ∈ (["java/lang/IndexOutOfBoundsException"] : List String), x ∈ (["java/lang/IllegalStateException", "java/lang/IndexOutOfBoundsException"] : List String)) e he)⟩⟩)
  refine r_gIe g.1 h2 rfl (fun v13 b3 e4 => ?_)
  have q5 : In 0 1 v13 := b3 _ _ rfl
  refine r_if (fun c6 => ?_) (fun c6 => ?_)
  · have q7 : In 0 0 v13 := In_w (In_eq c6 (by decide : In 0 0 (0 : Int32))) (by decide) (by decide)
    exact t_K_foreign_B59_2c1 (Rlweak g (by decide +kernel) (by decide) (by decide))  h_x0 h2 (Int.lt_of_lt_of_le hfszlt2 (by decide))
  · have q8 : In 1 1 v13 := In_w (In_neL c6 q5 (by decide)) (by decide) (by decide)
    exact t_K_foreign_B59_2c0 (Rlweak g (by decide +kernel) (by decide) (by decide))  h_x0 h2 (Int.lt_of_lt_of_le hfszlt2 (by decide))
theorem t_K_foreign_B38_2c0 {T0 T : Nat → Nat} {S0 S : AS} (g : Rl T0 [] S0 0 0 T S) {x0 : Option Nat} {x2 : Int32} (h_x0 : Tx T 1 x0) : Ho (f_K_foreign_B38  S x0 x2 (0 : Int32)) (PY T0 kw_K50 S0 6 366 ["java/lang/IllegalStateException", "java/lang/IndexOutOfBoundsException"] (fun v T' => In 0 60 v)) := by
  unfold f_K_foreign_B38
  refine r_rS (fun c1 => absurd rfl c1) ⟨_, (Rlweak (RlwX g) (by decide +kernel) (by decide) (by decide)), Or.inr ⟨_, rfl, by decide +kernel⟩⟩
theorem t_K_foreign_B37 {T0 T : Nat → Nat} {S0 S : AS} (g : Rl T0 [] S0 0 0 T S) {x0 : Option Nat} {x2 : Int32} (h_x0 : Tx T 1 x0) : Ho (f_K_foreign_B37  S x0 x2) (PY T0 kw_K50 S0 6 366 ["java/lang/IllegalStateException", "java/lang/IndexOutOfBoundsException"] (fun v T' => In 0 60 v)) := by
  unfold f_K_foreign_B37
  exact t_K_foreign_B38_2c0 (Rlweak g (by decide +kernel) (by decide) (by decide))  h_x0 
theorem t_K_foreign {T : Nat → Nat} {S : AS} (hT : TI T S) {a0 : Option Nat} {a1 : Int32} (h_a0 : Tx T 1 a0) : Ho (f_K_foreign  S a0 a1) (PY T kw_K50 S 6 366 ["java/lang/IllegalStateException", "java/lang/IndexOutOfBoundsException"] (fun v T' => In 0 60 v)) := by
  have g0 := Rlrf hT
  unfold f_K_foreign
  refine r_gR g0.1 h_a0 rfl rfl (fun v14 h1 => ?_)
  refine r_aN g0.1 h1 (by decide) rfl (by decide) (fun v15 q2 => ?_)
  have q2n : In 6 6 v15 := q2
  refine r_rI (fun p3 c4 => ?_) ⟨_, (Rlweak (RlwX g0) (by decide +kernel) (by decide) (by decide)), Or.inr ⟨_, rfl, by decide +kernel⟩⟩
  have q5 : In 0 2147483647 a1 := ⟨p3, (In_top a1).2⟩
  have q6 : In 0 5 a1 := In_w (In_lt1 c4 q5 q2n) (by decide) (by decide)
  refine r_gR g0.1 h_a0 rfl rfl (fun v18 h7 => ?_)
  refine r_aI g0.1 h7 rfl rfl (In_w q6 (by decide) (by decide) : In 0 5 a1) (by decide) (fun v19 b8 => ?_)
  refine r_if (fun c9 => ?_) (fun c9 => ?_)
  · have q10 : In (-1) (-1) v19 := In_w (In_eq c9 (by decide : In (-1) (-1) (-1 : Int32))) (by decide) (by decide)
    exact t_K_foreign_B37 (Rlweak g0 (by decide +kernel) (by decide) (by decide))  h_a0 
  · refine r_gR g0.1 h_a0 rfl rfl (fun v20 h11 => ?_)
    refine r_rv g0.1 h11 rfl ?_
    refine r_size 2 g0.1 h11 (by decide) (fun v23 e12 => ?_)
    have q13 : In 0 60 v23 := by rw [e12]; exact sizeIn (q := 2) g0.1 (by decide) rfl
    refine r_if (fun c14 => ?_) (fun c14 => ?_)
    · have q15 : In 60 60 v23 := In_w (In_le2 c14 (by decide : In 60 60 (60 : Int32)) q13) (by decide) (by decide)
      exact t_K_foreign_B37 (Rlweak g0 (by decide +kernel) (by decide) (by decide))  h_a0 
    · have z16 : (sI S (lp 2) 2).toInt < (60 : Int32).toInt := sz0 2 g0 (by decide) (by decide +kernel) e12 c14
      have q17 : In 0 59 v23 := In_w (In_lt1 (Int32.not_le.mp c14) q13 (by decide : In 60 60 (60 : Int32))) (by decide) (by decide)
      exact t_K_foreign_B38_2c1 (Rlweak g0 (by decide +kernel) (by decide) (by decide))  h_a0 (Int.lt_of_lt_of_le (show (sI S (lp 2) 2).toInt < 60 from z16) (by decide))
theorem t_K_denyAttemptsOf_B45 {T : Nat → Nat} {S0 S : AS} (g : Rl T kw_K51 S0 0 0 T S) {x0 : Option Nat} {x1 : Option Nat} {x2 : Int32} {k2 : AS → Option Nat → Option Nat → Int32 → Option AS} {n2 : Nat} (hk2 : ∀ (S' : AS) (z0 : Option Nat) (z1 : Option Nat) (z2 : Int32), Rl T kw_K51 S0 0 0 T S' → Tx T 1 z0 → Tx T 13 z1 → In 0 60 z2 → (60 + 1 : Int) ≤ z2.toInt + (n2 : Int) → Ho (k2 S' z0 z1 z2) (fun q => Rl T kw_K51 S0 0 0 T q)) (hm2 : (60 + 1 : Int) ≤ x2.toInt + ((n2 + 1 : Nat) : Int)) (h_x0 : Tx T 1 x0) (h_x1 : Tx T 13 x1) (h_x2 : In 0 59 x2) : Ho (f_K_denyAttemptsOf_B45 k2 S x0 x1 x2) (fun q => Rl T kw_K51 S0 0 0 T q) := by
  unfold f_K_denyAttemptsOf_B45
  refine r_val ?_
  generalize ei1 : (x2 + (1 : Int32)) = i1
  have qi1 : In 1 60 i1 := by rw [← ei1]; exact (In_w (In_add h_x2 (by decide : In 1 1 (1 : Int32)) (by decide) (by decide)) (by decide) (by decide) : In 1 60 (x2 + (1 : Int32)))
  exact hk2 S x0 x1 i1 (Rlweak g (by decide +kernel) (by decide) (by decide)) h_x0 h_x1 (In_w qi1 (by decide) (by decide))  (by rw [← ei1, toInt_add1 h_x2 (by decide) (by decide)]; omega)
theorem t_K_denyAttemptsOf_C2 {T : Nat → Nat} {S0 S : AS} (g : Rl T kw_K51 S0 0 0 T S) {x0 : Option Nat} {x1 : Option Nat} {x2 : Int32} {k2 : AS → Option Nat → Option Nat → Int32 → Option AS} {n2 : Nat} (hk2 : ∀ (S' : AS) (z0 : Option Nat) (z1 : Option Nat) (z2 : Int32), Rl T kw_K51 S0 0 0 T S' → Tx T 1 z0 → Tx T 13 z1 → In 0 60 z2 → (60 + 1 : Int) ≤ z2.toInt + (n2 : Int) → Ho (k2 S' z0 z1 z2) (fun q => Rl T kw_K51 S0 0 0 T q)) (hm2 : (60 + 1 : Int) ≤ x2.toInt + ((n2 + 1 : Nat) : Int)) (h_x0 : Tx T 1 x0) (h_x1 : Tx T 13 x1) (h_x2 : In 0 60 x2) : Ho (f_K_denyAttemptsOf_C2 k2 S x0 x1 x2) (fun q => Rl T kw_K51 S0 0 0 T q) := by
  unfold f_K_denyAttemptsOf_C2
  refine r_gR g.1 h_x0 rfl rfl (fun v2 h1 => ?_)
  refine r_rv g.1 h1 rfl ?_
  refine r_size 1 g.1 h1 (by decide) (fun v5 e2 => ?_)
  have q3 : In 0 60 v5 := by rw [e2]; exact sizeIn (q := 1) g.1 (by decide) rfl
  refine r_if (fun c4 => ?_) (fun c4 => ?_)
  · exact r_some (Rlweak g (by decide +kernel) (by decide) (by decide))
  · have q5 : In 0 59 x2 := In_w (In_lt1 (Int32.not_le.mp c4) h_x2 q3) (by decide) (by decide)
    have q6 : In 1 60 v5 := In_w (In_lt2 (Int32.not_le.mp c4) h_x2 q3) (by decide) (by decide)
    refine r_gR g.1 h_x0 rfl rfl (fun v6 h7 => ?_)
    refine r_rv g.1 h7 rfl ?_
    refine r_P (ho_get 1 g.1 h7 (by decide) (In_w q5 (by decide) (Int.le_refl _) : In 0 59 x2).1 (sz_lt c4 e2)) (fun v9 (h8 : Tx T 42 v9) => ?_)
    refine r_cc g.1 h8 rfl ?_
    refine r_gR g.1 h8 rfl rfl (fun v11 h9 => ?_)
    refine r_ac g.1 h9 (by decide) ?_
    refine r_ac g.1 h_x1 (by decide) ?_
    refine r_if (fun c10 => ?_) (fun c10 => ?_)
    · refine r_gIe g.1 h8 rfl (fun v14 b11 e12 => ?_)
      refine r_if (fun c13 => ?_) (fun c13 => ?_)
      · have q14 : In 0 0 v14 := In_w (In_eq c13 (by decide : In 0 0 (0 : Int32))) (by decide) (by decide)
        refine r_pI (w' := kw_K51) g h8 rfl (by decide) (fun _ _ q => by cases q) rfl (by decide) (by decide +kernel) (by unfold phc; decide) (fun s15 g16 => ?_)
        exact t_K_denyAttemptsOf_B45 (Rlweak g16 (by decide +kernel) (by decide) (by decide)) hk2 hm2 h_x0 h_x1 (In_w q5 (by decide) (by decide)) 
      · exact t_K_denyAttemptsOf_B45 (Rlweak g (by decide +kernel) (by decide) (by decide)) hk2 hm2 h_x0 h_x1 (In_w q5 (by decide) (by decide))
    · exact t_K_denyAttemptsOf_B45 (Rlweak g (by decide +kernel) (by decide) (by decide)) hk2 hm2 h_x0 h_x1 (In_w q5 (by decide) (by decide))
theorem t_K_denyAttemptsOf_L2 {T : Nat → Nat} {S0 : AS} : ∀ (n : Nat) (S : AS) (x0 : Option Nat) (x1 : Option Nat) (x2 : Int32), Rl T kw_K51 S0 0 0 T S → Tx T 1 x0 → Tx T 13 x1 → In 0 60 x2 → (60 + 1 : Int) ≤ x2.toInt + (n : Int) → Ho (f_K_denyAttemptsOf_L2  n S x0 x1 x2) (fun q => Rl T kw_K51 S0 0 0 T q) := by
  intro n
  induction n with
  | zero =>
    intro S x0 x1 x2 g h_x0 h_x1 h_x2 hm
    exact absurd hm (by have := h_x2.2; omega)
  | succ n ih =>
    intro S x0 x1 x2 g h_x0 h_x1 h_x2 hm
    exact t_K_denyAttemptsOf_C2 g  (fun S' z0 z1 z2 g' a_h_x0 a_h_x1 a_h_x2 am => ih S' z0 z1 z2 g' a_h_x0 a_h_x1 a_h_x2 am) hm h_x0 h_x1 h_x2 
theorem t_K_denyAttemptsOf {T : Nat → Nat} {S : AS} (hT : TI T S) {a0 : Option Nat} {a1 : Option Nat} (h_a0 : Tx T 1 a0) (h_a1 : Tx T 13 a1) : Ho (f_K_denyAttemptsOf  S a0 a1) (fun q => Rl T kw_K51 S 0 0 T q) := by
  have g0 := Rlrf hT
  unfold f_K_denyAttemptsOf
  exact t_K_denyAttemptsOf_L2   kr_FU S a0 a1 (0 : Int32) (Rlweak g0 (by decide +kernel) (by decide) (by decide)) h_a0 h_a1 (In_w (by decide : In 0 0 (0 : Int32)) (by decide) (by decide))  (by decide)
theorem t_K_stopRecoveriesOf_B38 {T : Nat → Nat} {S0 S : AS} (g : Rl T kw_K97 S0 0 0 T S) {x0 : Option Nat} {x1 : Option Nat} {x2 : Int32} {k2 : AS → Option Nat → Option Nat → Int32 → Option AS} {n2 : Nat} (hk2 : ∀ (S' : AS) (z0 : Option Nat) (z1 : Option Nat) (z2 : Int32), Rl T kw_K97 S0 0 0 T S' → Tx T 1 z0 → Tx T 13 z1 → In 0 20 z2 → (20 + 1 : Int) ≤ z2.toInt + (n2 : Int) → Ho (k2 S' z0 z1 z2) (fun q => Rl T kw_K97 S0 0 0 T q)) (hm2 : (20 + 1 : Int) ≤ x2.toInt + ((n2 + 1 : Nat) : Int)) (h_x0 : Tx T 1 x0) (h_x1 : Tx T 13 x1) (h_x2 : In 0 19 x2) : Ho (f_K_stopRecoveriesOf_B38 k2 S x0 x1 x2) (fun q => Rl T kw_K97 S0 0 0 T q) := by
  unfold f_K_stopRecoveriesOf_B38
  refine r_val ?_
  generalize ei1 : (x2 + (1 : Int32)) = i1
  have qi1 : In 1 20 i1 := by rw [← ei1]; exact (In_w (In_add h_x2 (by decide : In 1 1 (1 : Int32)) (by decide) (by decide)) (by decide) (by decide) : In 1 20 (x2 + (1 : Int32)))
  exact hk2 S x0 x1 i1 (Rlweak g (by decide +kernel) (by decide) (by decide)) h_x0 h_x1 (In_w qi1 (by decide) (by decide))  (by rw [← ei1, toInt_add1 h_x2 (by decide) (by decide)]; omega)
theorem t_K_stopRecoveriesOf_C2 {T : Nat → Nat} {S0 S : AS} (g : Rl T kw_K97 S0 0 0 T S) {x0 : Option Nat} {x1 : Option Nat} {x2 : Int32} {k2 : AS → Option Nat → Option Nat → Int32 → Option AS} {n2 : Nat} (hk2 : ∀ (S' : AS) (z0 : Option Nat) (z1 : Option Nat) (z2 : Int32), Rl T kw_K97 S0 0 0 T S' → Tx T 1 z0 → Tx T 13 z1 → In 0 20 z2 → (20 + 1 : Int) ≤ z2.toInt + (n2 : Int) → Ho (k2 S' z0 z1 z2) (fun q => Rl T kw_K97 S0 0 0 T q)) (hm2 : (20 + 1 : Int) ≤ x2.toInt + ((n2 + 1 : Nat) : Int)) (h_x0 : Tx T 1 x0) (h_x1 : Tx T 13 x1) (h_x2 : In 0 20 x2) : Ho (f_K_stopRecoveriesOf_C2 k2 S x0 x1 x2) (fun q => Rl T kw_K97 S0 0 0 T q) := by
  unfold f_K_stopRecoveriesOf_C2
  refine r_gR g.1 h_x0 rfl rfl (fun v2 h1 => ?_)
  refine r_rv g.1 h1 rfl ?_
  refine r_size 6 g.1 h1 (by decide) (fun v5 e2 => ?_)
  have q3 : In 0 20 v5 := by rw [e2]; exact sizeIn (q := 6) g.1 (by decide) rfl
  refine r_if (fun c4 => ?_) (fun c4 => ?_)
  · exact r_some (Rlweak g (by decide +kernel) (by decide) (by decide))
  · have q5 : In 0 19 x2 := In_w (In_lt1 (Int32.not_le.mp c4) h_x2 q3) (by decide) (by decide)
    have q6 : In 1 20 v5 := In_w (In_lt2 (Int32.not_le.mp c4) h_x2 q3) (by decide) (by decide)
    refine r_gR g.1 h_x0 rfl rfl (fun v6 h7 => ?_)
    refine r_rv g.1 h7 rfl ?_
    refine r_P (ho_get 6 g.1 h7 (by decide) (In_w q5 (by decide) (Int.le_refl _) : In 0 19 x2).1 (sz_lt c4 e2)) (fun v9 (h8 : Tx T 46 v9) => ?_)
    refine r_cc g.1 h8 rfl ?_
    refine r_gR g.1 h8 rfl rfl (fun v11 h9 => ?_)
    refine r_ac g.1 h9 (by decide) ?_
    refine r_ac g.1 h_x1 (by decide) ?_
    refine r_if (fun c10 => ?_) (fun c10 => ?_)
    · refine r_pZ (w' := kw_K97) g h8 rfl (by decide) (In_w (by decide : In 0 0 (0 : Int32)) (by decide) (by decide)) (fun _ _ q => by cases q; exact (In_w (by decide : In 0 0 (0 : Int32)) (by decide) (by decide))) rfl (by decide) (by decide +kernel) (by unfold phc; decide) (fun s11 g12 => ?_)
      exact t_K_stopRecoveriesOf_B38 (Rlweak g12 (by decide +kernel) (by decide) (by decide)) hk2 hm2 h_x0 h_x1 (In_w q5 (by decide) (by decide)) 
    · exact t_K_stopRecoveriesOf_B38 (Rlweak g (by decide +kernel) (by decide) (by decide)) hk2 hm2 h_x0 h_x1 (In_w q5 (by decide) (by decide))
theorem t_K_stopRecoveriesOf_L2 {T : Nat → Nat} {S0 : AS} : ∀ (n : Nat) (S : AS) (x0 : Option Nat) (x1 : Option Nat) (x2 : Int32), Rl T kw_K97 S0 0 0 T S → Tx T 1 x0 → Tx T 13 x1 → In 0 20 x2 → (20 + 1 : Int) ≤ x2.toInt + (n : Int) → Ho (f_K_stopRecoveriesOf_L2  n S x0 x1 x2) (fun q => Rl T kw_K97 S0 0 0 T q) := by
  intro n
  induction n with
  | zero =>
    intro S x0 x1 x2 g h_x0 h_x1 h_x2 hm
    exact absurd hm (by have := h_x2.2; omega)
  | succ n ih =>
    intro S x0 x1 x2 g h_x0 h_x1 h_x2 hm
    exact t_K_stopRecoveriesOf_C2 g  (fun S' z0 z1 z2 g' a_h_x0 a_h_x1 a_h_x2 am => ih S' z0 z1 z2 g' a_h_x0 a_h_x1 a_h_x2 am) hm h_x0 h_x1 h_x2 
theorem t_K_stopRecoveriesOf {T : Nat → Nat} {S : AS} (hT : TI T S) {a0 : Option Nat} {a1 : Option Nat} (h_a0 : Tx T 1 a0) (h_a1 : Tx T 13 a1) : Ho (f_K_stopRecoveriesOf  S a0 a1) (fun q => Rl T kw_K97 S 0 0 T q) := by
  have g0 := Rlrf hT
  unfold f_K_stopRecoveriesOf
  exact t_K_stopRecoveriesOf_L2   kr_FU S a0 a1 (0 : Int32) (Rlweak g0 (by decide +kernel) (by decide) (by decide)) h_a0 h_a1 (In_w (by decide : In 0 0 (0 : Int32)) (by decide) (by decide))  (by decide)
theorem t_K_leave_B19_2t13_3c1 {T : Nat → Nat} {S0 S : AS} (g : Rl T [] S0 0 0 T S) {x0 : Option Nat} {x2 : Option Nat} {y0 : Option Nat} (h_x0 : Tx T 1 x0) (h_x2 : Tx T 13 x2) (h_y0 : Tx T 13 y0) : Ho (f_K_leave_B19  S x0 x2 y0 (1 : Int32)) (PX T kw_K106 S0 1 6 ["java/lang/IndexOutOfBoundsException"] (fun v => True)) := by
  unfold f_K_leave_B19
  refine r_pZ (w' := kw_K103) g h_y0 rfl (by decide) (In_w (by decide : In 1 1 (1 : Int32)) (by decide) (by decide)) (fun _ _ q => by cases q; exact (In_w (by decide : In 1 1 (1 : Int32)) (by decide) (by decide))) rfl (by decide) (by decide +kernel) (by unfold phc; decide) (fun s1 g2 => ?_)
  refine r_gIe g2.1 h_x2 rfl (fun v2 b3 e4 => ?_)
  have q5 : In 0 1 v2 := b3 _ _ rfl
  refine r_if (fun c6 => ?_) (fun c6 => ?_)
  · have q7 : In 0 0 v2 := In_w (In_eq c6 (by decide : In 0 0 (0 : Int32))) (by decide) (by decide)
    exact r_some ⟨(Rlweak g2 (by decide +kernel) (by decide) (by decide)), Or.inl ⟨_, rfl, trivial⟩⟩
  · have q8 : In 1 1 v2 := In_w (In_neL c6 q5 (by decide)) (by decide) (by decide)
    refine r_rv g2.1 h_x0 rfl ?_
    refine r_bind (t_K_denyAttemptsOf g2.1 h_x0 h_x2) (fun s9 h10 => ?_)
    have g11 : Rl T kw_K104 S0 0 0 T s9 := Rltrans g2 h10 (by decide +kernel)
    refine r_rv g11.1 h_x0 rfl ?_
    refine r_bind (t_K_stopRecoveriesOf g11.1 h_x0 h_x2) (fun s12 h13 => ?_)
    have g14 : Rl T kw_K105 S0 0 0 T s12 := Rltrans g11 h13 (by decide +kernel)
    refine r_rv g14.1 h_x0 rfl ?_
    refine r_X (t_K_endSessionsOf g14.1 h_x0 h_x2) (fun v9 s16 g17 h15 => ?_) (fun e _ gg he => ⟨(Rlweak (Rltrans g14 gg (w' := kw_K106) (by decide +kernel)) (by decide +kernel) (by decide) (by decide)), Or.inr ⟨e, rfl, ((by decide +kernel : ∀ x ∈ ([] : List String), x ∈ (["java/lang/IndexOutOfBoundsException"] : List String)) e he)⟩⟩)
    have g18 : Rl T kw_K106 S0 0 0 T s16 := Rltrans g14 g17 (by decide +kernel)
    exact r_some ⟨(Rlweak g18 (by decide +kernel) (by decide) (by decide)), Or.inl ⟨_, rfl, trivial⟩⟩
theorem t_K_leave_B19_2t13_3c0 {T : Nat → Nat} {S0 S : AS} (g : Rl T [] S0 0 0 T S) {x0 : Option Nat} {x2 : Option Nat} {y0 : Option Nat} (h_x0 : Tx T 1 x0) (h_x2 : Tx T 13 x2) (h_y0 : Tx T 13 y0) : Ho (f_K_leave_B19  S x0 x2 y0 (0 : Int32)) (PX T kw_K106 S0 1 6 ["java/lang/IndexOutOfBoundsException"] (fun v => True)) := by
  unfold f_K_leave_B19
  refine r_pZ (w' := kw_K103) g h_y0 rfl (by decide) (In_w (by decide : In 0 0 (0 : Int32)) (by decide) (by decide)) (fun _ _ q => by cases q; exact (In_w (by decide : In 0 0 (0 : Int32)) (by decide) (by decide))) rfl (by decide) (by decide +kernel) (by unfold phc; decide) (fun s1 g2 => ?_)
  refine r_gIe g2.1 h_x2 rfl (fun v2 b3 e4 => ?_)
  have q5 : In 0 1 v2 := b3 _ _ rfl
  refine r_if (fun c6 => ?_) (fun c6 => ?_)
  · have q7 : In 0 0 v2 := In_w (In_eq c6 (by decide : In 0 0 (0 : Int32))) (by decide) (by decide)
    exact r_some ⟨(Rlweak g2 (by decide +kernel) (by decide) (by decide)), Or.inl ⟨_, rfl, trivial⟩⟩
  · have q8 : In 1 1 v2 := In_w (In_neL c6 q5 (by decide)) (by decide) (by decide)
    refine r_rv g2.1 h_x0 rfl ?_
    refine r_bind (t_K_denyAttemptsOf g2.1 h_x0 h_x2) (fun s9 h10 => ?_)
    have g11 : Rl T kw_K104 S0 0 0 T s9 := Rltrans g2 h10 (by decide +kernel)
    refine r_rv g11.1 h_x0 rfl ?_
    refine r_bind (t_K_stopRecoveriesOf g11.1 h_x0 h_x2) (fun s12 h13 => ?_)
    have g14 : Rl T kw_K105 S0 0 0 T s12 := Rltrans g11 h13 (by decide +kernel)
    refine r_rv g14.1 h_x0 rfl ?_
    refine r_X (t_K_endSessionsOf g14.1 h_x0 h_x2) (fun v9 s16 g17 h15 => ?_) (fun e _ gg he => ⟨(Rlweak (Rltrans g14 gg (w' := kw_K106) (by decide +kernel)) (by decide +kernel) (by decide) (by decide)), Or.inr ⟨e, rfl, ((by decide +kernel : ∀ x ∈ ([] : List String), x ∈ (["java/lang/IndexOutOfBoundsException"] : List String)) e he)⟩⟩)
    have g18 : Rl T kw_K106 S0 0 0 T s16 := Rltrans g14 g17 (by decide +kernel)
    exact r_some ⟨(Rlweak g18 (by decide +kernel) (by decide) (by decide)), Or.inl ⟨_, rfl, trivial⟩⟩
theorem t_K_leave {T : Nat → Nat} {S : AS} (hT : TI T S) {a0 : Option Nat} {a1 : Int32} (h_a0 : Tx T 1 a0) : Ho (f_K_leave  S a0 a1) (PX T kw_K106 S 1 6 ["java/lang/IndexOutOfBoundsException"] (fun v => True)) := by
  have g0 := Rlrf hT
  unfold f_K_leave
  refine r_rv g0.1 h_a0 rfl ?_
  refine r_T (t_K_findPerson g0.1 h_a0) (fun v12 h1 => ?_) (fun e he => ⟨(Rlweak (RlwX g0) (by decide +kernel) (by decide) (by decide)), Or.inr ⟨e, rfl, ((by decide +kernel : ∀ x ∈ (["java/lang/IndexOutOfBoundsException"] : List String), x ∈ (["java/lang/IndexOutOfBoundsException"] : List String)) e he)⟩⟩)
  refine r_gIe g0.1 h1 rfl (fun v13 b2 e3 => ?_)
  have q4 : In 0 1 v13 := b2 _ _ rfl
  refine r_if (fun c5 => ?_) (fun c5 => ?_)
  · have q6 : In 0 0 v13 := In_w (In_eq c5 (by decide : In 0 0 (0 : Int32))) (by decide) (by decide)
    exact t_K_leave_B19_2t13_3c1 (Rlweak g0 (by decide +kernel) (by decide) (by decide))  h_a0 h1 h1 
  · have q7 : In 1 1 v13 := In_w (In_neL c5 q4 (by decide)) (by decide) (by decide)
    exact t_K_leave_B19_2t13_3c0 (Rlweak g0 (by decide +kernel) (by decide) (by decide))  h_a0 h1 h1 
theorem t_K_audits {T : Nat → Nat} {S : AS} (hT : TI T S) {a0 : Option Nat} (h_a0 : Tx T 1 a0) : Ho (f_K_audits  S a0) (fun q => q.2 = S ∧ In 0 1024 q.1) := by
  unfold f_K_audits
  refine r_gR hT h_a0 rfl rfl (fun v1 h1 => ?_)
  refine r_gIe hT h1 rfl (fun v2 b2 e3 => ?_)
  have q4 : In 0 1024 v2 := b2 _ _ rfl
  exact r_some ⟨rfl, (In_w q4 (by decide) (by decide))⟩
theorem t_K_audit {T : Nat → Nat} {S : AS} (hT : TI T S) {a0 : Option Nat} {a1 : Int32} (h_a0 : Tx T 1 a0) : Ho (f_K_audit  S a0 a1) (PT S ["java/lang/IndexOutOfBoundsException"] (fun v => True)) := by
  unfold f_K_audit
  refine r_gR hT h_a0 rfl rfl (fun v1 h1 => ?_)
  refine r_gIe hT h1 rfl (fun v2 b2 e3 => ?_)
  have q4 : In 0 1024 v2 := b2 _ _ rfl
  refine r_rI (fun p5 c6 => ?_) (Or.inr ⟨_, rfl, rfl, by decide +kernel⟩)
  have q7 : In 0 2147483647 a1 := ⟨p5, (In_top a1).2⟩
  have q8 : In 0 1023 a1 := In_w (In_lt1 c6 q7 q4) (by decide) (by decide)
  refine r_gR hT h_a0 rfl rfl (fun v5 h9 => ?_)
  refine r_rv hT h9 rfl ?_
  refine r_P (P := fun v => True) (t_Audit_entryAt hT h9) (fun v8 h10 => ?_)
  exact r_some (Or.inl ⟨_, rfl, rfl, trivial⟩)
theorem t_K_sum {T : Nat → Nat} {S : AS} (hT : TI T S) {a0 : Option Nat} (h_a0 : Tx T 1 a0) : Ho (f_K_sum  S a0) (fun q => q.2 = S ∧ True) := by
  unfold f_K_sum
  refine r_gR hT h_a0 rfl rfl (fun v1 h1 => ?_)
  refine r_gIe hT h1 rfl (fun v2 b2 e3 => ?_)
  exact r_some ⟨rfl, trivial⟩
theorem t_K_sumAnew {T : Nat → Nat} {S : AS} (hT : TI T S) {a0 : Option Nat} {a1 : Int32} (h_a0 : Tx T 1 a0) : Ho (f_K_sumAnew  S a0 a1) (PT S ["java/lang/IndexOutOfBoundsException"] (fun v => True)) := by
  unfold f_K_sumAnew
  refine r_gR hT h_a0 rfl rfl (fun v1 h1 => ?_)
  refine r_gIe hT h1 rfl (fun v2 b2 e3 => ?_)
  have q4 : In 0 1024 v2 := b2 _ _ rfl
  refine r_rI (fun p5 c6 => ?_) (Or.inr ⟨_, rfl, rfl, by decide +kernel⟩)
  have q7 : In 0 2147483647 a1 := ⟨p5, (In_top a1).2⟩
  have q8 : In 0 1024 a1 := In_w (In_lt1 c6 q7 (In_w (In_add q4 (by decide : In 1 1 (1 : Int32)) (by decide) (by decide)) (by decide) (by decide) : In 1 1025 (v2 + (1 : Int32)))) (by decide) (by decide)
  refine r_gR hT h_a0 rfl rfl (fun v5 h9 => ?_)
  refine r_rv hT h9 rfl ?_
  refine r_P (P := fun v => True) (t_Audit_totalOfFirst hT h9 (In_w q8 (by decide) (by decide))) (fun v8 h10 => ?_)
  exact r_some (Or.inl ⟨_, rfl, rfl, trivial⟩)
